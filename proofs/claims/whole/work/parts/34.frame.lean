/-! FRAMES: what a function may write (by program) -/
def mW (l : List (Nat × Option Nat)) (a k : Nat) : Bool := l.any (fun e => Nat.beq e.1 a && (match e.2 with
  | none => true
  | some j => Nat.beq j k))
def Fr (l : List (Nat × Option Nat)) (s s' : mSG) : Prop := ∀ a k, mW l a k = false → s'.1 a k = s.1 a k ∧ s'.2.1 a k = s.2.1 a k ∧ s'.2.2 a k = s.2.2 a k
theorem Fr.rf {l : List (Nat × Option Nat)} {s : mSG} : Fr l s s := fun _ _ _ => ⟨rfl, rfl, rfl⟩
theorem Fr.tr {l : List (Nat × Option Nat)} {s s' s'' : mSG} (h : Fr l s s') (h' : Fr l s' s'') : Fr l s s'' := fun a k hw => ⟨(h' a k hw).1.trans (h a k hw).1, (h' a k hw).2.1.trans (h a k hw).2.1, (h' a k hw).2.2.trans (h a k hw).2.2⟩
theorem mW_mono {l l' : List (Nat × Option Nat)} (hs : l.all (fun e => l'.contains e || l'.contains (e.1, none)) = true) {a k : Nat} (h : mW l' a k = false) : mW l a k = false := by
  unfold mW at h ⊢
  rw [List.any_eq_false] at h ⊢
  intro e he
  have h1 := List.all_eq_true.mp hs e he
  simp only [Bool.or_eq_true, List.contains_iff_mem] at h1
  rcases h1 with h1 | h1
  · exact h e h1
  · intro q
    simp only [Bool.and_eq_true] at q
    exact h _ h1 (by simp [q.1])
theorem Fr.mono {l l' : List (Nat × Option Nat)} {s s' : mSG} (h : Fr l s s') (hs : l.all (fun e => l'.contains e || l'.contains (e.1, none)) = true) : Fr l' s s' := fun a k hw => h a k (mW_mono hs hw)
theorem mUp_out {α : Type} {f : Nat → Nat → α} {l : List (Nat × Option Nat)} {a i b j : Nat} {v : α} (hw : mW l a i = true) (h : mW l b j = false) : mUp f a i v b j = f b j := by
  unfold mUp
  by_cases e : b = a
  · by_cases e2 : j = i
    · subst e; subst e2; rw [hw] at h; cases h
    · rw [if_pos e, if_neg e2]
  · rw [if_neg e]
theorem Fr.wI {l : List (Nat × Option Nat)} {s s' : mSG} {a i : Nat} {v : Int32} (h : Fr l s s') (hw : mW l a i = true) : Fr l s (sI s' a i v) := fun b j hb => ⟨(mUp_out hw hb).trans (h b j hb).1, (h b j hb).2.1, (h b j hb).2.2⟩
theorem Fr.wJ {l : List (Nat × Option Nat)} {s s' : mSG} {a i : Nat} {v : Int64} (h : Fr l s s') (hw : mW l a i = true) : Fr l s (sJ s' a i v) := fun b j hb => ⟨(h b j hb).1, (h b j hb).2.1, (mUp_out hw hb).trans (h b j hb).2.2⟩
theorem Fr.wQ {l : List (Nat × Option Nat)} {s s' : mSG} {a i : Nat} {v : Nat} (h : Fr l s s') (hw : mW l a i = true) : Fr l s (sQ s' a i v) := fun b j hb => ⟨(h b j hb).1, (mUp_out hw hb).trans (h b j hb).2.1, (h b j hb).2.2⟩
theorem Fr.wC {l : List (Nat × Option Nat)} {s s' : mSG} {a b sp dp n : Nat} (h : Fr l s s') (hw : ∀ k, mW l b k = true) : Fr l s (sC s' a b sp dp n) := fun c j hc => by
  refine ⟨?_, (h c j hc).2.1, (h c j hc).2.2⟩
  have e : c ≠ b := fun q => by subst q; rw [hw j] at hc; cases hc
  show mUr s'.1 b _ c j = _
  rw [mUr_ne e]
  exact (h c j hc).1
/-- of a loop's round: of the next state, and of the way out -/
def FrS {σ ε : Type} (l : List (Nat × Option Nat)) (hy : σ → mSG) (he : ε → mSG) (s : mSG) (o : σ ⊕ ε) : Prop := (∀ y, o = .inl y → Fr l s (hy y)) ∧ (∀ y, o = .inr y → Fr l s (he y))
theorem FrS.tr {σ ε : Type} {l : List (Nat × Option Nat)} {hy : σ → mSG} {he : ε → mSG} {s s' : mSG} {o : σ ⊕ ε} (h : Fr l s s') (h' : FrS l hy he s' o) : FrS l hy he s o := ⟨fun y e => h.tr (h'.1 y e), fun y e => h.tr (h'.2 y e)⟩
theorem FrS.iter {σ ε : Type} {l : List (Nat × Option Nat)} {hy : σ → mSG} {he : ε → mSG} {b : σ → Option (σ ⊕ ε)} (hb : ∀ x o, b x = some o → FrS l hy he (hy x) o) : ∀ n x e, _root_.Jvm.Pilot.@@N@@.iter b n x = some e → Fr l (hy x) (he e) := by
  intro n
  induction n with
  | zero => intro x e h; cases h
  | succ n ih =>
    intro x e h
    unfold _root_.Jvm.Pilot.@@N@@.iter at h
    cases hx : b x with
    | none => rw [hx] at h; cases h
    | some o =>
      rw [hx] at h
      have hf := hb x o hx
      cases o with
      | inl y => exact (hf.1 y rfl).tr (ih y e h)
      | inr e' => cases h; exact hf.2 _ rfl
def W_X1_readNumber : List (Nat × Option Nat) := [(25, some 5), (25, some 6), (25, some 8)]
theorem FR_X1_readNumber_b5 (t : mTX) (s : mSG) (o : mSG ⊕ mSG) (h : X1_readNumber_b5 t s = some o) : FrS W_X1_readNumber (fun y : mSG => y) ((fun y : mSG => y)) s o := by
  unfold X1_readNumber_b5 at h
  by_cases hc : (s.1 25 4) ≤ (s.1 25 8)
  · rw [if_pos hc] at h
    obtain rfl := Option.some.inj h
    exact ⟨fun y hy => (by cases hy), fun y hy => by obtain rfl := Sum.inr.inj hy; exact Fr.rf⟩
  · rw [if_neg hc] at h
    obtain ⟨a2, -, h⟩ := m_bind h
    obtain ⟨-, h⟩ := m_ite h
    by_cases hc : X1_isDigit (s.1 a2 (s.1 25 8).toNatClampNeg) = true
    · rw [if_pos hc] at h
      obtain ⟨a3, -, h⟩ := m_bind h
      obtain ⟨-, h⟩ := m_ite h
      obtain rfl := Option.some.inj h
      exact ⟨fun y hy => by obtain rfl := Sum.inl.inj hy; exact (Fr.wI (Fr.wI Fr.rf rfl) rfl), fun y hy => by cases hy⟩
    · rw [if_neg hc] at h
      obtain rfl := Option.some.inj h
      exact ⟨fun y hy => (by cases hy), fun y hy => by obtain rfl := Sum.inr.inj hy; exact Fr.rf⟩

theorem FR_X1_readNumber_l5 (t : mTX) (v : mSG) (e : mSG) (h : X1_readNumber_l5 t v = some e) : Fr W_X1_readNumber v ((fun y : mSG => y) e) :=
  FrS.iter (hy := fun y : mSG => y) (he := (fun y : mSG => y)) (fun x o hx => FR_X1_readNumber_b5 t x o hx) mFU v e h
theorem FR_X1_readNumber_j68 (t : mTX) (s : mSG) (o : mSG) (h : X1_readNumber_j68 t s = some o) : Fr W_X1_readNumber s o := by
  unfold X1_readNumber_j68 at h
  by_cases hc : ((s.1 25 8) - (s.1 25 7)) ≤ 4
  · rw [if_pos hc] at h
    obtain rfl := Option.some.inj h
    exact (Fr.wI Fr.rf rfl)
  · rw [if_neg hc] at h
    obtain rfl := Option.some.inj h
    exact (Fr.wI Fr.rf rfl)

theorem FR_X1_readNumber (t : mTX) (s : mSG) (o : mSG) (h : X1_readNumber t s = some o) : Fr W_X1_readNumber s o := by
  unfold X1_readNumber at h
  obtain ⟨e5, hl, h⟩ := m_bind h
  have fl5 : Fr W_X1_readNumber s ((fun y : mSG => y) e5) := Fr.tr (Fr.wI Fr.rf rfl) (FR_X1_readNumber_l5 _ _ _ hl)
  exact Fr.tr fl5 (FR_X1_readNumber_j68 _ _ _ h)

def W_X1_readWord : List (Nat × Option Nat) := [(25, some 5), (25, some 8)]
theorem FR_X1_readWord_b0 (t : mTX) (s : mSG) (o : mSG ⊕ mSG) (h : X1_readWord_b0 t s = some o) : FrS W_X1_readWord (fun y : mSG => y) ((fun y : mSG => y)) s o := by
  unfold X1_readWord_b0 at h
  by_cases hc : (s.1 25 4) ≤ (s.1 25 8)
  · rw [if_pos hc] at h
    obtain rfl := Option.some.inj h
    exact ⟨fun y hy => (by cases hy), fun y hy => by obtain rfl := Sum.inr.inj hy; exact Fr.rf⟩
  · rw [if_neg hc] at h
    obtain ⟨a2, -, h⟩ := m_bind h
    obtain ⟨-, h⟩ := m_ite h
    by_cases hc : X1_isLetter (s.1 a2 (s.1 25 8).toNatClampNeg) = true
    · rw [if_pos hc] at h
      obtain rfl := Option.some.inj h
      exact ⟨fun y hy => by obtain rfl := Sum.inl.inj hy; exact (Fr.wI Fr.rf rfl), fun y hy => by cases hy⟩
    · rw [if_neg hc] at h
      obtain rfl := Option.some.inj h
      exact ⟨fun y hy => (by cases hy), fun y hy => by obtain rfl := Sum.inr.inj hy; exact Fr.rf⟩

theorem FR_X1_readWord_l0 (t : mTX) (v : mSG) (e : mSG) (h : X1_readWord_l0 t v = some e) : Fr W_X1_readWord v ((fun y : mSG => y) e) :=
  FrS.iter (hy := fun y : mSG => y) (he := (fun y : mSG => y)) (fun x o hx => FR_X1_readWord_b0 t x o hx) mFU v e h
theorem FR_X1_readWord_j93_52 (t : mTX) (x1 : Int32) (x2 : Int32) (x3 : Int32) (s : mSG) (o : (Int32 × Int32 × Int32 × mSG) ⊕ mSG) (h : X1_readWord_j93_52 t x1 x2 x3 s = some o) : FrS W_X1_readWord (fun y : Int32 × Int32 × Int32 × mSG => y.2.2.2) ((fun y : mSG => y)) s o := by
  unfold X1_readWord_j93_52 at h
  obtain rfl := Option.some.inj h
  exact ⟨fun y hy => by obtain rfl := Sum.inl.inj hy; exact Fr.rf, fun y hy => by cases hy⟩

theorem FR_X1_readWord_j86_52 (t : mTX) (x1 : Int32) (x3 : Int32) (s : mSG) (o : (Int32 × Int32 × Int32 × mSG) ⊕ mSG) (h : X1_readWord_j86_52 t x1 x3 s = some o) : FrS W_X1_readWord (fun y : Int32 × Int32 × Int32 × mSG => y.2.2.2) ((fun y : mSG => y)) s o := by
  unfold X1_readWord_j86_52 at h
  exact FrS.tr Fr.rf (FR_X1_readWord_j93_52 _ _ _ _ _ _ h)

theorem FR_X1_readWord_b52 (t : mTX) (x1 : Int32) (x2 : Int32) (x3 : Int32) (s : mSG) (o : (Int32 × Int32 × Int32 × mSG) ⊕ mSG) (h : X1_readWord_b52 t x1 x2 x3 s = some o) : FrS W_X1_readWord (fun y : Int32 × Int32 × Int32 × mSG => y.2.2.2) ((fun y : mSG => y)) s o := by
  unfold X1_readWord_b52 at h
  by_cases hc : 55 ≤ x3
  · rw [if_pos hc] at h
    obtain rfl := Option.some.inj h
    exact ⟨fun y hy => (by cases hy), fun y hy => by obtain rfl := Sum.inr.inj hy; exact Fr.rf⟩
  · rw [if_neg hc] at h
    obtain ⟨-, h⟩ := m_ite h
    by_cases hc : (mChr 3 x3 s) = 32
    · rw [if_pos hc] at h
      obtain ⟨r5, hr, h⟩ := m_bind h
      by_cases hc : r5 = true
      · rw [if_pos hc] at h
        exact FrS.tr (Fr.wI Fr.rf rfl) (FR_X1_readWord_j86_52 _ _ _ _ _ h)
      · rw [if_neg hc] at h
        exact FrS.tr Fr.rf (FR_X1_readWord_j86_52 _ _ _ _ _ h)
    · rw [if_neg hc] at h
      exact FrS.tr Fr.rf (FR_X1_readWord_j93_52 _ _ _ _ _ _ h)

theorem FR_X1_readWord_l52 (t : mTX) (v : Int32 × Int32 × Int32 × mSG) (e : mSG) (h : X1_readWord_l52 t v = some e) : Fr W_X1_readWord v.2.2.2 ((fun y : mSG => y) e) :=
  FrS.iter (hy := fun y : Int32 × Int32 × Int32 × mSG => y.2.2.2) (he := (fun y : mSG => y)) (fun x o hx => FR_X1_readWord_b52 t x.1 x.2.1 x.2.2.1 x.2.2.2 o hx) mFU v e h
theorem FR_X1_readWord_j39 (t : mTX) (s : mSG) (o : mSG) (h : X1_readWord_j39 t s = some o) : Fr W_X1_readWord s o := by
  unfold X1_readWord_j39 at h
  obtain ⟨e52, hl, h⟩ := m_bind h
  have fl52 : Fr W_X1_readWord s ((fun y : mSG => y) e52) := Fr.tr (Fr.wI Fr.rf rfl) (FR_X1_readWord_l52 _ _ _ hl)
  obtain rfl := Option.some.inj h
  exact fl52

theorem FR_X1_readWord (t : mTX) (s : mSG) (o : mSG) (h : X1_readWord t s = some o) : Fr W_X1_readWord s o := by
  unfold X1_readWord at h
  obtain ⟨e0, hl, h⟩ := m_bind h
  have fl0 : Fr W_X1_readWord s ((fun y : mSG => y) e0) := Fr.tr Fr.rf (FR_X1_readWord_l0 _ _ _ hl)
  exact Fr.tr fl0 (FR_X1_readWord_j39 _ _ _ h)

def W_X1_advance : List (Nat × Option Nat) := [(25, some 5), (25, some 6), (25, some 7), (25, some 8)]
theorem FR_X1_advance_j47_8 (t : mTX) (s : mSG) (o : mSG ⊕ mSG) (h : X1_advance_j47_8 t s = some o) : FrS W_X1_advance (fun y : mSG => y) ((fun y : mSG => y)) s o := by
  unfold X1_advance_j47_8 at h
  obtain rfl := Option.some.inj h
  exact ⟨fun y hy => by obtain rfl := Sum.inl.inj hy; exact (Fr.wI Fr.rf rfl), fun y hy => by cases hy⟩

theorem FR_X1_advance_b8 (t : mTX) (s : mSG) (o : mSG ⊕ mSG) (h : X1_advance_b8 t s = some o) : FrS W_X1_advance (fun y : mSG => y) ((fun y : mSG => y)) s o := by
  unfold X1_advance_b8 at h
  by_cases hc : (s.1 25 4) ≤ (s.1 25 7)
  · rw [if_pos hc] at h
    obtain rfl := Option.some.inj h
    exact ⟨fun y hy => (by cases hy), fun y hy => by obtain rfl := Sum.inr.inj hy; exact Fr.rf⟩
  · rw [if_neg hc] at h
    obtain ⟨a2, -, h⟩ := m_bind h
    obtain ⟨-, h⟩ := m_ite h
    by_cases hc : (s.1 a2 (s.1 25 7).toNatClampNeg) = 32
    · rw [if_pos hc] at h
      exact FrS.tr Fr.rf (FR_X1_advance_j47_8 _ _ _ h)
    · rw [if_neg hc] at h
      obtain ⟨a4, -, h⟩ := m_bind h
      obtain ⟨-, h⟩ := m_ite h
      by_cases hc : (s.1 a4 (s.1 25 7).toNatClampNeg) = 10
      · rw [if_pos hc] at h
        exact FrS.tr Fr.rf (FR_X1_advance_j47_8 _ _ _ h)
      · rw [if_neg hc] at h
        obtain rfl := Option.some.inj h
        exact ⟨fun y hy => (by cases hy), fun y hy => by obtain rfl := Sum.inr.inj hy; exact Fr.rf⟩

theorem FR_X1_advance_l8 (t : mTX) (v : mSG) (e : mSG) (h : X1_advance_l8 t v = some e) : Fr W_X1_advance v ((fun y : mSG => y) e) :=
  FrS.iter (hy := fun y : mSG => y) (he := (fun y : mSG => y)) (fun x o hx => FR_X1_advance_b8 t x o hx) mFU v e h
theorem FR_X1_advance_j60 (t : mTX) (s : mSG) (o : mSG) (h : X1_advance_j60 t s = some o) : Fr W_X1_advance s o := by
  unfold X1_advance_j60 at h
  by_cases hc : (s.1 25 7) < (s.1 25 4)
  · rw [if_pos hc] at h
    obtain ⟨a7, -, h⟩ := m_bind h
    obtain ⟨-, h⟩ := m_ite h
    by_cases hc : X1_isLetter ((sI s 25 8 (s.1 25 7)).1 a7 (s.1 25 7).toNatClampNeg) = true
    · rw [if_pos hc] at h
      obtain ⟨r9, hr, h⟩ := m_bind h
      have fr9 : Fr W_X1_advance s r9 := Fr.tr (Fr.wI Fr.rf rfl) (Fr.mono (FR_X1_readWord _ _ _ hr) rfl)
      obtain rfl := Option.some.inj h
      exact fr9
    · rw [if_neg hc] at h
      by_cases hc : X1_isDigit ((sI s 25 8 (s.1 25 7)).1 a7 (s.1 25 7).toNatClampNeg) = true
      · rw [if_pos hc] at h
        obtain ⟨r8, hr, h⟩ := m_bind h
        have fr8 : Fr W_X1_advance s r8 := Fr.tr (Fr.wI Fr.rf rfl) (Fr.mono (FR_X1_readNumber _ _ _ hr) rfl)
        obtain rfl := Option.some.inj h
        exact fr8
      · rw [if_neg hc] at h
        by_cases hc : X1_isSign ((sI s 25 8 (s.1 25 7)).1 a7 (s.1 25 7).toNatClampNeg) = true
        · rw [if_pos hc] at h
          obtain rfl := Option.some.inj h
          exact (Fr.wI (Fr.wI (Fr.wI Fr.rf rfl) rfl) rfl)
        · rw [if_neg hc] at h
          obtain rfl := Option.some.inj h
          exact (Fr.wI (Fr.wI (Fr.wI Fr.rf rfl) rfl) rfl)
  · rw [if_neg hc] at h
    obtain rfl := Option.some.inj h
    exact (Fr.wI (Fr.wI Fr.rf rfl) rfl)

theorem FR_X1_advance (t : mTX) (s : mSG) (o : mSG) (h : X1_advance t s = some o) : Fr W_X1_advance s o := by
  unfold X1_advance at h
  obtain ⟨e8, hl, h⟩ := m_bind h
  have fl8 : Fr W_X1_advance s ((fun y : mSG => y) e8) := Fr.tr (Fr.wI Fr.rf rfl) (FR_X1_advance_l8 _ _ _ hl)
  exact Fr.tr fl8 (FR_X1_advance_j60 _ _ _ h)

def W_X1_takes : List (Nat × Option Nat) := [(25, some 5), (25, some 6), (25, some 7), (25, some 8)]
theorem FR_X1_takes (t : mTX) (x1 : Int32) (s : mSG) (o : Bool × mSG) (h : X1_takes t x1 s = some o) : Fr W_X1_takes s o.2 := by
  unfold X1_takes at h
  by_cases hc : (s.1 25 5) = x1
  · rw [if_pos hc] at h
    obtain ⟨r2, hr, h⟩ := m_bind h
    have fr2 : Fr W_X1_takes s r2 := Fr.tr Fr.rf (Fr.mono (FR_X1_advance _ _ _ hr) rfl)
    obtain rfl := Option.some.inj h
    exact fr2
  · rw [if_neg hc] at h
    obtain rfl := Option.some.inj h
    exact Fr.rf

def W_X1_emit : List (Nat × Option Nat) := [(25, some 2), (26, none)]
theorem FR_X1_emit (x1 : Int32) (s : mSG) (o : mSG) (h : X1_emit x1 s = some o) : Fr W_X1_emit s o := by
  unfold X1_emit at h
  by_cases hc : 160 ≤ (s.1 25 2)
  · rw [if_pos hc] at h
    obtain rfl := Option.some.inj h
    exact Fr.rf
  · rw [if_neg hc] at h
    obtain ⟨-, h⟩ := m_ite h
    obtain rfl := Option.some.inj h
    exact (Fr.wI (Fr.wI Fr.rf rfl) rfl)

def W_X1_opens : List (Nat × Option Nat) := [(25, some 5), (25, some 6), (25, some 7), (25, some 8)]
theorem FR_X1_opens (t : mTX) (x1 : Int32) (s : mSG) (o : Bool × mSG) (h : X1_opens t x1 s = some o) : Fr W_X1_opens s o.2 := by
  unfold X1_opens at h
  by_cases hc : x1 < 5
  · rw [if_pos hc] at h
    obtain ⟨r2, hr, h⟩ := m_bind h
    have fr2 : Fr W_X1_opens s r2 := Fr.tr Fr.rf (Fr.mono (FR_X1_advance _ _ _ hr) rfl)
    obtain rfl := Option.some.inj h
    exact fr2
  · rw [if_neg hc] at h
    obtain rfl := Option.some.inj h
    exact Fr.rf

def W_X1_R : List (Nat × Option Nat) := [(25, some 2), (25, some 5), (25, some 6), (25, some 7), (25, some 8), (26, none)]
theorem FR_X1_readsBoth_b12 (rc : Nat → Int32 → mSG → Option (Bool × mSG)) (hrc : ∀ i q s b, rc i q s = some b → Fr W_X1_R s b.2) (t : mTX) (x1 : Int32) (x2 : Int32) (s : mSG) (o : (Int32 × mSG) ⊕ (mSG ⊕ mSG)) (h : X1_readsBoth_b12 t rc x1 x2 s = some o) : FrS W_X1_R (fun y : Int32 × mSG => y.2) ((Sum.elim (fun y : mSG => y) (fun y : mSG => y))) s o := by
  unfold X1_readsBoth_b12 at h
  by_cases hc : 160 ≤ x2
  · rw [if_pos hc] at h
    obtain rfl := Option.some.inj h
    exact ⟨fun y hy => (by cases hy), fun y hy => by obtain rfl := Sum.inr.inj hy; exact Fr.rf⟩
  · rw [if_neg hc] at h
    obtain ⟨r3, hr, h⟩ := m_bind h
    have fr3 : Fr W_X1_R s r3.2 := Fr.tr Fr.rf (Fr.mono (FR_X1_takes _ _ _ _ hr) rfl)
    by_cases hc : r3.1 = true
    · rw [if_pos hc] at h
      obtain ⟨r4, hr, h⟩ := m_bind h
      have fr4 : Fr W_X1_R s r4.2 := Fr.tr fr3 (hrc _ _ _ _ hr)
      by_cases hc : r4.1 = true
      · rw [if_pos hc] at h
        obtain ⟨r5, hr, h⟩ := m_bind h
        have fr5 : Fr W_X1_R s r5 := Fr.tr fr4 (Fr.mono (FR_X1_emit _ _ _ hr) rfl)
        obtain rfl := Option.some.inj h
        exact ⟨fun y hy => by obtain rfl := Sum.inl.inj hy; exact fr5, fun y hy => by cases hy⟩
      · rw [if_neg hc] at h
        obtain rfl := Option.some.inj h
        exact ⟨fun y hy => (by cases hy), fun y hy => by obtain rfl := Sum.inr.inj hy; exact fr4⟩
    · rw [if_neg hc] at h
      obtain rfl := Option.some.inj h
      exact ⟨fun y hy => (by cases hy), fun y hy => by obtain rfl := Sum.inr.inj hy; exact fr3⟩

theorem FR_X1_readsBoth_l12 (rc : Nat → Int32 → mSG → Option (Bool × mSG)) (hrc : ∀ i q s b, rc i q s = some b → Fr W_X1_R s b.2) (t : mTX) (x1 : Int32) (v : Int32 × mSG) (e : (mSG ⊕ mSG)) (h : X1_readsBoth_l12 t rc x1 v = some e) : Fr W_X1_R v.2 ((Sum.elim (fun y : mSG => y) (fun y : mSG => y)) e) :=
  FrS.iter (hy := fun y : Int32 × mSG => y.2) (he := (Sum.elim (fun y : mSG => y) (fun y : mSG => y))) (fun x o hx => FR_X1_readsBoth_b12 rc hrc t x1 x.1 x.2 o hx) mFU v e h
theorem FR_X1_readsBoth_B (rc : Nat → Int32 → mSG → Option (Bool × mSG)) (hrc : ∀ i q s b, rc i q s = some b → Fr W_X1_R s b.2) (t : mTX) (x1 : Int32) (s : mSG) (o : Bool × mSG) (h : X1_readsBoth_B t rc x1 s = some o) : Fr W_X1_R s o.2 := by
  unfold X1_readsBoth_B at h
  obtain ⟨r1, hr, h⟩ := m_bind h
  have fr1 : Fr W_X1_R s r1.2 := Fr.tr Fr.rf (hrc _ _ _ _ hr)
  by_cases hc : r1.1 = true
  · rw [if_pos hc] at h
    obtain ⟨e12, hl, h⟩ := m_bind h
    have fl12 : Fr W_X1_R s ((Sum.elim (fun y : mSG => y) (fun y : mSG => y)) e12) := Fr.tr fr1 (FR_X1_readsBoth_l12 rc hrc _ _ _ _ hl)
    cases e12 with
    | inl e12_0 =>
      simp only [Sum.elim_inl] at h
      obtain rfl := Option.some.inj h
      exact fl12
    | inr e12_1 =>
      simp only [Sum.elim_inr] at h
      obtain rfl := Option.some.inj h
      exact fl12
  · rw [if_neg hc] at h
    obtain rfl := Option.some.inj h
    exact fr1

theorem FR_X1_readsNot_j95 (rc : Nat → Int32 → mSG → Option (Bool × mSG)) (hrc : ∀ i q s b, rc i q s = some b → Fr W_X1_R s b.2) (t : mTX) (p1 : Int32) (s : mSG) (o : Bool × mSG) (h : X1_readsNot_j95 t rc p1 s = some o) : Fr W_X1_R s o.2 := by
  unfold X1_readsNot_j95 at h
  obtain ⟨r11, hr, h⟩ := m_bind h
  have fr11 : Fr W_X1_R s r11 := Fr.tr Fr.rf (Fr.mono (FR_X1_emit _ _ _ hr) rfl)
  obtain rfl := Option.some.inj h
  exact fr11

theorem FR_X1_readsNot_j67 (rc : Nat → Int32 → mSG → Option (Bool × mSG)) (hrc : ∀ i q s b, rc i q s = some b → Fr W_X1_R s b.2) (t : mTX) (x1 : Int32) (x2 : Int32) (s : mSG) (o : Bool × mSG) (h : X1_readsNot_j67 t rc x1 x2 s = some o) : Fr W_X1_R s o.2 := by
  unfold X1_readsNot_j67 at h
  obtain ⟨r8, hr, h⟩ := m_bind h
  have fr8 : Fr W_X1_R s r8 := Fr.tr Fr.rf (Fr.mono (FR_X1_advance _ _ _ hr) rfl)
  obtain ⟨r9, hr, h⟩ := m_bind h
  have fr9 : Fr W_X1_R s r9.2 := Fr.tr fr8 (hrc _ _ _ _ hr)
  by_cases hc : r9.1 = true
  · rw [if_pos hc] at h
    by_cases hc : x2 = 60
    · rw [if_pos hc] at h
      exact Fr.tr fr9 (FR_X1_readsNot_j95 rc hrc _ _ _ _ h)
    · rw [if_neg hc] at h
      exact Fr.tr fr9 (FR_X1_readsNot_j95 rc hrc _ _ _ _ h)
  · rw [if_neg hc] at h
    obtain rfl := Option.some.inj h
    exact fr9

theorem FR_X1_readsNot_B (rc : Nat → Int32 → mSG → Option (Bool × mSG)) (hrc : ∀ i q s b, rc i q s = some b → Fr W_X1_R s b.2) (t : mTX) (x1 : Int32) (s : mSG) (o : Bool × mSG) (h : X1_readsNot_B t rc x1 s = some o) : Fr W_X1_R s o.2 := by
  unfold X1_readsNot_B at h
  by_cases hc : (s.1 25 5) = 267
  · rw [if_pos hc] at h
    obtain ⟨r2, hr, h⟩ := m_bind h
    have fr2 : Fr W_X1_R s r2.2 := Fr.tr Fr.rf (Fr.mono (FR_X1_opens _ _ _ _ hr) rfl)
    by_cases hc : r2.1 = true
    · rw [if_pos hc] at h
      obtain ⟨r3, hr, h⟩ := m_bind h
      have fr3 : Fr W_X1_R s r3.2 := Fr.tr fr2 (hrc _ _ _ _ hr)
      by_cases hc : r3.1 = true
      · rw [if_pos hc] at h
        obtain ⟨r4, hr, h⟩ := m_bind h
        have fr4 : Fr W_X1_R s r4 := Fr.tr fr3 (Fr.mono (FR_X1_emit _ _ _ hr) rfl)
        obtain rfl := Option.some.inj h
        exact fr4
      · rw [if_neg hc] at h
        obtain rfl := Option.some.inj h
        exact fr3
    · rw [if_neg hc] at h
      obtain rfl := Option.some.inj h
      exact fr2
  · rw [if_neg hc] at h
    obtain ⟨r5, hr, h⟩ := m_bind h
    have fr5 : Fr W_X1_R s r5.2 := Fr.tr Fr.rf (hrc _ _ _ _ hr)
    by_cases hc : r5.1 = true
    · rw [if_pos hc] at h
      by_cases hc : (r5.2.1 25 5) = 60
      · rw [if_pos hc] at h
        exact Fr.tr fr5 (FR_X1_readsNot_j67 rc hrc _ _ _ _ _ h)
      · rw [if_neg hc] at h
        by_cases hc : (r5.2.1 25 5) = 61
        · rw [if_pos hc] at h
          exact Fr.tr fr5 (FR_X1_readsNot_j67 rc hrc _ _ _ _ _ h)
        · rw [if_neg hc] at h
          obtain rfl := Option.some.inj h
          exact fr5
    · rw [if_neg hc] at h
      obtain rfl := Option.some.inj h
      exact fr5

theorem FR_X1_readsSum_j70_12 (rc : Nat → Int32 → mSG → Option (Bool × mSG)) (hrc : ∀ i q s b, rc i q s = some b → Fr W_X1_R s b.2) (t : mTX) (x1 : Int32) (x2 : Int32) (p1 : Int32) (s : mSG) (o : (Int32 × mSG) ⊕ (mSG ⊕ mSG)) (h : X1_readsSum_j70_12 t rc x1 x2 p1 s = some o) : FrS W_X1_R (fun y : Int32 × mSG => y.2) ((Sum.elim (fun y : mSG => y) (fun y : mSG => y))) s o := by
  unfold X1_readsSum_j70_12 at h
  obtain ⟨r8, hr, h⟩ := m_bind h
  have fr8 : Fr W_X1_R s r8 := Fr.tr Fr.rf (Fr.mono (FR_X1_emit _ _ _ hr) rfl)
  obtain rfl := Option.some.inj h
  exact ⟨fun y hy => by obtain rfl := Sum.inl.inj hy; exact fr8, fun y hy => by cases hy⟩

theorem FR_X1_readsSum_j37_12 (rc : Nat → Int32 → mSG → Option (Bool × mSG)) (hrc : ∀ i q s b, rc i q s = some b → Fr W_X1_R s b.2) (t : mTX) (x1 : Int32) (x2 : Int32) (s : mSG) (o : (Int32 × mSG) ⊕ (mSG ⊕ mSG)) (h : X1_readsSum_j37_12 t rc x1 x2 s = some o) : FrS W_X1_R (fun y : Int32 × mSG => y.2) ((Sum.elim (fun y : mSG => y) (fun y : mSG => y))) s o := by
  unfold X1_readsSum_j37_12 at h
  obtain ⟨r5, hr, h⟩ := m_bind h
  have fr5 : Fr W_X1_R s r5 := Fr.tr Fr.rf (Fr.mono (FR_X1_advance _ _ _ hr) rfl)
  obtain ⟨r6, hr, h⟩ := m_bind h
  have fr6 : Fr W_X1_R s r6.2 := Fr.tr fr5 (hrc _ _ _ _ hr)
  by_cases hc : r6.1 = true
  · rw [if_pos hc] at h
    by_cases hc : (s.1 25 5) = 43
    · rw [if_pos hc] at h
      exact FrS.tr fr6 (FR_X1_readsSum_j70_12 rc hrc _ _ _ _ _ _ h)
    · rw [if_neg hc] at h
      exact FrS.tr fr6 (FR_X1_readsSum_j70_12 rc hrc _ _ _ _ _ _ h)
  · rw [if_neg hc] at h
    obtain rfl := Option.some.inj h
    exact ⟨fun y hy => (by cases hy), fun y hy => by obtain rfl := Sum.inr.inj hy; exact fr6⟩

theorem FR_X1_readsSum_b12 (rc : Nat → Int32 → mSG → Option (Bool × mSG)) (hrc : ∀ i q s b, rc i q s = some b → Fr W_X1_R s b.2) (t : mTX) (x1 : Int32) (x2 : Int32) (s : mSG) (o : (Int32 × mSG) ⊕ (mSG ⊕ mSG)) (h : X1_readsSum_b12 t rc x1 x2 s = some o) : FrS W_X1_R (fun y : Int32 × mSG => y.2) ((Sum.elim (fun y : mSG => y) (fun y : mSG => y))) s o := by
  unfold X1_readsSum_b12 at h
  by_cases hc : 160 ≤ x2
  · rw [if_pos hc] at h
    obtain rfl := Option.some.inj h
    exact ⟨fun y hy => (by cases hy), fun y hy => by obtain rfl := Sum.inr.inj hy; exact Fr.rf⟩
  · rw [if_neg hc] at h
    by_cases hc : (s.1 25 5) = 43
    · rw [if_pos hc] at h
      exact FrS.tr Fr.rf (FR_X1_readsSum_j37_12 rc hrc _ _ _ _ _ h)
    · rw [if_neg hc] at h
      by_cases hc : (s.1 25 5) = 45
      · rw [if_pos hc] at h
        exact FrS.tr Fr.rf (FR_X1_readsSum_j37_12 rc hrc _ _ _ _ _ h)
      · rw [if_neg hc] at h
        obtain rfl := Option.some.inj h
        exact ⟨fun y hy => (by cases hy), fun y hy => by obtain rfl := Sum.inr.inj hy; exact Fr.rf⟩

theorem FR_X1_readsSum_l12 (rc : Nat → Int32 → mSG → Option (Bool × mSG)) (hrc : ∀ i q s b, rc i q s = some b → Fr W_X1_R s b.2) (t : mTX) (x1 : Int32) (v : Int32 × mSG) (e : (mSG ⊕ mSG)) (h : X1_readsSum_l12 t rc x1 v = some e) : Fr W_X1_R v.2 ((Sum.elim (fun y : mSG => y) (fun y : mSG => y)) e) :=
  FrS.iter (hy := fun y : Int32 × mSG => y.2) (he := (Sum.elim (fun y : mSG => y) (fun y : mSG => y))) (fun x o hx => FR_X1_readsSum_b12 rc hrc t x1 x.1 x.2 o hx) mFU v e h
theorem FR_X1_readsSum_B (rc : Nat → Int32 → mSG → Option (Bool × mSG)) (hrc : ∀ i q s b, rc i q s = some b → Fr W_X1_R s b.2) (t : mTX) (x1 : Int32) (s : mSG) (o : Bool × mSG) (h : X1_readsSum_B t rc x1 s = some o) : Fr W_X1_R s o.2 := by
  unfold X1_readsSum_B at h
  obtain ⟨r1, hr, h⟩ := m_bind h
  have fr1 : Fr W_X1_R s r1.2 := Fr.tr Fr.rf (hrc _ _ _ _ hr)
  by_cases hc : r1.1 = true
  · rw [if_pos hc] at h
    obtain ⟨e12, hl, h⟩ := m_bind h
    have fl12 : Fr W_X1_R s ((Sum.elim (fun y : mSG => y) (fun y : mSG => y)) e12) := Fr.tr fr1 (FR_X1_readsSum_l12 rc hrc _ _ _ _ hl)
    cases e12 with
    | inl e12_0 =>
      simp only [Sum.elim_inl] at h
      obtain rfl := Option.some.inj h
      exact fl12
    | inr e12_1 =>
      simp only [Sum.elim_inr] at h
      obtain rfl := Option.some.inj h
      exact fl12
  · rw [if_neg hc] at h
    obtain rfl := Option.some.inj h
    exact fr1

theorem FR_X1_readsTerm_b12 (rc : Nat → Int32 → mSG → Option (Bool × mSG)) (hrc : ∀ i q s b, rc i q s = some b → Fr W_X1_R s b.2) (t : mTX) (x1 : Int32) (x2 : Int32) (s : mSG) (o : (Int32 × mSG) ⊕ (mSG ⊕ mSG)) (h : X1_readsTerm_b12 t rc x1 x2 s = some o) : FrS W_X1_R (fun y : Int32 × mSG => y.2) ((Sum.elim (fun y : mSG => y) (fun y : mSG => y))) s o := by
  unfold X1_readsTerm_b12 at h
  by_cases hc : 160 ≤ x2
  · rw [if_pos hc] at h
    obtain rfl := Option.some.inj h
    exact ⟨fun y hy => (by cases hy), fun y hy => by obtain rfl := Sum.inr.inj hy; exact Fr.rf⟩
  · rw [if_neg hc] at h
    obtain ⟨r3, hr, h⟩ := m_bind h
    have fr3 : Fr W_X1_R s r3.2 := Fr.tr Fr.rf (Fr.mono (FR_X1_takes _ _ _ _ hr) rfl)
    by_cases hc : r3.1 = true
    · rw [if_pos hc] at h
      obtain ⟨r4, hr, h⟩ := m_bind h
      have fr4 : Fr W_X1_R s r4.2 := Fr.tr fr3 (hrc _ _ _ _ hr)
      by_cases hc : r4.1 = true
      · rw [if_pos hc] at h
        obtain ⟨r5, hr, h⟩ := m_bind h
        have fr5 : Fr W_X1_R s r5 := Fr.tr fr4 (Fr.mono (FR_X1_emit _ _ _ hr) rfl)
        obtain rfl := Option.some.inj h
        exact ⟨fun y hy => by obtain rfl := Sum.inl.inj hy; exact fr5, fun y hy => by cases hy⟩
      · rw [if_neg hc] at h
        obtain rfl := Option.some.inj h
        exact ⟨fun y hy => (by cases hy), fun y hy => by obtain rfl := Sum.inr.inj hy; exact fr4⟩
    · rw [if_neg hc] at h
      obtain rfl := Option.some.inj h
      exact ⟨fun y hy => (by cases hy), fun y hy => by obtain rfl := Sum.inr.inj hy; exact fr3⟩

theorem FR_X1_readsTerm_l12 (rc : Nat → Int32 → mSG → Option (Bool × mSG)) (hrc : ∀ i q s b, rc i q s = some b → Fr W_X1_R s b.2) (t : mTX) (x1 : Int32) (v : Int32 × mSG) (e : (mSG ⊕ mSG)) (h : X1_readsTerm_l12 t rc x1 v = some e) : Fr W_X1_R v.2 ((Sum.elim (fun y : mSG => y) (fun y : mSG => y)) e) :=
  FrS.iter (hy := fun y : Int32 × mSG => y.2) (he := (Sum.elim (fun y : mSG => y) (fun y : mSG => y))) (fun x o hx => FR_X1_readsTerm_b12 rc hrc t x1 x.1 x.2 o hx) mFU v e h
theorem FR_X1_readsTerm_B (rc : Nat → Int32 → mSG → Option (Bool × mSG)) (hrc : ∀ i q s b, rc i q s = some b → Fr W_X1_R s b.2) (t : mTX) (x1 : Int32) (s : mSG) (o : Bool × mSG) (h : X1_readsTerm_B t rc x1 s = some o) : Fr W_X1_R s o.2 := by
  unfold X1_readsTerm_B at h
  obtain ⟨r1, hr, h⟩ := m_bind h
  have fr1 : Fr W_X1_R s r1.2 := Fr.tr Fr.rf (hrc _ _ _ _ hr)
  by_cases hc : r1.1 = true
  · rw [if_pos hc] at h
    obtain ⟨e12, hl, h⟩ := m_bind h
    have fl12 : Fr W_X1_R s ((Sum.elim (fun y : mSG => y) (fun y : mSG => y)) e12) := Fr.tr fr1 (FR_X1_readsTerm_l12 rc hrc _ _ _ _ hl)
    cases e12 with
    | inl e12_0 =>
      simp only [Sum.elim_inl] at h
      obtain rfl := Option.some.inj h
      exact fl12
    | inr e12_1 =>
      simp only [Sum.elim_inr] at h
      obtain rfl := Option.some.inj h
      exact fl12
  · rw [if_neg hc] at h
    obtain rfl := Option.some.inj h
    exact fr1

theorem FR_X1_readsOne_j62 (rc : Nat → Int32 → mSG → Option (Bool × mSG)) (hrc : ∀ i q s b, rc i q s = some b → Fr W_X1_R s b.2) (t : mTX) (x1 : Int32) (s : mSG) (o : Bool × mSG) (h : X1_readsOne_j62 t rc x1 s = some o) : Fr W_X1_R s o.2 := by
  unfold X1_readsOne_j62 at h
  by_cases hc : (s.1 25 5) = 45
  · rw [if_pos hc] at h
    obtain ⟨r9, hr, h⟩ := m_bind h
    have fr9 : Fr W_X1_R s r9.2 := Fr.tr Fr.rf (Fr.mono (FR_X1_opens _ _ _ _ hr) rfl)
    by_cases hc : r9.1 = true
    · rw [if_pos hc] at h
      obtain ⟨r10, hr, h⟩ := m_bind h
      have fr10 : Fr W_X1_R s r10.2 := Fr.tr fr9 (hrc _ _ _ _ hr)
      by_cases hc : r10.1 = true
      · rw [if_pos hc] at h
        obtain ⟨r11, hr, h⟩ := m_bind h
        have fr11 : Fr W_X1_R s r11 := Fr.tr fr10 (Fr.mono (FR_X1_emit _ _ _ hr) rfl)
        obtain rfl := Option.some.inj h
        exact fr11
      · rw [if_neg hc] at h
        obtain rfl := Option.some.inj h
        exact fr10
    · rw [if_neg hc] at h
      obtain rfl := Option.some.inj h
      exact fr9
  · rw [if_neg hc] at h
    by_cases hc : (s.1 25 5) = 40
    · rw [if_pos hc] at h
      obtain ⟨r13, hr, h⟩ := m_bind h
      have fr13 : Fr W_X1_R s r13.2 := Fr.tr Fr.rf (Fr.mono (FR_X1_opens _ _ _ _ hr) rfl)
      by_cases hc : r13.1 = true
      · rw [if_pos hc] at h
        obtain ⟨r14, hr, h⟩ := m_bind h
        have fr14 : Fr W_X1_R s r14.2 := Fr.tr fr13 (hrc _ _ _ _ hr)
        by_cases hc : r14.1 = true
        · rw [if_pos hc] at h
          obtain ⟨r15, hr, h⟩ := m_bind h
          have fr15 : Fr W_X1_R s r15.2 := Fr.tr fr14 (Fr.mono (FR_X1_takes _ _ _ _ hr) rfl)
          by_cases hc : r15.1 = true
          · rw [if_pos hc] at h
            obtain rfl := Option.some.inj h
            exact fr15
          · rw [if_neg hc] at h
            obtain rfl := Option.some.inj h
            exact fr15
        · rw [if_neg hc] at h
          obtain rfl := Option.some.inj h
          exact fr14
      · rw [if_neg hc] at h
        obtain rfl := Option.some.inj h
        exact fr13
    · rw [if_neg hc] at h
      obtain rfl := Option.some.inj h
      exact Fr.rf

theorem FR_X1_readsOne_B (rc : Nat → Int32 → mSG → Option (Bool × mSG)) (hrc : ∀ i q s b, rc i q s = some b → Fr W_X1_R s b.2) (t : mTX) (x1 : Int32) (s : mSG) (o : Bool × mSG) (h : X1_readsOne_B t rc x1 s = some o) : Fr W_X1_R s o.2 := by
  unfold X1_readsOne_B at h
  by_cases hc : (s.1 25 5) = 2
  · rw [if_pos hc] at h
    obtain ⟨r2, hr, h⟩ := m_bind h
    have fr2 : Fr W_X1_R s r2 := Fr.tr Fr.rf (Fr.mono (FR_X1_emit _ _ _ hr) rfl)
    obtain ⟨r3, hr, h⟩ := m_bind h
    have fr3 : Fr W_X1_R s r3 := Fr.tr fr2 (Fr.mono (FR_X1_advance _ _ _ hr) rfl)
    obtain rfl := Option.some.inj h
    exact fr3
  · rw [if_neg hc] at h
    by_cases hc : (s.1 25 5) < 256
    · rw [if_pos hc] at h
      exact Fr.tr Fr.rf (FR_X1_readsOne_j62 rc hrc _ _ _ _ h)
    · rw [if_neg hc] at h
      by_cases hc : 262 ≤ (s.1 25 5)
      · rw [if_pos hc] at h
        exact Fr.tr Fr.rf (FR_X1_readsOne_j62 rc hrc _ _ _ _ h)
      · rw [if_neg hc] at h
        obtain ⟨r6, hr, h⟩ := m_bind h
        have fr6 : Fr W_X1_R s r6 := Fr.tr Fr.rf (Fr.mono (FR_X1_emit _ _ _ hr) rfl)
        obtain ⟨r7, hr, h⟩ := m_bind h
        have fr7 : Fr W_X1_R s r7 := Fr.tr fr6 (Fr.mono (FR_X1_advance _ _ _ hr) rfl)
        obtain rfl := Option.some.inj h
        exact fr7

theorem FR_X1_readsEither_b12 (rc : Nat → Int32 → mSG → Option (Bool × mSG)) (hrc : ∀ i q s b, rc i q s = some b → Fr W_X1_R s b.2) (t : mTX) (x1 : Int32) (x2 : Int32) (s : mSG) (o : (Int32 × mSG) ⊕ (mSG ⊕ mSG)) (h : X1_readsEither_b12 t rc x1 x2 s = some o) : FrS W_X1_R (fun y : Int32 × mSG => y.2) ((Sum.elim (fun y : mSG => y) (fun y : mSG => y))) s o := by
  unfold X1_readsEither_b12 at h
  by_cases hc : 160 ≤ x2
  · rw [if_pos hc] at h
    obtain rfl := Option.some.inj h
    exact ⟨fun y hy => (by cases hy), fun y hy => by obtain rfl := Sum.inr.inj hy; exact Fr.rf⟩
  · rw [if_neg hc] at h
    obtain ⟨r3, hr, h⟩ := m_bind h
    have fr3 : Fr W_X1_R s r3.2 := Fr.tr Fr.rf (Fr.mono (FR_X1_takes _ _ _ _ hr) rfl)
    by_cases hc : r3.1 = true
    · rw [if_pos hc] at h
      obtain ⟨r4, hr, h⟩ := m_bind h
      have fr4 : Fr W_X1_R s r4.2 := Fr.tr fr3 (hrc _ _ _ _ hr)
      by_cases hc : r4.1 = true
      · rw [if_pos hc] at h
        obtain ⟨r5, hr, h⟩ := m_bind h
        have fr5 : Fr W_X1_R s r5 := Fr.tr fr4 (Fr.mono (FR_X1_emit _ _ _ hr) rfl)
        obtain rfl := Option.some.inj h
        exact ⟨fun y hy => by obtain rfl := Sum.inl.inj hy; exact fr5, fun y hy => by cases hy⟩
      · rw [if_neg hc] at h
        obtain rfl := Option.some.inj h
        exact ⟨fun y hy => (by cases hy), fun y hy => by obtain rfl := Sum.inr.inj hy; exact fr4⟩
    · rw [if_neg hc] at h
      obtain rfl := Option.some.inj h
      exact ⟨fun y hy => (by cases hy), fun y hy => by obtain rfl := Sum.inr.inj hy; exact fr3⟩

theorem FR_X1_readsEither_l12 (rc : Nat → Int32 → mSG → Option (Bool × mSG)) (hrc : ∀ i q s b, rc i q s = some b → Fr W_X1_R s b.2) (t : mTX) (x1 : Int32) (v : Int32 × mSG) (e : (mSG ⊕ mSG)) (h : X1_readsEither_l12 t rc x1 v = some e) : Fr W_X1_R v.2 ((Sum.elim (fun y : mSG => y) (fun y : mSG => y)) e) :=
  FrS.iter (hy := fun y : Int32 × mSG => y.2) (he := (Sum.elim (fun y : mSG => y) (fun y : mSG => y))) (fun x o hx => FR_X1_readsEither_b12 rc hrc t x1 x.1 x.2 o hx) mFU v e h
theorem FR_X1_readsEither_B (rc : Nat → Int32 → mSG → Option (Bool × mSG)) (hrc : ∀ i q s b, rc i q s = some b → Fr W_X1_R s b.2) (t : mTX) (x1 : Int32) (s : mSG) (o : Bool × mSG) (h : X1_readsEither_B t rc x1 s = some o) : Fr W_X1_R s o.2 := by
  unfold X1_readsEither_B at h
  obtain ⟨r1, hr, h⟩ := m_bind h
  have fr1 : Fr W_X1_R s r1.2 := Fr.tr Fr.rf (hrc _ _ _ _ hr)
  by_cases hc : r1.1 = true
  · rw [if_pos hc] at h
    obtain ⟨e12, hl, h⟩ := m_bind h
    have fl12 : Fr W_X1_R s ((Sum.elim (fun y : mSG => y) (fun y : mSG => y)) e12) := Fr.tr fr1 (FR_X1_readsEither_l12 rc hrc _ _ _ _ hl)
    cases e12 with
    | inl e12_0 =>
      simp only [Sum.elim_inl] at h
      obtain rfl := Option.some.inj h
      exact fl12
    | inr e12_1 =>
      simp only [Sum.elim_inr] at h
      obtain rfl := Option.some.inj h
      exact fl12
  · rw [if_neg hc] at h
    obtain rfl := Option.some.inj h
    exact fr1

theorem FR_X1_R (t : mTX) : ∀ (n i : Nat) (q : Int32) (s : mSG) (b : Bool × mSG), X1_R t n i q s = some b → Fr W_X1_R s b.2 := by
  intro n
  induction n with
  | zero => intro i q s b h; cases h
  | succ n ih =>
    intro i q s b h
    match i, h with
    | 0, h => exact FR_X1_readsEither_B (X1_R t n) ih t q s b h
    | 1, h => exact FR_X1_readsBoth_B (X1_R t n) ih t q s b h
    | 2, h => exact FR_X1_readsNot_B (X1_R t n) ih t q s b h
    | 3, h => exact FR_X1_readsSum_B (X1_R t n) ih t q s b h
    | 4, h => exact FR_X1_readsTerm_B (X1_R t n) ih t q s b h
    | 5, h => exact FR_X1_readsOne_B (X1_R t n) ih t q s b h
    | i + 6, h =>
      have hb : Nat.ble (i + 6) 5 = false := by
        cases hh : Nat.ble (i + 6) 5 with
        | false => rfl
        | true => have := Nat.le_of_ble_eq_true hh; omega
      unfold X1_R at h
      rw [hb] at h
      cases h

def W_X1_parse_23 : List (Nat × Option Nat) := [(25, some 2), (25, some 3), (25, some 4), (25, some 5), (25, some 6), (25, some 7), (25, some 8), (26, none), (27, none)]
theorem FR_X1_parse_23_b38 (t : mTX) (x3 : Int32) (s : mSG) (o : (Int32 × mSG) ⊕ (mSG ⊕ mSG)) (h : X1_parse_23_b38 t x3 s = some o) : FrS W_X1_parse_23 (fun y : Int32 × mSG => y.2) ((Sum.elim (fun y : mSG => y) (fun y : mSG => y))) s o := by
  unfold X1_parse_23_b38 at h
  by_cases hc : 3 ≤ x3
  · rw [if_pos hc] at h
    obtain rfl := Option.some.inj h
    exact ⟨fun y hy => (by cases hy), fun y hy => by obtain rfl := Sum.inr.inj hy; exact Fr.rf⟩
  · rw [if_neg hc] at h
    obtain ⟨r3, hr, h⟩ := m_bind h
    have fr3 : Fr W_X1_parse_23 s r3.2 := Fr.tr Fr.rf (Fr.mono (FR_X1_takes _ _ _ _ hr) rfl)
    by_cases hc : r3.1 = true
    · rw [if_pos hc] at h
      obtain ⟨r4, hr, h⟩ := m_bind h
      have fr4 : Fr W_X1_parse_23 s r4.2 := Fr.tr fr3 (Fr.mono (FR_X1_R _ _ _ _ _ _ hr) rfl)
      by_cases hc : r4.1 = true
      · rw [if_pos hc] at h
        obtain ⟨r5, hr, h⟩ := m_bind h
        have fr5 : Fr W_X1_parse_23 s r5.2 := Fr.tr fr4 (Fr.mono (FR_X1_takes _ _ _ _ hr) rfl)
        by_cases hc : r5.1 = true
        · rw [if_pos hc] at h
          obtain ⟨-, h⟩ := m_ite h
          obtain rfl := Option.some.inj h
          exact ⟨fun y hy => by obtain rfl := Sum.inl.inj hy; exact (Fr.wI fr5 rfl), fun y hy => by cases hy⟩
        · rw [if_neg hc] at h
          obtain rfl := Option.some.inj h
          exact ⟨fun y hy => (by cases hy), fun y hy => by obtain rfl := Sum.inr.inj hy; exact fr5⟩
      · rw [if_neg hc] at h
        obtain rfl := Option.some.inj h
        exact ⟨fun y hy => (by cases hy), fun y hy => by obtain rfl := Sum.inr.inj hy; exact fr4⟩
    · rw [if_neg hc] at h
      obtain rfl := Option.some.inj h
      exact ⟨fun y hy => (by cases hy), fun y hy => by obtain rfl := Sum.inr.inj hy; exact fr3⟩

theorem FR_X1_parse_23_l38 (t : mTX) (v : Int32 × mSG) (e : (mSG ⊕ mSG)) (h : X1_parse_23_l38 t v = some e) : Fr W_X1_parse_23 v.2 ((Sum.elim (fun y : mSG => y) (fun y : mSG => y)) e) :=
  FrS.iter (hy := fun y : Int32 × mSG => y.2) (he := (Sum.elim (fun y : mSG => y) (fun y : mSG => y))) (fun x o hx => FR_X1_parse_23_b38 t x.1 x.2 o hx) mFU v e h
theorem FR_X1_parse_23 (t : mTX) (x2 : Int32) (s : mSG) (o : Int32 × mSG) (h : X1_parse_23 t x2 s = some o) : Fr W_X1_parse_23 s o.2 := by
  unfold X1_parse_23 at h
  obtain ⟨r1, hr, h⟩ := m_bind h
  have fr1 : Fr W_X1_parse_23 s r1 := Fr.tr (Fr.wI (Fr.wI (Fr.wI (Fr.wQ Fr.rf rfl) rfl) rfl) rfl) (Fr.mono (FR_X1_advance _ _ _ hr) rfl)
  obtain ⟨e38, hl, h⟩ := m_bind h
  have fl38 : Fr W_X1_parse_23 s ((Sum.elim (fun y : mSG => y) (fun y : mSG => y)) e38) := Fr.tr fr1 (FR_X1_parse_23_l38 _ _ _ hl)
  cases e38 with
  | inl e38_0 =>
    simp only [Sum.elim_inl] at h
    obtain rfl := Option.some.inj h
    exact fl38
  | inr e38_1 =>
    simp only [Sum.elim_inr] at h
    by_cases hc : (e38_1.1 25 5) = 0
    · rw [if_pos hc] at h
      obtain rfl := Option.some.inj h
      exact fl38
    · rw [if_neg hc] at h
      obtain rfl := Option.some.inj h
      exact fl38

def W_X5_putMud_7 : List (Nat × Option Nat) := [(8, none)]
theorem FR_X5_putMud_7 (x1 : Int32) (x2 : Int32) (x3 : Int32) (s : mSG) (o : Bool × mSG) (h : X5_putMud_7 x1 x2 x3 s = some o) : Fr W_X5_putMud_7 s o.2 := by
  unfold X5_putMud_7 at h
  by_cases hc : X8_areTwoStones x1 x2 = true
  · rw [if_pos hc] at h
    by_cases hc : X8_isWithin x3 99 = true
    · rw [if_pos hc] at h
      obtain ⟨-, h⟩ := m_ite h
      obtain ⟨-, h⟩ := m_ite h
      obtain rfl := Option.some.inj h
      exact (Fr.wI (Fr.wI Fr.rf rfl) rfl)
    · rw [if_neg hc] at h
      obtain rfl := Option.some.inj h
      exact Fr.rf
  · rw [if_neg hc] at h
    obtain rfl := Option.some.inj h
    exact Fr.rf

def W_X8_mud : List (Nat × Option Nat) := [(8, none)]
theorem FR_X8_mud (x1 : Int32) (x2 : Int32) (x3 : Int32) (s : mSG) (o : Int32 × mSG) (h : X8_mud x1 x2 x3 s = some o) : Fr W_X8_mud s o.2 := by
  unfold X8_mud at h
  obtain ⟨r1, hr, h⟩ := m_bind h
  by_cases hc : r1 = (-2)
  · rw [if_pos hc] at h
    obtain rfl := Option.some.inj h
    exact Fr.rf
  · rw [if_neg hc] at h
    obtain ⟨r3, hr, h⟩ := m_bind h
    have fr3 : Fr W_X8_mud s r3.2 := Fr.tr Fr.rf (Fr.mono (FR_X5_putMud_7 _ _ _ _ _ hr) rfl)
    by_cases hc : r3.1 = true
    · rw [if_pos hc] at h
      obtain rfl := Option.some.inj h
      exact fr3
    · rw [if_neg hc] at h
      obtain rfl := Option.some.inj h
      exact fr3

def W_X5_put_7 : List (Nat × Option Nat) := [(9, none)]
theorem FR_X5_put_7 (x1 : Int32) (x2 : Int32) (x3 : Int32) (s : mSG) (o : mSG) (h : X5_put_7 x1 x2 x3 s = some o) : Fr W_X5_put_7 s o := by
  unfold X5_put_7 at h
  by_cases hc : X5_isOne_7 x1 s = true
  · rw [if_pos hc] at h
    by_cases hc : X8_isWithin x2 5 = true
    · rw [if_pos hc] at h
      obtain ⟨-, h⟩ := m_ite h
      obtain rfl := Option.some.inj h
      exact (Fr.wI Fr.rf rfl)
    · rw [if_neg hc] at h
      obtain rfl := Option.some.inj h
      exact Fr.rf
  · rw [if_neg hc] at h
    obtain rfl := Option.some.inj h
    exact Fr.rf

def W_X8_one : List (Nat × Option Nat) := [(7, some 4), (9, none)]
theorem FR_X8_one (x1 : Int32) (x2 : Int32) (x3 : Int32) (s : mSG) (o : Int32 × mSG) (h : X8_one x1 x2 x3 s = some o) : Fr W_X8_one s o.2 := by
  unfold X8_one at h
  by_cases hc : X8_isWithin x1 5 = true
  · rw [if_pos hc] at h
    by_cases hc : X8_isWithin x2 999 = true
    · rw [if_pos hc] at h
      by_cases hc : X8_isWithin x3 9 = true
      · rw [if_pos hc] at h
        by_cases hc : (s.1 7 4) < 5
        · rw [if_pos hc] at h
          obtain ⟨r2, hr, h⟩ := m_bind h
          have fr2 : Fr W_X8_one s r2 := Fr.tr (Fr.wI Fr.rf rfl) (Fr.mono (FR_X5_put_7 _ _ _ _ _ hr) rfl)
          obtain ⟨r3, hr, h⟩ := m_bind h
          have fr3 : Fr W_X8_one s r3 := Fr.tr fr2 (Fr.mono (FR_X5_put_7 _ _ _ _ _ hr) rfl)
          obtain ⟨r4, hr, h⟩ := m_bind h
          have fr4 : Fr W_X8_one s r4 := Fr.tr fr3 (Fr.mono (FR_X5_put_7 _ _ _ _ _ hr) rfl)
          obtain ⟨r5, hr, h⟩ := m_bind h
          have fr5 : Fr W_X8_one s r5 := Fr.tr fr4 (Fr.mono (FR_X5_put_7 _ _ _ _ _ hr) rfl)
          obtain ⟨r6, hr, h⟩ := m_bind h
          have fr6 : Fr W_X8_one s r6 := Fr.tr fr5 (Fr.mono (FR_X5_put_7 _ _ _ _ _ hr) rfl)
          obtain ⟨r7, hr, h⟩ := m_bind h
          have fr7 : Fr W_X8_one s r7 := Fr.tr fr6 (Fr.mono (FR_X5_put_7 _ _ _ _ _ hr) rfl)
          obtain rfl := Option.some.inj h
          exact fr7
        · rw [if_neg hc] at h
          obtain rfl := Option.some.inj h
          exact Fr.rf
      · rw [if_neg hc] at h
        obtain rfl := Option.some.inj h
        exact Fr.rf
    · rw [if_neg hc] at h
      obtain rfl := Option.some.inj h
      exact Fr.rf
  · rw [if_neg hc] at h
    obtain rfl := Option.some.inj h
    exact Fr.rf

def W_X8_set : List (Nat × Option Nat) := [(7, some 5), (9, none), (11, none)]
theorem FR_X8_set (x1 : Int32) (x2 : Int32) (x3 : Int32) (s : mSG) (o : Int32 × mSG) (h : X8_set x1 x2 x3 s = some o) : Fr W_X8_set s o.2 := by
  unfold X8_set at h
  by_cases hc : x1 = 5
  · rw [if_pos hc] at h
    by_cases hc : X8_isWithin x3 9999 = true
    · rw [if_pos hc] at h
      obtain rfl := Option.some.inj h
      exact (Fr.wI Fr.rf rfl)
    · rw [if_neg hc] at h
      obtain rfl := Option.some.inj h
      exact Fr.rf
  · rw [if_neg hc] at h
    by_cases hc : x1 = 6
    · rw [if_pos hc] at h
      by_cases hc : X8_isWithin x2 23 = true
      · rw [if_pos hc] at h
        by_cases hc : X8_isWithin x3 9 = true
        · rw [if_pos hc] at h
          obtain ⟨-, h⟩ := m_ite h
          obtain rfl := Option.some.inj h
          exact (Fr.wI Fr.rf rfl)
        · rw [if_neg hc] at h
          obtain rfl := Option.some.inj h
          exact Fr.rf
      · rw [if_neg hc] at h
        obtain rfl := Option.some.inj h
        exact Fr.rf
    · rw [if_neg hc] at h
      by_cases hc : X8_isWithin x1 4 = true
      · rw [if_pos hc] at h
        by_cases hc : X5_isOne_7 x2 s = true
        · rw [if_pos hc] at h
          by_cases hc : X8_isWithin x3 (X8_mostOf x1) = true
          · rw [if_pos hc] at h
            obtain ⟨r2, hr, h⟩ := m_bind h
            obtain ⟨r3, hr, h⟩ := m_bind h
            have fr3 : Fr W_X8_set s r3 := Fr.tr Fr.rf (Fr.mono (FR_X5_put_7 _ _ _ _ _ hr) rfl)
            obtain rfl := Option.some.inj h
            exact fr3
          · rw [if_neg hc] at h
            obtain rfl := Option.some.inj h
            exact Fr.rf
        · rw [if_neg hc] at h
          obtain rfl := Option.some.inj h
          exact Fr.rf
      · rw [if_neg hc] at h
        obtain rfl := Option.some.inj h
        exact Fr.rf

def W_X0_be_28_7 : List (Nat × Option Nat) := [(28, some 2), (28, some 3), (28, some 4), (28, some 5), (28, some 6), (28, some 7), (28, some 8)]
theorem FR_X0_be_28_7 (x2 : Int32) (a3_ : Nat) (s : mSG) (o : mSG) (h : X0_be_28_7 x2 a3_ s = some o) : Fr W_X0_be_28_7 s o := by
  unfold X0_be_28_7 at h
  obtain ⟨r1, hr, h⟩ := m_bind h
  obtain ⟨r2, hr, h⟩ := m_bind h
  obtain ⟨r3, hr, h⟩ := m_bind h
  obtain ⟨r4, hr, h⟩ := m_bind h
  obtain ⟨r5, hr, h⟩ := m_bind h
  obtain ⟨r6, hr, h⟩ := m_bind h
  obtain rfl := Option.some.inj h
  exact (Fr.wI (Fr.wI (Fr.wI (Fr.wI (Fr.wI (Fr.wI (Fr.wQ Fr.rf rfl) rfl) rfl) rfl) rfl) rfl) rfl)

def W_X8_told : List (Nat × Option Nat) := [(28, some 2), (28, some 3), (28, some 4), (28, some 5), (28, some 6), (28, some 7), (28, some 8)]
theorem FR_X8_told (x1 : Int32) (x2 : Int32) (s : mSG) (o : Int32 × mSG) (h : X8_told x1 x2 s = some o) : Fr W_X8_told s o.2 := by
  unfold X8_told at h
  by_cases hc : X5_isOne_7 x1 s = true
  · rw [if_pos hc] at h
    by_cases hc : x2 = 6
    · rw [if_pos hc] at h
      obtain ⟨r1, hr, h⟩ := m_bind h
      obtain ⟨r2, hr, h⟩ := m_bind h
      have fr2 : Fr W_X8_told s r2 := Fr.tr Fr.rf (Fr.mono (FR_X0_be_28_7 _ _ _ _ hr) rfl)
      obtain rfl := Option.some.inj h
      exact fr2
    · rw [if_neg hc] at h
      by_cases hc : x2 = 7
      · rw [if_pos hc] at h
        obtain ⟨r3, hr, h⟩ := m_bind h
        obtain rfl := Option.some.inj h
        exact Fr.rf
      · rw [if_neg hc] at h
        by_cases hc : x2 = 8
        · rw [if_pos hc] at h
          obtain ⟨r4, hr, h⟩ := m_bind h
          obtain rfl := Option.some.inj h
          exact Fr.rf
        · rw [if_neg hc] at h
          by_cases hc : X8_isWithin x2 5 = true
          · rw [if_pos hc] at h
            obtain ⟨r5, hr, h⟩ := m_bind h
            obtain rfl := Option.some.inj h
            exact Fr.rf
          · rw [if_neg hc] at h
            obtain rfl := Option.some.inj h
            exact Fr.rf
  · rw [if_neg hc] at h
    obtain rfl := Option.some.inj h
    exact Fr.rf

def W_X8_feed : List (Nat × Option Nat) := [(6, some 12), (23, none)]
theorem FR_X8_feed (x1 : Int32) (s : mSG) (o : Int32 × mSG) (h : X8_feed x1 s = some o) : Fr W_X8_feed s o.2 := by
  unfold X8_feed at h
  by_cases hc : X8_isWithin x1 255 = true
  · rw [if_pos hc] at h
    by_cases hc : (s.1 6 12) < 160
    · rw [if_pos hc] at h
      obtain ⟨-, h⟩ := m_ite h
      obtain rfl := Option.some.inj h
      exact (Fr.wI (Fr.wI Fr.rf rfl) rfl)
    · rw [if_neg hc] at h
      obtain rfl := Option.some.inj h
      exact Fr.rf
  · rw [if_neg hc] at h
    obtain rfl := Option.some.inj h
    exact Fr.rf

def W_X8_force : List (Nat × Option Nat) := [(7, some 6)]
theorem FR_X8_force (x1 : Int32) (s : mSG) (o : Int32 × mSG) (h : X8_force x1 s = some o) : Fr W_X8_force s o.2 := by
  unfold X8_force at h
  by_cases hc : X8_isWithin x1 ((s.1 6 11) - 1) = true
  · rw [if_pos hc] at h
    obtain rfl := Option.some.inj h
    exact (Fr.wI Fr.rf rfl)
  · rw [if_neg hc] at h
    obtain rfl := Option.some.inj h
    exact Fr.rf

def W_X6_value_29_30 : List (Nat × Option Nat) := [(30, none)]
theorem FR_X6_value_29_30_j172_31 (t : mTX) (a0_ : Nat) (x1 : Int32) (x4 : Int32) (x5 : Int32) (s : mSG) (o : (Int32 × Int32 × mSG) ⊕ mSG) (h : X6_value_29_30_j172_31 t a0_ x1 x4 x5 s = some o) : FrS W_X6_value_29_30 (fun y : Int32 × Int32 × mSG => y.2.2) ((fun y : mSG => y)) s o := by
  unfold X6_value_29_30_j172_31 at h
  obtain rfl := Option.some.inj h
  exact ⟨fun y hy => by obtain rfl := Sum.inl.inj hy; exact Fr.rf, fun y hy => by cases hy⟩

theorem FR_X6_value_29_30_j93_31 (t : mTX) (a0_ : Nat) (x1 : Int32) (x4 : Int32) (x5 : Int32) (p1 : Int32) (p2 : Int32) (s : mSG) (o : (Int32 × Int32 × mSG) ⊕ mSG) (h : X6_value_29_30_j93_31 t a0_ x1 x4 x5 p1 p2 s = some o) : FrS W_X6_value_29_30 (fun y : Int32 × Int32 × mSG => y.2.2) ((fun y : mSG => y)) s o := by
  unfold X6_value_29_30_j93_31 at h
  obtain ⟨-, h⟩ := m_ite h
  exact FrS.tr (Fr.wI Fr.rf rfl) (FR_X6_value_29_30_j172_31 _ _ _ _ _ _ _ h)

theorem FR_X6_value_29_30_j69_31 (t : mTX) (a0_ : Nat) (x1 : Int32) (x4 : Int32) (x5 : Int32) (x6 : Int32) (x7 : Int32) (s : mSG) (o : (Int32 × Int32 × mSG) ⊕ mSG) (h : X6_value_29_30_j69_31 t a0_ x1 x4 x5 x6 x7 s = some o) : FrS W_X6_value_29_30 (fun y : Int32 × Int32 × mSG => y.2.2) ((fun y : mSG => y)) s o := by
  unfold X6_value_29_30_j69_31 at h
  by_cases hc : 32 ≤ x4
  · rw [if_pos hc] at h
    exact FrS.tr Fr.rf (FR_X6_value_29_30_j172_31 _ _ _ _ _ _ _ h)
  · rw [if_neg hc] at h
    by_cases hc : x6 < 0
    · rw [if_pos hc] at h
      obtain ⟨-, h⟩ := m_ite h
      exact FrS.tr Fr.rf (FR_X6_value_29_30_j93_31 _ _ _ _ _ _ _ _ _ h)
    · rw [if_neg hc] at h
      exact FrS.tr Fr.rf (FR_X6_value_29_30_j93_31 _ _ _ _ _ _ _ _ _ h)

theorem FR_X6_value_29_30_j114_31 (t : mTX) (a0_ : Nat) (x1 : Int32) (x4 : Int32) (x5 : Int32) (x6 : Int32) (s : mSG) (o : (Int32 × Int32 × mSG) ⊕ mSG) (h : X6_value_29_30_j114_31 t a0_ x1 x4 x5 x6 s = some o) : FrS W_X6_value_29_30 (fun y : Int32 × Int32 × mSG => y.2.2) ((fun y : mSG => y)) s o := by
  unfold X6_value_29_30_j114_31 at h
  by_cases hc : x4 < 1
  · rw [if_pos hc] at h
    exact FrS.tr Fr.rf (FR_X6_value_29_30_j172_31 _ _ _ _ _ _ _ h)
  · rw [if_neg hc] at h
    obtain ⟨-, h⟩ := m_ite h
    exact FrS.tr (Fr.wI Fr.rf rfl) (FR_X6_value_29_30_j172_31 _ _ _ _ _ _ _ h)

theorem FR_X6_value_29_30_b31 (t : mTX) (a0_ : Nat) (x1 : Int32) (x4 : Int32) (x5 : Int32) (s : mSG) (o : (Int32 × Int32 × mSG) ⊕ mSG) (h : X6_value_29_30_b31 t a0_ x1 x4 x5 s = some o) : FrS W_X6_value_29_30 (fun y : Int32 × Int32 × mSG => y.2.2) ((fun y : mSG => y)) s o := by
  unfold X6_value_29_30_b31 at h
  obtain ⟨-, h⟩ := m_ite h
  obtain ⟨a3, -, h⟩ := m_bind h
  obtain ⟨-, h⟩ := m_ite h
  by_cases hc : (s.1 a3 x1.toNatClampNeg) ≤ x5
  · rw [if_pos hc] at h
    obtain rfl := Option.some.inj h
    exact ⟨fun y hy => (by cases hy), fun y hy => by obtain rfl := Sum.inr.inj hy; exact Fr.rf⟩
  · rw [if_neg hc] at h
    obtain ⟨-, h⟩ := m_ite h
    obtain ⟨a5, -, h⟩ := m_bind h
    obtain ⟨-, h⟩ := m_ite h
    by_cases hc : 0 ≤ (s.1 a5 x5.toNatClampNeg)
    · rw [if_pos hc] at h
      exact FrS.tr Fr.rf (FR_X6_value_29_30_j69_31 _ _ _ _ _ _ _ _ _ h)
    · rw [if_neg hc] at h
      by_cases hc : 6 ≤ ((-1) - (s.1 a5 x5.toNatClampNeg))
      · rw [if_pos hc] at h
        by_cases hc : (s.1 a5 x5.toNatClampNeg) = (-13)
        · rw [if_pos hc] at h
          exact FrS.tr Fr.rf (FR_X6_value_29_30_j114_31 _ _ _ _ _ _ _ _ h)
        · rw [if_neg hc] at h
          by_cases hc : (s.1 a5 x5.toNatClampNeg) = (-19)
          · rw [if_pos hc] at h
            exact FrS.tr Fr.rf (FR_X6_value_29_30_j114_31 _ _ _ _ _ _ _ _ h)
          · rw [if_neg hc] at h
            by_cases hc : x4 < 2
            · rw [if_pos hc] at h
              exact FrS.tr Fr.rf (FR_X6_value_29_30_j172_31 _ _ _ _ _ _ _ h)
            · rw [if_neg hc] at h
              obtain ⟨-, h⟩ := m_ite h
              obtain ⟨-, h⟩ := m_ite h
              exact FrS.tr (Fr.wI Fr.rf rfl) (FR_X6_value_29_30_j172_31 _ _ _ _ _ _ _ h)
      · rw [if_neg hc] at h
        exact FrS.tr Fr.rf (FR_X6_value_29_30_j69_31 _ _ _ _ _ _ _ _ _ h)

theorem FR_X6_value_29_30_l31 (t : mTX) (a0_ : Nat) (x1 : Int32) (v : Int32 × Int32 × mSG) (e : mSG) (h : X6_value_29_30_l31 t a0_ x1 v = some e) : Fr W_X6_value_29_30 v.2.2 ((fun y : mSG => y) e) :=
  FrS.iter (hy := fun y : Int32 × Int32 × mSG => y.2.2) (he := (fun y : mSG => y)) (fun x o hx => FR_X6_value_29_30_b31 t a0_ x1 x.1 x.2.1 x.2.2 o hx) mFU v e h
theorem FR_X6_value_29_30_j29 (t : mTX) (a0_ : Nat) (x1 : Int32) (x4 : Int32) (p0 : Int32) (s : mSG) (o : Int32 × mSG) (h : X6_value_29_30_j29 t a0_ x1 x4 p0 s = some o) : Fr W_X6_value_29_30 s o.2 := by
  unfold X6_value_29_30_j29 at h
  obtain ⟨e31, hl, h⟩ := m_bind h
  have fl31 : Fr W_X6_value_29_30 s ((fun y : mSG => y) e31) := Fr.tr Fr.rf (FR_X6_value_29_30_l31 _ _ _ _ _ hl)
  obtain rfl := Option.some.inj h
  exact fl31

theorem FR_X6_value_29_30 (t : mTX) (a0_ : Nat) (x1 : Int32) (s : mSG) (o : Int32 × mSG) (h : X6_value_29_30 t a0_ x1 s = some o) : Fr W_X6_value_29_30 s o.2 := by
  unfold X6_value_29_30 at h
  by_cases hc : X8_isWithin x1 2 = true
  · rw [if_pos hc] at h
    by_cases hc : x1 = 0
    · rw [if_pos hc] at h
      exact Fr.tr Fr.rf (FR_X6_value_29_30_j29 _ _ _ _ _ _ _ h)
    · rw [if_neg hc] at h
      obtain ⟨-, h⟩ := m_ite h
      obtain ⟨a2, -, h⟩ := m_bind h
      obtain ⟨-, h⟩ := m_ite h
      exact Fr.tr Fr.rf (FR_X6_value_29_30_j29 _ _ _ _ _ _ _ h)
  · rw [if_neg hc] at h
    obtain rfl := Option.some.inj h
    exact Fr.rf

def W_X0_asked_28 : List (Nat × Option Nat) := [(29, some 0), (29, some 1), (29, some 2), (29, some 3), (29, some 4), (29, some 5), (30, none)]
theorem FR_X0_asked_28 (t : mTX) (x1 : Int32) (x2 : Int32) (x3 : Int32) (x4 : Int32) (s : mSG) (o : Int32 × mSG) (h : X0_asked_28 t x1 x2 x3 x4 s = some o) : Fr W_X0_asked_28 s o.2 := by
  unfold X0_asked_28 at h
  rcases m_opt_cases h with ⟨-, h⟩ | ⟨a1, -, h⟩
  · obtain rfl := Option.some.inj h
    exact Fr.rf
  · obtain ⟨a2, -, h⟩ := m_bind h
    obtain ⟨-, h⟩ := m_ite h
    obtain ⟨r3, hr, h⟩ := m_bind h
    have fr3 : Fr W_X0_asked_28 s r3.2 := Fr.tr (Fr.wI (Fr.wI (Fr.wI (Fr.wI (Fr.wI (Fr.wI Fr.rf rfl) rfl) rfl) rfl) rfl) rfl) (Fr.mono (FR_X6_value_29_30 _ _ _ _ _ hr) rfl)
    obtain rfl := Option.some.inj h
    exact fr3

def W_X0_hours_28 : List (Nat × Option Nat) := [(29, some 0), (29, some 1), (29, some 2), (29, some 3), (29, some 4), (29, some 5), (30, none)]
theorem FR_X0_hours_28 (t : mTX) (x1 : Int32) (x2 : Int32) (x3 : Int32) (s : mSG) (o : Int32 × mSG) (h : X0_hours_28 t x1 x2 x3 s = some o) : Fr W_X0_hours_28 s o.2 := by
  unfold X0_hours_28 at h
  by_cases hc : x3 ≤ 0
  · rw [if_pos hc] at h
    obtain rfl := Option.some.inj h
    exact Fr.rf
  · rw [if_neg hc] at h
    obtain ⟨r2, hr, h⟩ := m_bind h
    have fr2 : Fr W_X0_hours_28 s r2.2 := Fr.tr Fr.rf (Fr.mono (FR_X0_asked_28 _ _ _ _ _ _ _ hr) rfl)
    by_cases hc : (x3 + r2.1) ≤ (X0_reaches_28 s)
    · rw [if_pos hc] at h
      obtain ⟨r4, hr, h⟩ := m_bind h
      have fr4 : Fr W_X0_hours_28 s r4.2 := Fr.tr fr2 (Fr.mono (FR_X0_asked_28 _ _ _ _ _ _ _ hr) rfl)
      obtain rfl := Option.some.inj h
      exact fr4
    · rw [if_neg hc] at h
      obtain rfl := Option.some.inj h
      exact fr2

def W_X8_can : List (Nat × Option Nat) := [(28, some 2), (28, some 3), (28, some 4), (28, some 5), (28, some 6), (28, some 7), (28, some 8), (29, some 0), (29, some 1), (29, some 2), (29, some 3), (29, some 4), (29, some 5), (30, none)]
theorem FR_X8_can (t : mTX) (x1 : Int32) (x2 : Int32) (x3 : Int32) (s : mSG) (o : Int32 × mSG) (h : X8_can t x1 x2 x3 s = some o) : Fr W_X8_can s o.2 := by
  unfold X8_can at h
  by_cases hc : X5_isOne_7 x1 s = true
  · rw [if_pos hc] at h
    by_cases hc : X8_isStone x2 = true
    · rw [if_pos hc] at h
      by_cases hc : X8_isWithin x3 1 = true
      · rw [if_pos hc] at h
        obtain ⟨r1, hr, h⟩ := m_bind h
        obtain ⟨r2, hr, h⟩ := m_bind h
        have fr2 : Fr W_X8_can s r2 := Fr.tr Fr.rf (Fr.mono (FR_X0_be_28_7 _ _ _ _ hr) rfl)
        obtain ⟨r3, hr, h⟩ := m_bind h
        obtain ⟨r4, hr, h⟩ := m_bind h
        obtain ⟨r5, hr, h⟩ := m_bind h
        have fr5 : Fr W_X8_can s r5.2 := Fr.tr fr2 (Fr.mono (FR_X0_hours_28 _ _ _ _ _ _ hr) rfl)
        by_cases hc : x3 = 0
        · rw [if_pos hc] at h
          by_cases hc : r5.1 ≤ 0
          · rw [if_pos hc] at h
            obtain rfl := Option.some.inj h
            exact fr5
          · rw [if_neg hc] at h
            obtain rfl := Option.some.inj h
            exact fr5
        · rw [if_neg hc] at h
          by_cases hc : r5.1 ≤ 0
          · rw [if_pos hc] at h
            obtain rfl := Option.some.inj h
            exact fr5
          · rw [if_neg hc] at h
            obtain rfl := Option.some.inj h
            exact fr5
      · rw [if_neg hc] at h
        obtain rfl := Option.some.inj h
        exact Fr.rf
    · rw [if_neg hc] at h
      obtain rfl := Option.some.inj h
      exact Fr.rf
  · rw [if_neg hc] at h
    obtain rfl := Option.some.inj h
    exact Fr.rf

def W_X0_soak_28 : List (Nat × Option Nat) := [(28, some 7)]
theorem FR_X0_soak_28 (s : mSG) (o : mSG) (h : X0_soak_28 s = some o) : Fr W_X0_soak_28 s o := by
  unfold X0_soak_28 at h
  obtain rfl := Option.some.inj h
  exact (Fr.wI Fr.rf rfl)

def W_X8_moves_7 : List (Nat × Option Nat) := [(7, some 5), (9, none), (28, some 2), (28, some 3), (28, some 4), (28, some 5), (28, some 6), (28, some 7), (28, some 8), (29, some 0), (29, some 1), (29, some 2), (29, some 3), (29, some 4), (29, some 5), (30, none)]
theorem FR_X8_moves_7 (t : mTX) (x2 : Int32) (x3 : Int32) (s : mSG) (o : Bool × mSG) (h : X8_moves_7 t x2 x3 s = some o) : Fr W_X8_moves_7 s o.2 := by
  unfold X8_moves_7 at h
  obtain ⟨r1, hr, h⟩ := m_bind h
  obtain ⟨r2, hr, h⟩ := m_bind h
  have fr2 : Fr W_X8_moves_7 s r2 := Fr.tr Fr.rf (Fr.mono (FR_X0_be_28_7 _ _ _ _ hr) rfl)
  obtain ⟨r3, hr, h⟩ := m_bind h
  obtain ⟨r4, hr, h⟩ := m_bind h
  obtain ⟨r5, hr, h⟩ := m_bind h
  have fr5 : Fr W_X8_moves_7 s r5.2 := Fr.tr fr2 (Fr.mono (FR_X0_hours_28 _ _ _ _ _ _ hr) rfl)
  by_cases hc : r5.1 = 0
  · rw [if_pos hc] at h
    obtain rfl := Option.some.inj h
    exact fr5
  · rw [if_neg hc] at h
    obtain ⟨r7, hr, h⟩ := m_bind h
    have fr7 : Fr W_X8_moves_7 s r7 := Fr.tr fr5 (Fr.mono (FR_X0_soak_28 _ _ hr) rfl)
    obtain ⟨r8, hr, h⟩ := m_bind h
    have fr8 : Fr W_X8_moves_7 s r8 := Fr.tr fr7 (Fr.mono (FR_X5_put_7 _ _ _ _ _ hr) rfl)
    obtain ⟨r9, hr, h⟩ := m_bind h
    have fr9 : Fr W_X8_moves_7 s r9 := Fr.tr fr8 (Fr.mono (FR_X5_put_7 _ _ _ _ _ hr) rfl)
    obtain rfl := Option.some.inj h
    exact (Fr.wI fr9 rfl)

def W_X8_go : List (Nat × Option Nat) := [(7, some 5), (9, none), (28, some 2), (28, some 3), (28, some 4), (28, some 5), (28, some 6), (28, some 7), (28, some 8), (29, some 0), (29, some 1), (29, some 2), (29, some 3), (29, some 4), (29, some 5), (30, none)]
theorem FR_X8_go (t : mTX) (x1 : Int32) (x2 : Int32) (s : mSG) (o : Int32 × mSG) (h : X8_go t x1 x2 s = some o) : Fr W_X8_go s o.2 := by
  unfold X8_go at h
  by_cases hc : X5_isOne_7 x1 s = true
  · rw [if_pos hc] at h
    by_cases hc : X8_isStone x2 = true
    · rw [if_pos hc] at h
      obtain ⟨r1, hr, h⟩ := m_bind h
      have fr1 : Fr W_X8_go s r1.2 := Fr.tr Fr.rf (Fr.mono (FR_X8_moves_7 _ _ _ _ _ hr) rfl)
      by_cases hc : r1.1 = true
      · rw [if_pos hc] at h
        obtain rfl := Option.some.inj h
        exact fr1
      · rw [if_neg hc] at h
        obtain rfl := Option.some.inj h
        exact fr1
    · rw [if_neg hc] at h
      obtain rfl := Option.some.inj h
      exact Fr.rf
  · rw [if_neg hc] at h
    obtain rfl := Option.some.inj h
    exact Fr.rf

def W_X7_forget_35 : List (Nat × Option Nat) := [(35, some 1)]
theorem FR_X7_forget_35 (s : mSG) (o : mSG) (h : X7_forget_35 s = some o) : Fr W_X7_forget_35 s o := by
  unfold X7_forget_35 at h
  obtain rfl := Option.some.inj h
  exact (Fr.wI Fr.rf rfl)

def W_X7_forget_37 : List (Nat × Option Nat) := [(37, some 1)]
theorem FR_X7_forget_37 (s : mSG) (o : mSG) (h : X7_forget_37 s = some o) : Fr W_X7_forget_37 s o := by
  unfold X7_forget_37 at h
  obtain rfl := Option.some.inj h
  exact (Fr.wI Fr.rf rfl)

def W_X3_forget : List (Nat × Option Nat) := [(35, some 1), (37, some 1)]
theorem FR_X3_forget (s : mSG) (o : mSG) (h : X3_forget s = some o) : Fr W_X3_forget s o := by
  unfold X3_forget at h
  obtain ⟨r1, hr, h⟩ := m_bind h
  have fr1 : Fr W_X3_forget s r1 := Fr.tr Fr.rf (Fr.mono (FR_X7_forget_35 _ _ hr) rfl)
  obtain ⟨r2, hr, h⟩ := m_bind h
  have fr2 : Fr W_X3_forget s r2 := Fr.tr fr1 (Fr.mono (FR_X7_forget_37 _ _ hr) rfl)
  obtain rfl := Option.some.inj h
  exact fr2

def W_J7_fill_39 : List (Nat × Option Nat) := [(39, none)]
theorem FR_J7_fill_39_b5 (x1 : Int32) (x3 : Int32) (x2 : Int32) (s : mSG) (o : (Int32 × mSG) ⊕ mSG) (h : J7_fill_39_b5 x1 x3 x2 s = some o) : FrS W_J7_fill_39 (fun y : Int32 × mSG => y.2) ((fun y : mSG => y)) s o := by
  unfold J7_fill_39_b5 at h
  by_cases hc : x3 ≤ x2
  · rw [if_pos hc] at h
    obtain rfl := Option.some.inj h
    exact ⟨fun y hy => (by cases hy), fun y hy => by obtain rfl := Sum.inr.inj hy; exact Fr.rf⟩
  · rw [if_neg hc] at h
    obtain ⟨-, h⟩ := m_ite h
    obtain rfl := Option.some.inj h
    exact ⟨fun y hy => by obtain rfl := Sum.inl.inj hy; exact (Fr.wI Fr.rf rfl), fun y hy => by cases hy⟩

theorem FR_J7_fill_39_l5 (x1 : Int32) (x3 : Int32) (v : Int32 × mSG) (e : mSG) (h : J7_fill_39_l5 x1 x3 v = some e) : Fr W_J7_fill_39 v.2 ((fun y : mSG => y) e) :=
  FrS.iter (hy := fun y : Int32 × mSG => y.2) (he := (fun y : mSG => y)) (fun x o hx => FR_J7_fill_39_b5 x1 x3 x.1 x.2 o hx) mFU v e h
theorem FR_J7_fill_39 (x1 : Int32) (s : mSG) (o : mSG) (h : J7_fill_39 x1 s = some o) : Fr W_J7_fill_39 s o := by
  unfold J7_fill_39 at h
  obtain ⟨e5, hl, h⟩ := m_bind h
  have fl5 : Fr W_J7_fill_39 s ((fun y : mSG => y) e5) := Fr.tr Fr.rf (FR_J7_fill_39_l5 _ _ _ _ hl)
  obtain rfl := Option.some.inj h
  exact fl5

def W_J7_fill_40 : List (Nat × Option Nat) := [(40, none)]
theorem FR_J7_fill_40_b5 (x1 : Int32) (x3 : Int32) (x2 : Int32) (s : mSG) (o : (Int32 × mSG) ⊕ mSG) (h : J7_fill_40_b5 x1 x3 x2 s = some o) : FrS W_J7_fill_40 (fun y : Int32 × mSG => y.2) ((fun y : mSG => y)) s o := by
  unfold J7_fill_40_b5 at h
  by_cases hc : x3 ≤ x2
  · rw [if_pos hc] at h
    obtain rfl := Option.some.inj h
    exact ⟨fun y hy => (by cases hy), fun y hy => by obtain rfl := Sum.inr.inj hy; exact Fr.rf⟩
  · rw [if_neg hc] at h
    obtain ⟨-, h⟩ := m_ite h
    obtain rfl := Option.some.inj h
    exact ⟨fun y hy => by obtain rfl := Sum.inl.inj hy; exact (Fr.wI Fr.rf rfl), fun y hy => by cases hy⟩

theorem FR_J7_fill_40_l5 (x1 : Int32) (x3 : Int32) (v : Int32 × mSG) (e : mSG) (h : J7_fill_40_l5 x1 x3 v = some e) : Fr W_J7_fill_40 v.2 ((fun y : mSG => y) e) :=
  FrS.iter (hy := fun y : Int32 × mSG => y.2) (he := (fun y : mSG => y)) (fun x o hx => FR_J7_fill_40_b5 x1 x3 x.1 x.2 o hx) mFU v e h
theorem FR_J7_fill_40 (x1 : Int32) (s : mSG) (o : mSG) (h : J7_fill_40 x1 s = some o) : Fr W_J7_fill_40 s o := by
  unfold J7_fill_40 at h
  obtain ⟨e5, hl, h⟩ := m_bind h
  have fl5 : Fr W_J7_fill_40 s ((fun y : mSG => y) e5) := Fr.tr Fr.rf (FR_J7_fill_40_l5 _ _ _ _ hl)
  obtain rfl := Option.some.inj h
  exact fl5

def W_X7_learn_35_28_7 : List (Nat × Option Nat) := [(29, some 0), (29, some 1), (29, some 2), (29, some 3), (29, some 4), (29, some 5), (30, none), (35, some 1), (36, none)]
theorem FR_X7_learn_35_28_7_j95_65 (t : mTX) (x3 : Int32) (x5 : Int32) (x6 : Int32) (x7 : Int32) (p0 : Int32) (s : mSG) (o : (Int32 × Int32 × mSG) ⊕ Int32 × mSG) (h : X7_learn_35_28_7_j95_65 t x3 x5 x6 x7 p0 s = some o) : FrS W_X7_learn_35_28_7 (fun y : Int32 × Int32 × mSG => y.2.2) ((fun y : Int32 × mSG => y.2)) s o := by
  unfold X7_learn_35_28_7_j95_65 at h
  obtain ⟨r7, hr, h⟩ := m_bind h
  have fr7 : Fr W_X7_learn_35_28_7 s r7.2 := Fr.tr Fr.rf (Fr.mono (FR_X0_hours_28 _ _ _ _ _ _ hr) rfl)
  obtain ⟨-, h⟩ := m_ite h
  obtain rfl := Option.some.inj h
  exact ⟨fun y hy => by obtain rfl := Sum.inl.inj hy; exact (Fr.wI fr7 rfl), fun y hy => by cases hy⟩

theorem FR_X7_learn_35_28_7_j87_65 (t : mTX) (x3 : Int32) (x5 : Int32) (x6 : Int32) (x7 : Int32) (s : mSG) (o : (Int32 × Int32 × mSG) ⊕ Int32 × mSG) (h : X7_learn_35_28_7_j87_65 t x3 x5 x6 x7 s = some o) : FrS W_X7_learn_35_28_7 (fun y : Int32 × Int32 × mSG => y.2.2) ((fun y : Int32 × mSG => y.2)) s o := by
  unfold X7_learn_35_28_7_j87_65 at h
  obtain ⟨r6, hr, h⟩ := m_bind h
  exact FrS.tr Fr.rf (FR_X7_learn_35_28_7_j95_65 _ _ _ _ _ _ _ _ h)

theorem FR_X7_learn_35_28_7_b65 (t : mTX) (x3 : Int32) (x6 : Int32) (x5 : Int32) (x7 : Int32) (s : mSG) (o : (Int32 × Int32 × mSG) ⊕ Int32 × mSG) (h : X7_learn_35_28_7_b65 t x3 x6 x5 x7 s = some o) : FrS W_X7_learn_35_28_7 (fun y : Int32 × Int32 × mSG => y.2.2) ((fun y : Int32 × mSG => y.2)) s o := by
  unfold X7_learn_35_28_7_b65 at h
  by_cases hc : 8 ≤ x7
  · rw [if_pos hc] at h
    obtain rfl := Option.some.inj h
    exact ⟨fun y hy => (by cases hy), fun y hy => by obtain rfl := Sum.inr.inj hy; exact Fr.rf⟩
  · rw [if_neg hc] at h
    by_cases hc : x3 = 0
    · rw [if_pos hc] at h
      exact FrS.tr Fr.rf (FR_X7_learn_35_28_7_j87_65 _ _ _ _ _ _ _ h)
    · rw [if_neg hc] at h
      by_cases hc : x6 = x7
      · rw [if_pos hc] at h
        exact FrS.tr Fr.rf (FR_X7_learn_35_28_7_j87_65 _ _ _ _ _ _ _ h)
      · rw [if_neg hc] at h
        exact FrS.tr Fr.rf (FR_X7_learn_35_28_7_j95_65 _ _ _ _ _ _ _ _ h)

theorem FR_X7_learn_35_28_7_l65 (t : mTX) (x3 : Int32) (x6 : Int32) (v : Int32 × Int32 × mSG) (e : Int32 × mSG) (h : X7_learn_35_28_7_l65 t x3 x6 v = some e) : Fr W_X7_learn_35_28_7 v.2.2 ((fun y : Int32 × mSG => y.2) e) :=
  FrS.iter (hy := fun y : Int32 × Int32 × mSG => y.2.2) (he := (fun y : Int32 × mSG => y.2)) (fun x o hx => FR_X7_learn_35_28_7_b65 t x3 x6 x.1 x.2.1 x.2.2 o hx) mFU v e h
theorem FR_X7_learn_35_28_7_b55 (t : mTX) (x3 : Int32) (x5 : Int32) (x6 : Int32) (s : mSG) (o : (Int32 × Int32 × mSG) ⊕ mSG) (h : X7_learn_35_28_7_b55 t x3 x5 x6 s = some o) : FrS W_X7_learn_35_28_7 (fun y : Int32 × Int32 × mSG => y.2.2) ((fun y : mSG => y)) s o := by
  unfold X7_learn_35_28_7_b55 at h
  by_cases hc : 8 ≤ x6
  · rw [if_pos hc] at h
    obtain rfl := Option.some.inj h
    exact ⟨fun y hy => (by cases hy), fun y hy => by obtain rfl := Sum.inr.inj hy; exact Fr.rf⟩
  · rw [if_neg hc] at h
    obtain ⟨e65, hl, h⟩ := m_bind h
    have fl65 : Fr W_X7_learn_35_28_7 s ((fun y : Int32 × mSG => y.2) e65) := Fr.tr Fr.rf (FR_X7_learn_35_28_7_l65 _ _ _ _ _ hl)
    obtain rfl := Option.some.inj h
    exact ⟨fun y hy => by obtain rfl := Sum.inl.inj hy; exact fl65, fun y hy => by cases hy⟩

theorem FR_X7_learn_35_28_7_l55 (t : mTX) (x3 : Int32) (v : Int32 × Int32 × mSG) (e : mSG) (h : X7_learn_35_28_7_l55 t x3 v = some e) : Fr W_X7_learn_35_28_7 v.2.2 ((fun y : mSG => y) e) :=
  FrS.iter (hy := fun y : Int32 × Int32 × mSG => y.2.2) (he := (fun y : mSG => y)) (fun x o hx => FR_X7_learn_35_28_7_b55 t x3 x.1 x.2.1 x.2.2 o hx) mFU v e h
theorem FR_X7_learn_35_28_7 (t : mTX) (x3 : Int32) (s : mSG) (o : mSG) (h : X7_learn_35_28_7 t x3 s = some o) : Fr W_X7_learn_35_28_7 s o := by
  unfold X7_learn_35_28_7 at h
  by_cases hc : X8_isWithin (s.1 28 7) 9 = true
  · rw [if_pos hc] at h
    by_cases hc : (((s.1 35 1) >>> ((s.1 28 7) &&& 31)) &&& 1) = 0
    · rw [if_pos hc] at h
      obtain ⟨e55, hl, h⟩ := m_bind h
      have fl55 : Fr W_X7_learn_35_28_7 s ((fun y : mSG => y) e55) := Fr.tr (Fr.wI Fr.rf rfl) (FR_X7_learn_35_28_7_l55 _ _ _ _ hl)
      obtain rfl := Option.some.inj h
      exact fl55
    · rw [if_neg hc] at h
      obtain rfl := Option.some.inj h
      exact Fr.rf
  · rw [if_neg hc] at h
    obtain rfl := Option.some.inj h
    exact Fr.rf

def W_X7_learn_37_28_7 : List (Nat × Option Nat) := [(29, some 0), (29, some 1), (29, some 2), (29, some 3), (29, some 4), (29, some 5), (30, none), (37, some 1), (38, none)]
theorem FR_X7_learn_37_28_7_j95_65 (t : mTX) (x3 : Int32) (x5 : Int32) (x6 : Int32) (x7 : Int32) (p0 : Int32) (s : mSG) (o : (Int32 × Int32 × mSG) ⊕ Int32 × mSG) (h : X7_learn_37_28_7_j95_65 t x3 x5 x6 x7 p0 s = some o) : FrS W_X7_learn_37_28_7 (fun y : Int32 × Int32 × mSG => y.2.2) ((fun y : Int32 × mSG => y.2)) s o := by
  unfold X7_learn_37_28_7_j95_65 at h
  obtain ⟨r7, hr, h⟩ := m_bind h
  have fr7 : Fr W_X7_learn_37_28_7 s r7.2 := Fr.tr Fr.rf (Fr.mono (FR_X0_hours_28 _ _ _ _ _ _ hr) rfl)
  obtain ⟨-, h⟩ := m_ite h
  obtain rfl := Option.some.inj h
  exact ⟨fun y hy => by obtain rfl := Sum.inl.inj hy; exact (Fr.wI fr7 rfl), fun y hy => by cases hy⟩

theorem FR_X7_learn_37_28_7_j87_65 (t : mTX) (x3 : Int32) (x5 : Int32) (x6 : Int32) (x7 : Int32) (s : mSG) (o : (Int32 × Int32 × mSG) ⊕ Int32 × mSG) (h : X7_learn_37_28_7_j87_65 t x3 x5 x6 x7 s = some o) : FrS W_X7_learn_37_28_7 (fun y : Int32 × Int32 × mSG => y.2.2) ((fun y : Int32 × mSG => y.2)) s o := by
  unfold X7_learn_37_28_7_j87_65 at h
  obtain ⟨r6, hr, h⟩ := m_bind h
  exact FrS.tr Fr.rf (FR_X7_learn_37_28_7_j95_65 _ _ _ _ _ _ _ _ h)

theorem FR_X7_learn_37_28_7_b65 (t : mTX) (x3 : Int32) (x6 : Int32) (x5 : Int32) (x7 : Int32) (s : mSG) (o : (Int32 × Int32 × mSG) ⊕ Int32 × mSG) (h : X7_learn_37_28_7_b65 t x3 x6 x5 x7 s = some o) : FrS W_X7_learn_37_28_7 (fun y : Int32 × Int32 × mSG => y.2.2) ((fun y : Int32 × mSG => y.2)) s o := by
  unfold X7_learn_37_28_7_b65 at h
  by_cases hc : 8 ≤ x7
  · rw [if_pos hc] at h
    obtain rfl := Option.some.inj h
    exact ⟨fun y hy => (by cases hy), fun y hy => by obtain rfl := Sum.inr.inj hy; exact Fr.rf⟩
  · rw [if_neg hc] at h
    by_cases hc : x3 = 0
    · rw [if_pos hc] at h
      exact FrS.tr Fr.rf (FR_X7_learn_37_28_7_j87_65 _ _ _ _ _ _ _ h)
    · rw [if_neg hc] at h
      by_cases hc : x6 = x7
      · rw [if_pos hc] at h
        exact FrS.tr Fr.rf (FR_X7_learn_37_28_7_j87_65 _ _ _ _ _ _ _ h)
      · rw [if_neg hc] at h
        exact FrS.tr Fr.rf (FR_X7_learn_37_28_7_j95_65 _ _ _ _ _ _ _ _ h)

theorem FR_X7_learn_37_28_7_l65 (t : mTX) (x3 : Int32) (x6 : Int32) (v : Int32 × Int32 × mSG) (e : Int32 × mSG) (h : X7_learn_37_28_7_l65 t x3 x6 v = some e) : Fr W_X7_learn_37_28_7 v.2.2 ((fun y : Int32 × mSG => y.2) e) :=
  FrS.iter (hy := fun y : Int32 × Int32 × mSG => y.2.2) (he := (fun y : Int32 × mSG => y.2)) (fun x o hx => FR_X7_learn_37_28_7_b65 t x3 x6 x.1 x.2.1 x.2.2 o hx) mFU v e h
theorem FR_X7_learn_37_28_7_b55 (t : mTX) (x3 : Int32) (x5 : Int32) (x6 : Int32) (s : mSG) (o : (Int32 × Int32 × mSG) ⊕ mSG) (h : X7_learn_37_28_7_b55 t x3 x5 x6 s = some o) : FrS W_X7_learn_37_28_7 (fun y : Int32 × Int32 × mSG => y.2.2) ((fun y : mSG => y)) s o := by
  unfold X7_learn_37_28_7_b55 at h
  by_cases hc : 8 ≤ x6
  · rw [if_pos hc] at h
    obtain rfl := Option.some.inj h
    exact ⟨fun y hy => (by cases hy), fun y hy => by obtain rfl := Sum.inr.inj hy; exact Fr.rf⟩
  · rw [if_neg hc] at h
    obtain ⟨e65, hl, h⟩ := m_bind h
    have fl65 : Fr W_X7_learn_37_28_7 s ((fun y : Int32 × mSG => y.2) e65) := Fr.tr Fr.rf (FR_X7_learn_37_28_7_l65 _ _ _ _ _ hl)
    obtain rfl := Option.some.inj h
    exact ⟨fun y hy => by obtain rfl := Sum.inl.inj hy; exact fl65, fun y hy => by cases hy⟩

theorem FR_X7_learn_37_28_7_l55 (t : mTX) (x3 : Int32) (v : Int32 × Int32 × mSG) (e : mSG) (h : X7_learn_37_28_7_l55 t x3 v = some e) : Fr W_X7_learn_37_28_7 v.2.2 ((fun y : mSG => y) e) :=
  FrS.iter (hy := fun y : Int32 × Int32 × mSG => y.2.2) (he := (fun y : mSG => y)) (fun x o hx => FR_X7_learn_37_28_7_b55 t x3 x.1 x.2.1 x.2.2 o hx) mFU v e h
theorem FR_X7_learn_37_28_7 (t : mTX) (x3 : Int32) (s : mSG) (o : mSG) (h : X7_learn_37_28_7 t x3 s = some o) : Fr W_X7_learn_37_28_7 s o := by
  unfold X7_learn_37_28_7 at h
  by_cases hc : X8_isWithin (s.1 28 7) 9 = true
  · rw [if_pos hc] at h
    by_cases hc : (((s.1 37 1) >>> ((s.1 28 7) &&& 31)) &&& 1) = 0
    · rw [if_pos hc] at h
      obtain ⟨e55, hl, h⟩ := m_bind h
      have fl55 : Fr W_X7_learn_37_28_7 s ((fun y : mSG => y) e55) := Fr.tr (Fr.wI Fr.rf rfl) (FR_X7_learn_37_28_7_l55 _ _ _ _ hl)
      obtain rfl := Option.some.inj h
      exact fl55
    · rw [if_neg hc] at h
      obtain rfl := Option.some.inj h
      exact Fr.rf
  · rw [if_neg hc] at h
    obtain rfl := Option.some.inj h
    exact Fr.rf

def W_J7_fill_41 : List (Nat × Option Nat) := [(41, none)]
theorem FR_J7_fill_41_b5 (x1 : Int32) (x3 : Int32) (x2 : Int32) (s : mSG) (o : (Int32 × mSG) ⊕ mSG) (h : J7_fill_41_b5 x1 x3 x2 s = some o) : FrS W_J7_fill_41 (fun y : Int32 × mSG => y.2) ((fun y : mSG => y)) s o := by
  unfold J7_fill_41_b5 at h
  by_cases hc : x3 ≤ x2
  · rw [if_pos hc] at h
    obtain rfl := Option.some.inj h
    exact ⟨fun y hy => (by cases hy), fun y hy => by obtain rfl := Sum.inr.inj hy; exact Fr.rf⟩
  · rw [if_neg hc] at h
    obtain ⟨-, h⟩ := m_ite h
    obtain rfl := Option.some.inj h
    exact ⟨fun y hy => by obtain rfl := Sum.inl.inj hy; exact (Fr.wI Fr.rf rfl), fun y hy => by cases hy⟩

theorem FR_J7_fill_41_l5 (x1 : Int32) (x3 : Int32) (v : Int32 × mSG) (e : mSG) (h : J7_fill_41_l5 x1 x3 v = some e) : Fr W_J7_fill_41 v.2 ((fun y : mSG => y) e) :=
  FrS.iter (hy := fun y : Int32 × mSG => y.2) (he := (fun y : mSG => y)) (fun x o hx => FR_J7_fill_41_b5 x1 x3 x.1 x.2 o hx) mFU v e h
theorem FR_J7_fill_41 (x1 : Int32) (s : mSG) (o : mSG) (h : J7_fill_41 x1 s = some o) : Fr W_J7_fill_41 s o := by
  unfold J7_fill_41 at h
  obtain ⟨e5, hl, h⟩ := m_bind h
  have fl5 : Fr W_J7_fill_41 s ((fun y : mSG => y) e5) := Fr.tr Fr.rf (FR_J7_fill_41_l5 _ _ _ _ hl)
  obtain rfl := Option.some.inj h
  exact fl5

def W_J7_fill_42 : List (Nat × Option Nat) := [(42, none)]
theorem FR_J7_fill_42_b5 (x1 : Int32) (x3 : Int32) (x2 : Int32) (s : mSG) (o : (Int32 × mSG) ⊕ mSG) (h : J7_fill_42_b5 x1 x3 x2 s = some o) : FrS W_J7_fill_42 (fun y : Int32 × mSG => y.2) ((fun y : mSG => y)) s o := by
  unfold J7_fill_42_b5 at h
  by_cases hc : x3 ≤ x2
  · rw [if_pos hc] at h
    obtain rfl := Option.some.inj h
    exact ⟨fun y hy => (by cases hy), fun y hy => by obtain rfl := Sum.inr.inj hy; exact Fr.rf⟩
  · rw [if_neg hc] at h
    obtain ⟨-, h⟩ := m_ite h
    obtain rfl := Option.some.inj h
    exact ⟨fun y hy => by obtain rfl := Sum.inl.inj hy; exact (Fr.wI Fr.rf rfl), fun y hy => by cases hy⟩

theorem FR_J7_fill_42_l5 (x1 : Int32) (x3 : Int32) (v : Int32 × mSG) (e : mSG) (h : J7_fill_42_l5 x1 x3 v = some e) : Fr W_J7_fill_42 v.2 ((fun y : mSG => y) e) :=
  FrS.iter (hy := fun y : Int32 × mSG => y.2) (he := (fun y : mSG => y)) (fun x o hx => FR_J7_fill_42_b5 x1 x3 x.1 x.2 o hx) mFU v e h
theorem FR_J7_fill_42 (x1 : Int32) (s : mSG) (o : mSG) (h : J7_fill_42 x1 s = some o) : Fr W_J7_fill_42 s o := by
  unfold J7_fill_42 at h
  obtain ⟨e5, hl, h⟩ := m_bind h
  have fl5 : Fr W_J7_fill_42 s ((fun y : mSG => y) e5) := Fr.tr Fr.rf (FR_J7_fill_42_l5 _ _ _ _ hl)
  obtain rfl := Option.some.inj h
  exact fl5

def W_X3_offer : List (Nat × Option Nat) := [(41, none), (42, none)]
theorem FR_X3_offer_j30 (x1 : Int32) (x2 : Int32) (x3 : Int32) (s : mSG) (o : mSG) (h : X3_offer_j30 x1 x2 x3 s = some o) : Fr W_X3_offer s o := by
  unfold X3_offer_j30 at h
  obtain ⟨-, h⟩ := m_ite h
  obtain rfl := Option.some.inj h
  exact (Fr.wI (Fr.wI Fr.rf rfl) rfl)

theorem FR_X3_offer (x1 : Int32) (x2 : Int32) (x3 : Int32) (s : mSG) (o : mSG) (h : X3_offer x1 x2 x3 s = some o) : Fr W_X3_offer s o := by
  unfold X3_offer at h
  obtain ⟨-, h⟩ := m_ite h
  by_cases hc : x2 < (s.1 41 x1.toNatClampNeg)
  · rw [if_pos hc] at h
    exact Fr.tr Fr.rf (FR_X3_offer_j30 _ _ _ _ _ h)
  · rw [if_neg hc] at h
    by_cases hc : x2 = (s.1 41 x1.toNatClampNeg)
    · rw [if_pos hc] at h
      by_cases hc : (s.1 42 x1.toNatClampNeg) ≤ x3
      · rw [if_pos hc] at h
        obtain rfl := Option.some.inj h
        exact Fr.rf
      · rw [if_neg hc] at h
        exact Fr.tr Fr.rf (FR_X3_offer_j30 _ _ _ _ _ h)
    · rw [if_neg hc] at h
      obtain rfl := Option.some.inj h
      exact Fr.rf

def W_X3_step : List (Nat × Option Nat) := [(39, none), (40, none), (41, none), (42, none)]
theorem FR_X3_step_j94_27 (x1 : Int32) (x2 : Int32) (x3 : Int32) (s : mSG) (o : (Int32 × mSG) ⊕ mSG) (h : X3_step_j94_27 x1 x2 x3 s = some o) : FrS W_X3_step (fun y : Int32 × mSG => y.2) ((fun y : mSG => y)) s o := by
  unfold X3_step_j94_27 at h
  obtain rfl := Option.some.inj h
  exact ⟨fun y hy => by obtain rfl := Sum.inl.inj hy; exact Fr.rf, fun y hy => by cases hy⟩

theorem FR_X3_step_j91_27 (x1 : Int32) (x2 : Int32) (x3 : Int32) (p1 : Int32) (p2 : Int32) (p3 : Int32) (s : mSG) (o : (Int32 × mSG) ⊕ mSG) (h : X3_step_j91_27 x1 x2 x3 p1 p2 p3 s = some o) : FrS W_X3_step (fun y : Int32 × mSG => y.2) ((fun y : mSG => y)) s o := by
  unfold X3_step_j91_27 at h
  obtain ⟨r10, hr, h⟩ := m_bind h
  have fr10 : Fr W_X3_step s r10 := Fr.tr Fr.rf (Fr.mono (FR_X3_offer _ _ _ _ _ hr) rfl)
  exact FrS.tr fr10 (FR_X3_step_j94_27 _ _ _ _ _ h)

theorem FR_X3_step_b27 (x1 : Int32) (x2 : Int32) (x3 : Int32) (s : mSG) (o : (Int32 × mSG) ⊕ mSG) (h : X3_step_b27 x1 x2 x3 s = some o) : FrS W_X3_step (fun y : Int32 × mSG => y.2) ((fun y : mSG => y)) s o := by
  unfold X3_step_b27 at h
  obtain ⟨-, h⟩ := m_ite h
  by_cases hc : (s.1 34 10) ≤ (s.1 39 x2.toNatClampNeg)
  · rw [if_pos hc] at h
    obtain rfl := Option.some.inj h
    exact ⟨fun y hy => (by cases hy), fun y hy => by obtain rfl := Sum.inr.inj hy; exact Fr.rf⟩
  · rw [if_neg hc] at h
    by_cases hc : 8 ≤ x3
    · rw [if_pos hc] at h
      obtain rfl := Option.some.inj h
      exact ⟨fun y hy => (by cases hy), fun y hy => by obtain rfl := Sum.inr.inj hy; exact Fr.rf⟩
    · rw [if_neg hc] at h
      obtain ⟨r7, hr, h⟩ := m_bind h
      by_cases hc : r7 ≤ 0
      · rw [if_pos hc] at h
        exact FrS.tr Fr.rf (FR_X3_step_j94_27 _ _ _ _ _ h)
      · rw [if_neg hc] at h
        by_cases hc : (s.1 40 x2.toNatClampNeg) = (-1)
        · rw [if_pos hc] at h
          exact FrS.tr Fr.rf (FR_X3_step_j91_27 _ _ _ _ _ _ _ _ h)
        · rw [if_neg hc] at h
          exact FrS.tr Fr.rf (FR_X3_step_j91_27 _ _ _ _ _ _ _ _ h)

theorem FR_X3_step_l27 (x1 : Int32) (x2 : Int32) (v : Int32 × mSG) (e : mSG) (h : X3_step_l27 x1 x2 v = some e) : Fr W_X3_step v.2 ((fun y : mSG => y) e) :=
  FrS.iter (hy := fun y : Int32 × mSG => y.2) (he := (fun y : mSG => y)) (fun x o hx => FR_X3_step_b27 x1 x2 x.1 x.2 o hx) mFU v e h
theorem FR_X3_step_j100_19 (x1 : Int32) (x2 : Int32) (s : mSG) (o : (Int32 × mSG) ⊕ mSG) (h : X3_step_j100_19 x1 x2 s = some o) : FrS W_X3_step (fun y : Int32 × mSG => y.2) ((fun y : mSG => y)) s o := by
  unfold X3_step_j100_19 at h
  obtain rfl := Option.some.inj h
  exact ⟨fun y hy => by obtain rfl := Sum.inl.inj hy; exact Fr.rf, fun y hy => by cases hy⟩

theorem FR_X3_step_b19 (x1 : Int32) (x2 : Int32) (s : mSG) (o : (Int32 × mSG) ⊕ mSG) (h : X3_step_b19 x1 x2 s = some o) : FrS W_X3_step (fun y : Int32 × mSG => y.2) ((fun y : mSG => y)) s o := by
  unfold X3_step_b19 at h
  by_cases hc : 8 ≤ x2
  · rw [if_pos hc] at h
    obtain rfl := Option.some.inj h
    exact ⟨fun y hy => (by cases hy), fun y hy => by obtain rfl := Sum.inr.inj hy; exact Fr.rf⟩
  · rw [if_neg hc] at h
    obtain ⟨e27, hl, h⟩ := m_bind h
    have fl27 : Fr W_X3_step s ((fun y : mSG => y) e27) := Fr.tr Fr.rf (FR_X3_step_l27 _ _ _ _ hl)
    exact FrS.tr fl27 (FR_X3_step_j100_19 _ _ _ _ h)

theorem FR_X3_step_l19 (x1 : Int32) (v : Int32 × mSG) (e : mSG) (h : X3_step_l19 x1 v = some e) : Fr W_X3_step v.2 ((fun y : mSG => y) e) :=
  FrS.iter (hy := fun y : Int32 × mSG => y.2) (he := (fun y : mSG => y)) (fun x o hx => FR_X3_step_b19 x1 x.1 x.2 o hx) mFU v e h
theorem FR_X3_step (x1 : Int32) (s : mSG) (o : mSG) (h : X3_step x1 s = some o) : Fr W_X3_step s o := by
  unfold X3_step at h
  obtain ⟨r1, hr, h⟩ := m_bind h
  have fr1 : Fr W_X3_step s r1 := Fr.tr Fr.rf (Fr.mono (FR_J7_fill_41 _ _ _ hr) rfl)
  obtain ⟨r2, hr, h⟩ := m_bind h
  have fr2 : Fr W_X3_step s r2 := Fr.tr fr1 (Fr.mono (FR_J7_fill_42 _ _ _ hr) rfl)
  obtain ⟨e19, hl, h⟩ := m_bind h
  have fl19 : Fr W_X3_step s ((fun y : mSG => y) e19) := Fr.tr fr2 (FR_X3_step_l19 _ _ _ hl)
  obtain rfl := Option.some.inj h
  exact (Fr.wC (Fr.wC fl19 (fun _ => rfl)) (fun _ => rfl))

def W_X3_noteArrival : List (Nat × Option Nat) := [(34, some 10), (34, some 11)]
theorem FR_X3_noteArrival_j51 (x1 : Int32) (s : mSG) (o : mSG) (h : X3_noteArrival_j51 x1 s = some o) : Fr W_X3_noteArrival s o := by
  unfold X3_noteArrival_j51 at h
  obtain ⟨-, h⟩ := m_ite h
  obtain rfl := Option.some.inj h
  exact (Fr.wI (Fr.wI Fr.rf rfl) rfl)

theorem FR_X3_noteArrival (x1 : Int32) (s : mSG) (o : mSG) (h : X3_noteArrival x1 s = some o) : Fr W_X3_noteArrival s o := by
  unfold X3_noteArrival at h
  obtain ⟨-, h⟩ := m_ite h
  by_cases hc : (s.1 39 x1.toNatClampNeg) = 1000000
  · rw [if_pos hc] at h
    obtain rfl := Option.some.inj h
    exact Fr.rf
  · rw [if_neg hc] at h
    by_cases hc : (s.1 39 x1.toNatClampNeg) ≤ (s.1 34 10)
    · rw [if_pos hc] at h
      by_cases hc : (s.1 39 x1.toNatClampNeg) < (s.1 34 10)
      · rw [if_pos hc] at h
        exact Fr.tr Fr.rf (FR_X3_noteArrival_j51 _ _ _ h)
      · rw [if_neg hc] at h
        by_cases hc : (s.1 34 11) ≤ (s.1 40 x1.toNatClampNeg)
        · rw [if_pos hc] at h
          obtain rfl := Option.some.inj h
          exact Fr.rf
        · rw [if_neg hc] at h
          exact Fr.tr Fr.rf (FR_X3_noteArrival_j51 _ _ _ h)
    · rw [if_neg hc] at h
      obtain rfl := Option.some.inj h
      exact Fr.rf

def W_X3_seek_28_7 : List (Nat × Option Nat) := [(28, some 7), (29, some 0), (29, some 1), (29, some 2), (29, some 3), (29, some 4), (29, some 5), (30, none), (34, some 10), (34, some 11), (35, some 1), (36, none), (37, some 1), (38, none), (39, none), (40, none), (41, none), (42, none)]
theorem FR_X3_seek_28_7_j99_64 (t : mTX) (x4 : Int32) (x5 : Int32) (x6 : Int32) (s : mSG) (o : (Int32 × mSG) ⊕ mSG) (h : X3_seek_28_7_j99_64 t x4 x5 x6 s = some o) : FrS W_X3_seek_28_7 (fun y : Int32 × mSG => y.2) ((fun y : mSG => y)) s o := by
  unfold X3_seek_28_7_j99_64 at h
  obtain ⟨r9, hr, h⟩ := m_bind h
  have fr9 : Fr W_X3_seek_28_7 s r9 := Fr.tr Fr.rf (Fr.mono (FR_X3_step _ _ _ hr) rfl)
  obtain ⟨r10, hr, h⟩ := m_bind h
  have fr10 : Fr W_X3_seek_28_7 s r10 := Fr.tr fr9 (Fr.mono (FR_X3_noteArrival _ _ _ hr) rfl)
  obtain ⟨r11, hr, h⟩ := m_bind h
  have fr11 : Fr W_X3_seek_28_7 s r11 := Fr.tr fr10 (Fr.mono (FR_X0_soak_28 _ _ hr) rfl)
  obtain rfl := Option.some.inj h
  exact ⟨fun y hy => by obtain rfl := Sum.inl.inj hy; exact fr11, fun y hy => by cases hy⟩

theorem FR_X3_seek_28_7_b64 (t : mTX) (x4 : Int32) (x5 : Int32) (x6 : Int32) (s : mSG) (o : (Int32 × mSG) ⊕ mSG) (h : X3_seek_28_7_b64 t x4 x5 x6 s = some o) : FrS W_X3_seek_28_7 (fun y : Int32 × mSG => y.2) ((fun y : mSG => y)) s o := by
  unfold X3_seek_28_7_b64 at h
  by_cases hc : 16 ≤ x6
  · rw [if_pos hc] at h
    obtain rfl := Option.some.inj h
    exact ⟨fun y hy => (by cases hy), fun y hy => by obtain rfl := Sum.inr.inj hy; exact Fr.rf⟩
  · rw [if_neg hc] at h
    obtain ⟨r6, hr, h⟩ := m_bind h
    have fr6 : Fr W_X3_seek_28_7 s r6 := Fr.tr Fr.rf (Fr.mono (FR_X7_learn_35_28_7 _ _ _ _ hr) rfl)
    by_cases hc : (r6.1 34 8) = (-1)
    · rw [if_pos hc] at h
      exact FrS.tr fr6 (FR_X3_seek_28_7_j99_64 _ _ _ _ _ _ h)
    · rw [if_neg hc] at h
      obtain ⟨r8, hr, h⟩ := m_bind h
      have fr8 : Fr W_X3_seek_28_7 s r8 := Fr.tr fr6 (Fr.mono (FR_X7_learn_37_28_7 _ _ _ _ hr) rfl)
      exact FrS.tr fr8 (FR_X3_seek_28_7_j99_64 _ _ _ _ _ _ h)

theorem FR_X3_seek_28_7_l64 (t : mTX) (x4 : Int32) (x5 : Int32) (v : Int32 × mSG) (e : mSG) (h : X3_seek_28_7_l64 t x4 x5 v = some e) : Fr W_X3_seek_28_7 v.2 ((fun y : mSG => y) e) :=
  FrS.iter (hy := fun y : Int32 × mSG => y.2) (he := (fun y : mSG => y)) (fun x o hx => FR_X3_seek_28_7_b64 t x4 x5 x.1 x.2 o hx) mFU v e h
theorem FR_X3_seek_28_7_j13 (t : mTX) (x3 : Int32) (x4 : Int32) (p1 : Int32) (s : mSG) (o : mSG) (h : X3_seek_28_7_j13 t x3 x4 p1 s = some o) : Fr W_X3_seek_28_7 s o := by
  unfold X3_seek_28_7_j13 at h
  by_cases hc : X8_areTwoStones x3 x4 = true
  · rw [if_pos hc] at h
    obtain ⟨r2, hr, h⟩ := m_bind h
    have fr2 : Fr W_X3_seek_28_7 s r2 := Fr.tr (Fr.wI (Fr.wI Fr.rf rfl) rfl) (Fr.mono (FR_J7_fill_39 _ _ _ hr) rfl)
    obtain ⟨r3, hr, h⟩ := m_bind h
    have fr3 : Fr W_X3_seek_28_7 s r3 := Fr.tr fr2 (Fr.mono (FR_J7_fill_40 _ _ _ hr) rfl)
    obtain ⟨-, h⟩ := m_ite h
    obtain ⟨e64, hl, h⟩ := m_bind h
    have fl64 : Fr W_X3_seek_28_7 s ((fun y : mSG => y) e64) := Fr.tr (Fr.wI fr3 rfl) (FR_X3_seek_28_7_l64 _ _ _ _ _ hl)
    obtain rfl := Option.some.inj h
    exact (Fr.wI fl64 rfl)
  · rw [if_neg hc] at h
    obtain rfl := Option.some.inj h
    exact (Fr.wI (Fr.wI Fr.rf rfl) rfl)

theorem FR_X3_seek_28_7 (t : mTX) (x3 : Int32) (x4 : Int32) (s : mSG) (o : mSG) (h : X3_seek_28_7 t x3 x4 s = some o) : Fr W_X3_seek_28_7 s o := by
  unfold X3_seek_28_7 at h
  by_cases hc : x3 = x4
  · rw [if_pos hc] at h
    exact Fr.tr Fr.rf (FR_X3_seek_28_7_j13 _ _ _ _ _ _ h)
  · rw [if_neg hc] at h
    exact Fr.tr Fr.rf (FR_X3_seek_28_7_j13 _ _ _ _ _ _ h)

def W_X8_seek : List (Nat × Option Nat) := [(28, some 2), (28, some 3), (28, some 4), (28, some 5), (28, some 6), (28, some 7), (28, some 8), (29, some 0), (29, some 1), (29, some 2), (29, some 3), (29, some 4), (29, some 5), (30, none), (34, some 10), (34, some 11), (35, some 1), (36, none), (37, some 1), (38, none), (39, none), (40, none), (41, none), (42, none)]
theorem FR_X8_seek (t : mTX) (x1 : Int32) (x2 : Int32) (x3 : Int32) (s : mSG) (o : mSG) (h : X8_seek t x1 x2 x3 s = some o) : Fr W_X8_seek s o := by
  unfold X8_seek at h
  obtain ⟨r1, hr, h⟩ := m_bind h
  obtain ⟨r2, hr, h⟩ := m_bind h
  have fr2 : Fr W_X8_seek s r2 := Fr.tr Fr.rf (Fr.mono (FR_X0_be_28_7 _ _ _ _ hr) rfl)
  obtain ⟨r3, hr, h⟩ := m_bind h
  have fr3 : Fr W_X8_seek s r3 := Fr.tr (Fr.wI fr2 rfl) (Fr.mono (FR_X3_forget _ _ hr) rfl)
  obtain ⟨r4, hr, h⟩ := m_bind h
  obtain ⟨r5, hr, h⟩ := m_bind h
  have fr5 : Fr W_X8_seek s r5 := Fr.tr fr3 (Fr.mono (FR_X3_seek_28_7 _ _ _ _ _ hr) rfl)
  obtain rfl := Option.some.inj h
  exact fr5

def W_X8_soonest : List (Nat × Option Nat) := [(28, some 2), (28, some 3), (28, some 4), (28, some 5), (28, some 6), (28, some 7), (28, some 8), (29, some 0), (29, some 1), (29, some 2), (29, some 3), (29, some 4), (29, some 5), (30, none), (34, some 10), (34, some 11), (35, some 1), (36, none), (37, some 1), (38, none), (39, none), (40, none), (41, none), (42, none)]
theorem FR_X8_soonest (t : mTX) (x1 : Int32) (x2 : Int32) (x3 : Int32) (s : mSG) (o : Int32 × mSG) (h : X8_soonest t x1 x2 x3 s = some o) : Fr W_X8_soonest s o.2 := by
  unfold X8_soonest at h
  by_cases hc : X5_isOne_7 x1 s = true
  · rw [if_pos hc] at h
    by_cases hc : X8_isStone x2 = true
    · rw [if_pos hc] at h
      by_cases hc : X8_isWithin x3 1 = true
      · rw [if_pos hc] at h
        obtain ⟨r1, hr, h⟩ := m_bind h
        obtain ⟨r2, hr, h⟩ := m_bind h
        have fr2 : Fr W_X8_soonest s r2 := Fr.tr Fr.rf (Fr.mono (FR_X8_seek _ _ _ _ _ _ hr) rfl)
        by_cases hc : x3 = 0
        · rw [if_pos hc] at h
          obtain rfl := Option.some.inj h
          exact fr2
        · rw [if_neg hc] at h
          obtain rfl := Option.some.inj h
          exact fr2
      · rw [if_neg hc] at h
        obtain rfl := Option.some.inj h
        exact Fr.rf
    · rw [if_neg hc] at h
      obtain rfl := Option.some.inj h
      exact Fr.rf
  · rw [if_neg hc] at h
    obtain rfl := Option.some.inj h
    exact Fr.rf

def W_X0_be_31_7 : List (Nat × Option Nat) := [(31, some 2), (31, some 3), (31, some 4), (31, some 5), (31, some 6), (31, some 7), (31, some 8)]
theorem FR_X0_be_31_7 (x2 : Int32) (a3_ : Nat) (s : mSG) (o : mSG) (h : X0_be_31_7 x2 a3_ s = some o) : Fr W_X0_be_31_7 s o := by
  unfold X0_be_31_7 at h
  obtain ⟨r1, hr, h⟩ := m_bind h
  obtain ⟨r2, hr, h⟩ := m_bind h
  obtain ⟨r3, hr, h⟩ := m_bind h
  obtain ⟨r4, hr, h⟩ := m_bind h
  obtain ⟨r5, hr, h⟩ := m_bind h
  obtain ⟨r6, hr, h⟩ := m_bind h
  obtain rfl := Option.some.inj h
  exact (Fr.wI (Fr.wI (Fr.wI (Fr.wI (Fr.wI (Fr.wI (Fr.wQ Fr.rf rfl) rfl) rfl) rfl) rfl) rfl) rfl)

def W_X0_wants_28 : List (Nat × Option Nat) := [(29, some 0), (29, some 1), (29, some 2), (29, some 3), (29, some 4), (29, some 5), (30, none)]
theorem FR_X0_wants_28 (t : mTX) (x1 : Int32) (x2 : Int32) (x3 : Int32) (s : mSG) (o : Int32 × mSG) (h : X0_wants_28 t x1 x2 x3 s = some o) : Fr W_X0_wants_28 s o.2 := by
  unfold X0_wants_28 at h
  obtain ⟨r1, hr, h⟩ := m_bind h
  have fr1 : Fr W_X0_wants_28 s r1.2 := Fr.tr Fr.rf (Fr.mono (FR_X0_asked_28 _ _ _ _ _ _ _ hr) rfl)
  obtain rfl := Option.some.inj h
  exact fr1

def W_X6_value_32_33 : List (Nat × Option Nat) := [(33, none)]
theorem FR_X6_value_32_33_j172_31 (t : mTX) (a0_ : Nat) (x1 : Int32) (x4 : Int32) (x5 : Int32) (s : mSG) (o : (Int32 × Int32 × mSG) ⊕ mSG) (h : X6_value_32_33_j172_31 t a0_ x1 x4 x5 s = some o) : FrS W_X6_value_32_33 (fun y : Int32 × Int32 × mSG => y.2.2) ((fun y : mSG => y)) s o := by
  unfold X6_value_32_33_j172_31 at h
  obtain rfl := Option.some.inj h
  exact ⟨fun y hy => by obtain rfl := Sum.inl.inj hy; exact Fr.rf, fun y hy => by cases hy⟩

theorem FR_X6_value_32_33_j93_31 (t : mTX) (a0_ : Nat) (x1 : Int32) (x4 : Int32) (x5 : Int32) (p1 : Int32) (p2 : Int32) (s : mSG) (o : (Int32 × Int32 × mSG) ⊕ mSG) (h : X6_value_32_33_j93_31 t a0_ x1 x4 x5 p1 p2 s = some o) : FrS W_X6_value_32_33 (fun y : Int32 × Int32 × mSG => y.2.2) ((fun y : mSG => y)) s o := by
  unfold X6_value_32_33_j93_31 at h
  obtain ⟨-, h⟩ := m_ite h
  exact FrS.tr (Fr.wI Fr.rf rfl) (FR_X6_value_32_33_j172_31 _ _ _ _ _ _ _ h)

theorem FR_X6_value_32_33_j69_31 (t : mTX) (a0_ : Nat) (x1 : Int32) (x4 : Int32) (x5 : Int32) (x6 : Int32) (x7 : Int32) (s : mSG) (o : (Int32 × Int32 × mSG) ⊕ mSG) (h : X6_value_32_33_j69_31 t a0_ x1 x4 x5 x6 x7 s = some o) : FrS W_X6_value_32_33 (fun y : Int32 × Int32 × mSG => y.2.2) ((fun y : mSG => y)) s o := by
  unfold X6_value_32_33_j69_31 at h
  by_cases hc : 32 ≤ x4
  · rw [if_pos hc] at h
    exact FrS.tr Fr.rf (FR_X6_value_32_33_j172_31 _ _ _ _ _ _ _ h)
  · rw [if_neg hc] at h
    by_cases hc : x6 < 0
    · rw [if_pos hc] at h
      obtain ⟨-, h⟩ := m_ite h
      exact FrS.tr Fr.rf (FR_X6_value_32_33_j93_31 _ _ _ _ _ _ _ _ _ h)
    · rw [if_neg hc] at h
      exact FrS.tr Fr.rf (FR_X6_value_32_33_j93_31 _ _ _ _ _ _ _ _ _ h)

theorem FR_X6_value_32_33_j114_31 (t : mTX) (a0_ : Nat) (x1 : Int32) (x4 : Int32) (x5 : Int32) (x6 : Int32) (s : mSG) (o : (Int32 × Int32 × mSG) ⊕ mSG) (h : X6_value_32_33_j114_31 t a0_ x1 x4 x5 x6 s = some o) : FrS W_X6_value_32_33 (fun y : Int32 × Int32 × mSG => y.2.2) ((fun y : mSG => y)) s o := by
  unfold X6_value_32_33_j114_31 at h
  by_cases hc : x4 < 1
  · rw [if_pos hc] at h
    exact FrS.tr Fr.rf (FR_X6_value_32_33_j172_31 _ _ _ _ _ _ _ h)
  · rw [if_neg hc] at h
    obtain ⟨-, h⟩ := m_ite h
    exact FrS.tr (Fr.wI Fr.rf rfl) (FR_X6_value_32_33_j172_31 _ _ _ _ _ _ _ h)

theorem FR_X6_value_32_33_b31 (t : mTX) (a0_ : Nat) (x1 : Int32) (x4 : Int32) (x5 : Int32) (s : mSG) (o : (Int32 × Int32 × mSG) ⊕ mSG) (h : X6_value_32_33_b31 t a0_ x1 x4 x5 s = some o) : FrS W_X6_value_32_33 (fun y : Int32 × Int32 × mSG => y.2.2) ((fun y : mSG => y)) s o := by
  unfold X6_value_32_33_b31 at h
  obtain ⟨-, h⟩ := m_ite h
  obtain ⟨a3, -, h⟩ := m_bind h
  obtain ⟨-, h⟩ := m_ite h
  by_cases hc : (s.1 a3 x1.toNatClampNeg) ≤ x5
  · rw [if_pos hc] at h
    obtain rfl := Option.some.inj h
    exact ⟨fun y hy => (by cases hy), fun y hy => by obtain rfl := Sum.inr.inj hy; exact Fr.rf⟩
  · rw [if_neg hc] at h
    obtain ⟨-, h⟩ := m_ite h
    obtain ⟨a5, -, h⟩ := m_bind h
    obtain ⟨-, h⟩ := m_ite h
    by_cases hc : 0 ≤ (s.1 a5 x5.toNatClampNeg)
    · rw [if_pos hc] at h
      exact FrS.tr Fr.rf (FR_X6_value_32_33_j69_31 _ _ _ _ _ _ _ _ _ h)
    · rw [if_neg hc] at h
      by_cases hc : 6 ≤ ((-1) - (s.1 a5 x5.toNatClampNeg))
      · rw [if_pos hc] at h
        by_cases hc : (s.1 a5 x5.toNatClampNeg) = (-13)
        · rw [if_pos hc] at h
          exact FrS.tr Fr.rf (FR_X6_value_32_33_j114_31 _ _ _ _ _ _ _ _ h)
        · rw [if_neg hc] at h
          by_cases hc : (s.1 a5 x5.toNatClampNeg) = (-19)
          · rw [if_pos hc] at h
            exact FrS.tr Fr.rf (FR_X6_value_32_33_j114_31 _ _ _ _ _ _ _ _ h)
          · rw [if_neg hc] at h
            by_cases hc : x4 < 2
            · rw [if_pos hc] at h
              exact FrS.tr Fr.rf (FR_X6_value_32_33_j172_31 _ _ _ _ _ _ _ h)
            · rw [if_neg hc] at h
              obtain ⟨-, h⟩ := m_ite h
              obtain ⟨-, h⟩ := m_ite h
              exact FrS.tr (Fr.wI Fr.rf rfl) (FR_X6_value_32_33_j172_31 _ _ _ _ _ _ _ h)
      · rw [if_neg hc] at h
        exact FrS.tr Fr.rf (FR_X6_value_32_33_j69_31 _ _ _ _ _ _ _ _ _ h)

theorem FR_X6_value_32_33_l31 (t : mTX) (a0_ : Nat) (x1 : Int32) (v : Int32 × Int32 × mSG) (e : mSG) (h : X6_value_32_33_l31 t a0_ x1 v = some e) : Fr W_X6_value_32_33 v.2.2 ((fun y : mSG => y) e) :=
  FrS.iter (hy := fun y : Int32 × Int32 × mSG => y.2.2) (he := (fun y : mSG => y)) (fun x o hx => FR_X6_value_32_33_b31 t a0_ x1 x.1 x.2.1 x.2.2 o hx) mFU v e h
theorem FR_X6_value_32_33_j29 (t : mTX) (a0_ : Nat) (x1 : Int32) (x4 : Int32) (p0 : Int32) (s : mSG) (o : Int32 × mSG) (h : X6_value_32_33_j29 t a0_ x1 x4 p0 s = some o) : Fr W_X6_value_32_33 s o.2 := by
  unfold X6_value_32_33_j29 at h
  obtain ⟨e31, hl, h⟩ := m_bind h
  have fl31 : Fr W_X6_value_32_33 s ((fun y : mSG => y) e31) := Fr.tr Fr.rf (FR_X6_value_32_33_l31 _ _ _ _ _ hl)
  obtain rfl := Option.some.inj h
  exact fl31

theorem FR_X6_value_32_33 (t : mTX) (a0_ : Nat) (x1 : Int32) (s : mSG) (o : Int32 × mSG) (h : X6_value_32_33 t a0_ x1 s = some o) : Fr W_X6_value_32_33 s o.2 := by
  unfold X6_value_32_33 at h
  by_cases hc : X8_isWithin x1 2 = true
  · rw [if_pos hc] at h
    by_cases hc : x1 = 0
    · rw [if_pos hc] at h
      exact Fr.tr Fr.rf (FR_X6_value_32_33_j29 _ _ _ _ _ _ _ h)
    · rw [if_neg hc] at h
      obtain ⟨-, h⟩ := m_ite h
      obtain ⟨a2, -, h⟩ := m_bind h
      obtain ⟨-, h⟩ := m_ite h
      exact Fr.tr Fr.rf (FR_X6_value_32_33_j29 _ _ _ _ _ _ _ h)
  · rw [if_neg hc] at h
    obtain rfl := Option.some.inj h
    exact Fr.rf

def W_X0_asked_31 : List (Nat × Option Nat) := [(32, some 0), (32, some 1), (32, some 2), (32, some 3), (32, some 4), (32, some 5), (33, none)]
theorem FR_X0_asked_31 (t : mTX) (x1 : Int32) (x2 : Int32) (x3 : Int32) (x4 : Int32) (s : mSG) (o : Int32 × mSG) (h : X0_asked_31 t x1 x2 x3 x4 s = some o) : Fr W_X0_asked_31 s o.2 := by
  unfold X0_asked_31 at h
  rcases m_opt_cases h with ⟨-, h⟩ | ⟨a1, -, h⟩
  · obtain rfl := Option.some.inj h
    exact Fr.rf
  · obtain ⟨a2, -, h⟩ := m_bind h
    obtain ⟨-, h⟩ := m_ite h
    obtain ⟨r3, hr, h⟩ := m_bind h
    have fr3 : Fr W_X0_asked_31 s r3.2 := Fr.tr (Fr.wI (Fr.wI (Fr.wI (Fr.wI (Fr.wI (Fr.wI Fr.rf rfl) rfl) rfl) rfl) rfl) rfl) (Fr.mono (FR_X6_value_32_33 _ _ _ _ _ hr) rfl)
    obtain rfl := Option.some.inj h
    exact fr3

def W_X0_wants_31 : List (Nat × Option Nat) := [(32, some 0), (32, some 1), (32, some 2), (32, some 3), (32, some 4), (32, some 5), (33, none)]
theorem FR_X0_wants_31 (t : mTX) (x1 : Int32) (x2 : Int32) (x3 : Int32) (s : mSG) (o : Int32 × mSG) (h : X0_wants_31 t x1 x2 x3 s = some o) : Fr W_X0_wants_31 s o.2 := by
  unfold X0_wants_31 at h
  obtain ⟨r1, hr, h⟩ := m_bind h
  have fr1 : Fr W_X0_wants_31 s r1.2 := Fr.tr Fr.rf (Fr.mono (FR_X0_asked_31 _ _ _ _ _ _ _ hr) rfl)
  obtain rfl := Option.some.inj h
  exact fr1

def W_X8_pooledFrom : List (Nat × Option Nat) := [(29, some 0), (29, some 1), (29, some 2), (29, some 3), (29, some 4), (29, some 5), (30, none), (32, some 0), (32, some 1), (32, some 2), (32, some 3), (32, some 4), (32, some 5), (33, none)]
theorem FR_X8_pooledFrom_j109_31 (t : mTX) (x1 : Int32) (x2 : Int32) (x3 : Int32) (x4 : Int32) (x5 : Int32) (s : mSG) (o : (Int32 × Int32 × mSG) ⊕ Int32 × mSG) (h : X8_pooledFrom_j109_31 t x1 x2 x3 x4 x5 s = some o) : FrS W_X8_pooledFrom (fun y : Int32 × Int32 × mSG => y.2.2) ((fun y : Int32 × mSG => y.2)) s o := by
  unfold X8_pooledFrom_j109_31 at h
  obtain rfl := Option.some.inj h
  exact ⟨fun y hy => by obtain rfl := Sum.inl.inj hy; exact Fr.rf, fun y hy => by cases hy⟩

theorem FR_X8_pooledFrom_b31 (t : mTX) (x1 : Int32) (x3 : Int32) (x4 : Int32) (x2 : Int32) (x5 : Int32) (s : mSG) (o : (Int32 × Int32 × mSG) ⊕ Int32 × mSG) (h : X8_pooledFrom_b31 t x1 x3 x4 x2 x5 s = some o) : FrS W_X8_pooledFrom (fun y : Int32 × Int32 × mSG => y.2.2) ((fun y : Int32 × mSG => y.2)) s o := by
  unfold X8_pooledFrom_b31 at h
  by_cases hc : 8 ≤ x5
  · rw [if_pos hc] at h
    obtain rfl := Option.some.inj h
    exact ⟨fun y hy => (by cases hy), fun y hy => by obtain rfl := Sum.inr.inj hy; exact Fr.rf⟩
  · rw [if_neg hc] at h
    obtain ⟨r3, hr, h⟩ := m_bind h
    by_cases hc : ((x1 >>> (x4 &&& 31)) &&& 1) = 0
    · rw [if_pos hc] at h
      exact FrS.tr Fr.rf (FR_X8_pooledFrom_j109_31 _ _ _ _ _ _ _ _ h)
    · rw [if_neg hc] at h
      by_cases hc : r3 = 0
      · rw [if_pos hc] at h
        exact FrS.tr Fr.rf (FR_X8_pooledFrom_j109_31 _ _ _ _ _ _ _ _ h)
      · rw [if_neg hc] at h
        obtain ⟨r6, hr, h⟩ := m_bind h
        have fr6 : Fr W_X8_pooledFrom s r6.2 := Fr.tr Fr.rf (Fr.mono (FR_X0_wants_28 _ _ _ _ _ _ hr) rfl)
        obtain ⟨r7, hr, h⟩ := m_bind h
        have fr7 : Fr W_X8_pooledFrom s r7.2 := Fr.tr fr6 (Fr.mono (FR_X0_wants_31 _ _ _ _ _ _ hr) rfl)
        by_cases hc : x3 < ((r3 + r6.1) + r7.1)
        · rw [if_pos hc] at h
          exact FrS.tr fr7 (FR_X8_pooledFrom_j109_31 _ _ _ _ _ _ _ _ h)
        · rw [if_neg hc] at h
          exact FrS.tr fr7 (FR_X8_pooledFrom_j109_31 _ _ _ _ _ _ _ _ h)

theorem FR_X8_pooledFrom_l31 (t : mTX) (x1 : Int32) (x3 : Int32) (x4 : Int32) (v : Int32 × Int32 × mSG) (e : Int32 × mSG) (h : X8_pooledFrom_l31 t x1 x3 x4 v = some e) : Fr W_X8_pooledFrom v.2.2 ((fun y : Int32 × mSG => y.2) e) :=
  FrS.iter (hy := fun y : Int32 × Int32 × mSG => y.2.2) (he := (fun y : Int32 × mSG => y.2)) (fun x o hx => FR_X8_pooledFrom_b31 t x1 x3 x4 x.1 x.2.1 x.2.2 o hx) mFU v e h
theorem FR_X8_pooledFrom_b21 (t : mTX) (x1 : Int32) (x3 : Int32) (x2 : Int32) (x4 : Int32) (s : mSG) (o : (Int32 × Int32 × mSG) ⊕ Int32 × mSG) (h : X8_pooledFrom_b21 t x1 x3 x2 x4 s = some o) : FrS W_X8_pooledFrom (fun y : Int32 × Int32 × mSG => y.2.2) ((fun y : Int32 × mSG => y.2)) s o := by
  unfold X8_pooledFrom_b21 at h
  by_cases hc : 8 ≤ x4
  · rw [if_pos hc] at h
    obtain rfl := Option.some.inj h
    exact ⟨fun y hy => (by cases hy), fun y hy => by obtain rfl := Sum.inr.inj hy; exact Fr.rf⟩
  · rw [if_neg hc] at h
    obtain ⟨e31, hl, h⟩ := m_bind h
    have fl31 : Fr W_X8_pooledFrom s ((fun y : Int32 × mSG => y.2) e31) := Fr.tr Fr.rf (FR_X8_pooledFrom_l31 _ _ _ _ _ _ hl)
    obtain rfl := Option.some.inj h
    exact ⟨fun y hy => by obtain rfl := Sum.inl.inj hy; exact fl31, fun y hy => by cases hy⟩

theorem FR_X8_pooledFrom_l21 (t : mTX) (x1 : Int32) (x3 : Int32) (v : Int32 × Int32 × mSG) (e : Int32 × mSG) (h : X8_pooledFrom_l21 t x1 x3 v = some e) : Fr W_X8_pooledFrom v.2.2 ((fun y : Int32 × mSG => y.2) e) :=
  FrS.iter (hy := fun y : Int32 × Int32 × mSG => y.2.2) (he := (fun y : Int32 × mSG => y.2)) (fun x o hx => FR_X8_pooledFrom_b21 t x1 x3 x.1 x.2.1 x.2.2 o hx) mFU v e h
theorem FR_X8_pooledFrom (t : mTX) (x1 : Int32) (s : mSG) (o : Int32 × mSG) (h : X8_pooledFrom t x1 s = some o) : Fr W_X8_pooledFrom s o.2 := by
  unfold X8_pooledFrom at h
  obtain ⟨e21, hl, h⟩ := m_bind h
  have fl21 : Fr W_X8_pooledFrom s ((fun y : Int32 × mSG => y.2) e21) := Fr.tr Fr.rf (FR_X8_pooledFrom_l21 _ _ _ _ _ hl)
  obtain rfl := Option.some.inj h
  exact fl21

def W_X8_together : List (Nat × Option Nat) := [(28, some 2), (28, some 3), (28, some 4), (28, some 5), (28, some 6), (28, some 7), (28, some 8), (29, some 0), (29, some 1), (29, some 2), (29, some 3), (29, some 4), (29, some 5), (30, none), (31, some 2), (31, some 3), (31, some 4), (31, some 5), (31, some 6), (31, some 7), (31, some 8), (32, some 0), (32, some 1), (32, some 2), (32, some 3), (32, some 4), (32, some 5), (33, none)]
theorem FR_X8_together_b87 (t : mTX) (x3 : Int32) (x4 : Int32) (x5 : Int32) (s : mSG) (o : (Int32 × Int32 × mSG) ⊕ ((Int32 × mSG) ⊕ mSG)) (h : X8_together_b87 t x3 x4 x5 s = some o) : FrS W_X8_together (fun y : Int32 × Int32 × mSG => y.2.2) ((Sum.elim (fun y : Int32 × mSG => y.2) (fun y : mSG => y))) s o := by
  unfold X8_together_b87 at h
  by_cases hc : 8 ≤ x5
  · rw [if_pos hc] at h
    obtain rfl := Option.some.inj h
    exact ⟨fun y hy => (by cases hy), fun y hy => by obtain rfl := Sum.inr.inj hy; exact Fr.rf⟩
  · rw [if_neg hc] at h
    by_cases hc : ((x4 >>> (x3 &&& 31)) &&& 1) = 0
    · rw [if_pos hc] at h
      obtain ⟨r9, hr, h⟩ := m_bind h
      have fr9 : Fr W_X8_together s r9.2 := Fr.tr Fr.rf (Fr.mono (FR_X8_pooledFrom _ _ _ _ hr) rfl)
      obtain rfl := Option.some.inj h
      exact ⟨fun y hy => by obtain rfl := Sum.inl.inj hy; exact fr9, fun y hy => by cases hy⟩
    · rw [if_neg hc] at h
      obtain rfl := Option.some.inj h
      exact ⟨fun y hy => (by cases hy), fun y hy => by obtain rfl := Sum.inr.inj hy; exact Fr.rf⟩

theorem FR_X8_together_l87 (t : mTX) (x3 : Int32) (v : Int32 × Int32 × mSG) (e : ((Int32 × mSG) ⊕ mSG)) (h : X8_together_l87 t x3 v = some e) : Fr W_X8_together v.2.2 ((Sum.elim (fun y : Int32 × mSG => y.2) (fun y : mSG => y)) e) :=
  FrS.iter (hy := fun y : Int32 × Int32 × mSG => y.2.2) (he := (Sum.elim (fun y : Int32 × mSG => y.2) (fun y : mSG => y))) (fun x o hx => FR_X8_together_b87 t x3 x.1 x.2.1 x.2.2 o hx) mFU v e h
theorem FR_X8_together (t : mTX) (x1 : Int32) (x2 : Int32) (x3 : Int32) (s : mSG) (o : Int32 × mSG) (h : X8_together t x1 x2 x3 s = some o) : Fr W_X8_together s o.2 := by
  unfold X8_together at h
  by_cases hc : X8_areTwoPeople x1 x2 s = true
  · rw [if_pos hc] at h
    by_cases hc : X8_isStone x3 = true
    · rw [if_pos hc] at h
      obtain ⟨r1, hr, h⟩ := m_bind h
      by_cases hc : r1 = true
      · rw [if_pos hc] at h
        obtain ⟨r2, hr, h⟩ := m_bind h
        obtain ⟨r3, hr, h⟩ := m_bind h
        have fr3 : Fr W_X8_together s r3 := Fr.tr Fr.rf (Fr.mono (FR_X0_be_28_7 _ _ _ _ hr) rfl)
        obtain ⟨r4, hr, h⟩ := m_bind h
        obtain ⟨r5, hr, h⟩ := m_bind h
        have fr5 : Fr W_X8_together s r5 := Fr.tr fr3 (Fr.mono (FR_X0_be_31_7 _ _ _ _ hr) rfl)
        obtain ⟨r6, hr, h⟩ := m_bind h
        obtain ⟨e87, hl, h⟩ := m_bind h
        have fl87 : Fr W_X8_together s ((Sum.elim (fun y : Int32 × mSG => y.2) (fun y : mSG => y)) e87) := Fr.tr fr5 (FR_X8_together_l87 _ _ _ _ hl)
        cases e87 with
        | inl e87_0 =>
          simp only [Sum.elim_inl] at h
          obtain rfl := Option.some.inj h
          exact fl87
        | inr e87_1 =>
          simp only [Sum.elim_inr] at h
          obtain rfl := Option.some.inj h
          exact fl87
      · rw [if_neg hc] at h
        obtain rfl := Option.some.inj h
        exact Fr.rf
    · rw [if_neg hc] at h
      obtain rfl := Option.some.inj h
      exact Fr.rf
  · rw [if_neg hc] at h
    obtain rfl := Option.some.inj h
    exact Fr.rf

def W_X0_lends_28 : List (Nat × Option Nat) := [(29, some 0), (29, some 1), (29, some 2), (29, some 3), (29, some 4), (29, some 5), (30, none)]
theorem FR_X0_lends_28 (t : mTX) (x1 : Int32) (s : mSG) (o : Int32 × mSG) (h : X0_lends_28 t x1 s = some o) : Fr W_X0_lends_28 s o.2 := by
  unfold X0_lends_28 at h
  obtain ⟨r1, hr, h⟩ := m_bind h
  have fr1 : Fr W_X0_lends_28 s r1.2 := Fr.tr Fr.rf (Fr.mono (FR_X0_asked_28 _ _ _ _ _ _ _ hr) rfl)
  obtain rfl := Option.some.inj h
  exact fr1

def W_X5_putDebt_7 : List (Nat × Option Nat) := [(10, none)]
theorem FR_X5_putDebt_7 (x1 : Int32) (x2 : Int32) (x3 : Int32) (s : mSG) (o : mSG) (h : X5_putDebt_7 x1 x2 x3 s = some o) : Fr W_X5_putDebt_7 s o := by
  unfold X5_putDebt_7 at h
  by_cases hc : X5_isOne_7 x1 s = true
  · rw [if_pos hc] at h
    by_cases hc : X5_isOne_7 x2 s = true
    · rw [if_pos hc] at h
      obtain ⟨-, h⟩ := m_ite h
      obtain rfl := Option.some.inj h
      exact (Fr.wI Fr.rf rfl)
    · rw [if_neg hc] at h
      obtain rfl := Option.some.inj h
      exact Fr.rf
  · rw [if_neg hc] at h
    obtain rfl := Option.some.inj h
    exact Fr.rf

def W_X8_lend : List (Nat × Option Nat) := [(9, none), (10, none), (28, some 2), (28, some 3), (28, some 4), (28, some 5), (28, some 6), (28, some 7), (28, some 8), (29, some 0), (29, some 1), (29, some 2), (29, some 3), (29, some 4), (29, some 5), (30, none)]
theorem FR_X8_lend (t : mTX) (x1 : Int32) (x2 : Int32) (x3 : Int32) (s : mSG) (o : Int32 × mSG) (h : X8_lend t x1 x2 x3 s = some o) : Fr W_X8_lend s o.2 := by
  unfold X8_lend at h
  by_cases hc : X8_areTwoPeople x1 x2 s = true
  · rw [if_pos hc] at h
    by_cases hc : X8_isWithin x3 99 = true
    · rw [if_pos hc] at h
      by_cases hc : x3 = 0
      · rw [if_pos hc] at h
        obtain rfl := Option.some.inj h
        exact Fr.rf
      · rw [if_neg hc] at h
        obtain ⟨r2, hr, h⟩ := m_bind h
        obtain ⟨r3, hr, h⟩ := m_bind h
        obtain ⟨r4, hr, h⟩ := m_bind h
        obtain ⟨r5, hr, h⟩ := m_bind h
        by_cases hc : r5 = true
        · rw [if_pos hc] at h
          by_cases hc : (r2 - x3) < 0
          · rw [if_pos hc] at h
            obtain rfl := Option.some.inj h
            exact Fr.rf
          · rw [if_neg hc] at h
            by_cases hc : 99 < (r3 + x3)
            · rw [if_pos hc] at h
              obtain rfl := Option.some.inj h
              exact Fr.rf
            · rw [if_neg hc] at h
              by_cases hc : (r4 + x3) ≤ 99
              · rw [if_pos hc] at h
                obtain ⟨r9, hr, h⟩ := m_bind h
                obtain ⟨r10, hr, h⟩ := m_bind h
                have fr10 : Fr W_X8_lend s r10 := Fr.tr Fr.rf (Fr.mono (FR_X0_be_28_7 _ _ _ _ hr) rfl)
                obtain ⟨r11, hr, h⟩ := m_bind h
                obtain ⟨r12, hr, h⟩ := m_bind h
                have fr12 : Fr W_X8_lend s r12.2 := Fr.tr fr10 (Fr.mono (FR_X0_lends_28 _ _ _ _ hr) rfl)
                obtain ⟨r13, hr, h⟩ := m_bind h
                have fr13 : Fr W_X8_lend s r13 := Fr.tr fr12 (Fr.mono (FR_X5_put_7 _ _ _ _ _ hr) rfl)
                obtain ⟨r14, hr, h⟩ := m_bind h
                have fr14 : Fr W_X8_lend s r14 := Fr.tr fr13 (Fr.mono (FR_X5_put_7 _ _ _ _ _ hr) rfl)
                obtain ⟨r15, hr, h⟩ := m_bind h
                have fr15 : Fr W_X8_lend s r15 := Fr.tr fr14 (Fr.mono (FR_X5_putDebt_7 _ _ _ _ _ hr) rfl)
                obtain rfl := Option.some.inj h
                exact fr15
              · rw [if_neg hc] at h
                obtain rfl := Option.some.inj h
                exact Fr.rf
        · rw [if_neg hc] at h
          obtain rfl := Option.some.inj h
          exact Fr.rf
    · rw [if_neg hc] at h
      obtain rfl := Option.some.inj h
      exact Fr.rf
  · rw [if_neg hc] at h
    obtain rfl := Option.some.inj h
    exact Fr.rf

def W_X5_closeTwo_7 : List (Nat × Option Nat) := [(10, none)]
theorem FR_X5_closeTwo_7 (x1 : Int32) (x2 : Int32) (s : mSG) (o : Int32 × mSG) (h : X5_closeTwo_7 x1 x2 s = some o) : Fr W_X5_closeTwo_7 s o.2 := by
  unfold X5_closeTwo_7 at h
  obtain ⟨r1, hr, h⟩ := m_bind h
  obtain ⟨r2, hr, h⟩ := m_bind h
  obtain ⟨r3, hr, h⟩ := m_bind h
  obtain ⟨r4, hr, h⟩ := m_bind h
  have fr4 : Fr W_X5_closeTwo_7 s r4 := Fr.tr Fr.rf (Fr.mono (FR_X5_putDebt_7 _ _ _ _ _ hr) rfl)
  obtain ⟨r5, hr, h⟩ := m_bind h
  obtain ⟨r6, hr, h⟩ := m_bind h
  have fr6 : Fr W_X5_closeTwo_7 s r6 := Fr.tr fr4 (Fr.mono (FR_X5_putDebt_7 _ _ _ _ _ hr) rfl)
  obtain rfl := Option.some.inj h
  exact fr6

def W_X5_closeThree_7 : List (Nat × Option Nat) := [(10, none)]
theorem FR_X5_closeThree_7 (x1 : Int32) (x2 : Int32) (x3 : Int32) (s : mSG) (o : Int32 × mSG) (h : X5_closeThree_7 x1 x2 x3 s = some o) : Fr W_X5_closeThree_7 s o.2 := by
  unfold X5_closeThree_7 at h
  obtain ⟨r1, hr, h⟩ := m_bind h
  obtain ⟨r2, hr, h⟩ := m_bind h
  obtain ⟨r3, hr, h⟩ := m_bind h
  obtain ⟨r4, hr, h⟩ := m_bind h
  obtain ⟨r5, hr, h⟩ := m_bind h
  have fr5 : Fr W_X5_closeThree_7 s r5 := Fr.tr Fr.rf (Fr.mono (FR_X5_putDebt_7 _ _ _ _ _ hr) rfl)
  obtain ⟨r6, hr, h⟩ := m_bind h
  obtain ⟨r7, hr, h⟩ := m_bind h
  have fr7 : Fr W_X5_closeThree_7 s r7 := Fr.tr fr5 (Fr.mono (FR_X5_putDebt_7 _ _ _ _ _ hr) rfl)
  obtain ⟨r8, hr, h⟩ := m_bind h
  obtain ⟨r9, hr, h⟩ := m_bind h
  have fr9 : Fr W_X5_closeThree_7 s r9 := Fr.tr fr7 (Fr.mono (FR_X5_putDebt_7 _ _ _ _ _ hr) rfl)
  obtain rfl := Option.some.inj h
  exact fr9

def W_X8_rings : List (Nat × Option Nat) := [(10, none)]
theorem FR_X8_rings_b13 (x2 : Int32) (x1 : Int32) (x3 : Int32) (s : mSG) (o : (Int32 × Int32 × mSG) ⊕ Int32 × mSG) (h : X8_rings_b13 x2 x1 x3 s = some o) : FrS W_X8_rings (fun y : Int32 × Int32 × mSG => y.2.2) ((fun y : Int32 × mSG => y.2)) s o := by
  unfold X8_rings_b13 at h
  by_cases hc : 5 ≤ x3
  · rw [if_pos hc] at h
    obtain rfl := Option.some.inj h
    exact ⟨fun y hy => (by cases hy), fun y hy => by obtain rfl := Sum.inr.inj hy; exact Fr.rf⟩
  · rw [if_neg hc] at h
    obtain ⟨r3, hr, h⟩ := m_bind h
    have fr3 : Fr W_X8_rings s r3.2 := Fr.tr Fr.rf (Fr.mono (FR_X5_closeTwo_7 _ _ _ _ hr) rfl)
    obtain rfl := Option.some.inj h
    exact ⟨fun y hy => by obtain rfl := Sum.inl.inj hy; exact fr3, fun y hy => by cases hy⟩

theorem FR_X8_rings_l13 (x2 : Int32) (v : Int32 × Int32 × mSG) (e : Int32 × mSG) (h : X8_rings_l13 x2 v = some e) : Fr W_X8_rings v.2.2 ((fun y : Int32 × mSG => y.2) e) :=
  FrS.iter (hy := fun y : Int32 × Int32 × mSG => y.2.2) (he := (fun y : Int32 × mSG => y.2)) (fun x o hx => FR_X8_rings_b13 x2 x.1 x.2.1 x.2.2 o hx) mFU v e h
theorem FR_X8_rings_b4 (x1 : Int32) (x2 : Int32) (s : mSG) (o : (Int32 × Int32 × mSG) ⊕ Int32 × mSG) (h : X8_rings_b4 x1 x2 s = some o) : FrS W_X8_rings (fun y : Int32 × Int32 × mSG => y.2.2) ((fun y : Int32 × mSG => y.2)) s o := by
  unfold X8_rings_b4 at h
  by_cases hc : 5 ≤ x2
  · rw [if_pos hc] at h
    obtain rfl := Option.some.inj h
    exact ⟨fun y hy => (by cases hy), fun y hy => by obtain rfl := Sum.inr.inj hy; exact Fr.rf⟩
  · rw [if_neg hc] at h
    obtain ⟨e13, hl, h⟩ := m_bind h
    have fl13 : Fr W_X8_rings s ((fun y : Int32 × mSG => y.2) e13) := Fr.tr Fr.rf (FR_X8_rings_l13 _ _ _ hl)
    obtain rfl := Option.some.inj h
    exact ⟨fun y hy => by obtain rfl := Sum.inl.inj hy; exact fl13, fun y hy => by cases hy⟩

theorem FR_X8_rings_l4 (v : Int32 × Int32 × mSG) (e : Int32 × mSG) (h : X8_rings_l4 v = some e) : Fr W_X8_rings v.2.2 ((fun y : Int32 × mSG => y.2) e) :=
  FrS.iter (hy := fun y : Int32 × Int32 × mSG => y.2.2) (he := (fun y : Int32 × mSG => y.2)) (fun x o hx => FR_X8_rings_b4 x.1 x.2.1 x.2.2 o hx) mFU v e h
theorem FR_X8_rings_b63 (x2 : Int32) (x3 : Int32) (x1 : Int32) (x4 : Int32) (s : mSG) (o : (Int32 × Int32 × mSG) ⊕ Int32 × mSG) (h : X8_rings_b63 x2 x3 x1 x4 s = some o) : FrS W_X8_rings (fun y : Int32 × Int32 × mSG => y.2.2) ((fun y : Int32 × mSG => y.2)) s o := by
  unfold X8_rings_b63 at h
  by_cases hc : 5 ≤ x4
  · rw [if_pos hc] at h
    obtain rfl := Option.some.inj h
    exact ⟨fun y hy => (by cases hy), fun y hy => by obtain rfl := Sum.inr.inj hy; exact Fr.rf⟩
  · rw [if_neg hc] at h
    obtain ⟨r7, hr, h⟩ := m_bind h
    have fr7 : Fr W_X8_rings s r7.2 := Fr.tr Fr.rf (Fr.mono (FR_X5_closeThree_7 _ _ _ _ _ hr) rfl)
    obtain ⟨r8, hr, h⟩ := m_bind h
    have fr8 : Fr W_X8_rings s r8.2 := Fr.tr fr7 (Fr.mono (FR_X5_closeThree_7 _ _ _ _ _ hr) rfl)
    obtain rfl := Option.some.inj h
    exact ⟨fun y hy => by obtain rfl := Sum.inl.inj hy; exact fr8, fun y hy => by cases hy⟩

theorem FR_X8_rings_l63 (x2 : Int32) (x3 : Int32) (v : Int32 × Int32 × mSG) (e : Int32 × mSG) (h : X8_rings_l63 x2 x3 v = some e) : Fr W_X8_rings v.2.2 ((fun y : Int32 × mSG => y.2) e) :=
  FrS.iter (hy := fun y : Int32 × Int32 × mSG => y.2.2) (he := (fun y : Int32 × mSG => y.2)) (fun x o hx => FR_X8_rings_b63 x2 x3 x.1 x.2.1 x.2.2 o hx) mFU v e h
theorem FR_X8_rings_b53 (x2 : Int32) (x1 : Int32) (x3 : Int32) (s : mSG) (o : (Int32 × Int32 × mSG) ⊕ Int32 × mSG) (h : X8_rings_b53 x2 x1 x3 s = some o) : FrS W_X8_rings (fun y : Int32 × Int32 × mSG => y.2.2) ((fun y : Int32 × mSG => y.2)) s o := by
  unfold X8_rings_b53 at h
  by_cases hc : 5 ≤ x3
  · rw [if_pos hc] at h
    obtain rfl := Option.some.inj h
    exact ⟨fun y hy => (by cases hy), fun y hy => by obtain rfl := Sum.inr.inj hy; exact Fr.rf⟩
  · rw [if_neg hc] at h
    obtain ⟨e63, hl, h⟩ := m_bind h
    have fl63 : Fr W_X8_rings s ((fun y : Int32 × mSG => y.2) e63) := Fr.tr Fr.rf (FR_X8_rings_l63 _ _ _ _ hl)
    obtain rfl := Option.some.inj h
    exact ⟨fun y hy => by obtain rfl := Sum.inl.inj hy; exact fl63, fun y hy => by cases hy⟩

theorem FR_X8_rings_l53 (x2 : Int32) (v : Int32 × Int32 × mSG) (e : Int32 × mSG) (h : X8_rings_l53 x2 v = some e) : Fr W_X8_rings v.2.2 ((fun y : Int32 × mSG => y.2) e) :=
  FrS.iter (hy := fun y : Int32 × Int32 × mSG => y.2.2) (he := (fun y : Int32 × mSG => y.2)) (fun x o hx => FR_X8_rings_b53 x2 x.1 x.2.1 x.2.2 o hx) mFU v e h
theorem FR_X8_rings_b44 (x1 : Int32) (x2 : Int32) (s : mSG) (o : (Int32 × Int32 × mSG) ⊕ Int32 × mSG) (h : X8_rings_b44 x1 x2 s = some o) : FrS W_X8_rings (fun y : Int32 × Int32 × mSG => y.2.2) ((fun y : Int32 × mSG => y.2)) s o := by
  unfold X8_rings_b44 at h
  by_cases hc : 5 ≤ x2
  · rw [if_pos hc] at h
    obtain rfl := Option.some.inj h
    exact ⟨fun y hy => (by cases hy), fun y hy => by obtain rfl := Sum.inr.inj hy; exact Fr.rf⟩
  · rw [if_neg hc] at h
    obtain ⟨e53, hl, h⟩ := m_bind h
    have fl53 : Fr W_X8_rings s ((fun y : Int32 × mSG => y.2) e53) := Fr.tr Fr.rf (FR_X8_rings_l53 _ _ _ hl)
    obtain rfl := Option.some.inj h
    exact ⟨fun y hy => by obtain rfl := Sum.inl.inj hy; exact fl53, fun y hy => by cases hy⟩

theorem FR_X8_rings_l44 (v : Int32 × Int32 × mSG) (e : Int32 × mSG) (h : X8_rings_l44 v = some e) : Fr W_X8_rings v.2.2 ((fun y : Int32 × mSG => y.2) e) :=
  FrS.iter (hy := fun y : Int32 × Int32 × mSG => y.2.2) (he := (fun y : Int32 × mSG => y.2)) (fun x o hx => FR_X8_rings_b44 x.1 x.2.1 x.2.2 o hx) mFU v e h
theorem FR_X8_rings (s : mSG) (o : Int32 × mSG) (h : X8_rings s = some o) : Fr W_X8_rings s o.2 := by
  unfold X8_rings at h
  obtain ⟨e4, hl, h⟩ := m_bind h
  have fl4 : Fr W_X8_rings s ((fun y : Int32 × mSG => y.2) e4) := Fr.tr Fr.rf (FR_X8_rings_l4  _ _ hl)
  obtain ⟨e44, hl, h⟩ := m_bind h
  have fl44 : Fr W_X8_rings s ((fun y : Int32 × mSG => y.2) e44) := Fr.tr fl4 (FR_X8_rings_l44  _ _ hl)
  obtain rfl := Option.some.inj h
  exact fl44

def W_X0_crosses_28 : List (Nat × Option Nat) := [(29, some 0), (29, some 1), (29, some 2), (29, some 3), (29, some 4), (29, some 5), (30, none)]
theorem FR_X0_crosses_28 (t : mTX) (x1 : Int32) (x2 : Int32) (x3 : Int32) (s : mSG) (o : Bool × mSG) (h : X0_crosses_28 t x1 x2 x3 s = some o) : Fr W_X0_crosses_28 s o.2 := by
  unfold X0_crosses_28 at h
  by_cases hc : x3 ≤ 0
  · rw [if_pos hc] at h
    obtain rfl := Option.some.inj h
    exact Fr.rf
  · rw [if_neg hc] at h
    obtain ⟨r2, hr, h⟩ := m_bind h
    have fr2 : Fr W_X0_crosses_28 s r2.2 := Fr.tr Fr.rf (Fr.mono (FR_X0_wants_28 _ _ _ _ _ _ hr) rfl)
    by_cases hc : (X0_reaches_28 s) < (x3 + r2.1)
    · rw [if_pos hc] at h
      obtain rfl := Option.some.inj h
      exact fr2
    · rw [if_neg hc] at h
      obtain rfl := Option.some.inj h
      exact fr2

def W_X0_crosses_31 : List (Nat × Option Nat) := [(32, some 0), (32, some 1), (32, some 2), (32, some 3), (32, some 4), (32, some 5), (33, none)]
theorem FR_X0_crosses_31 (t : mTX) (x1 : Int32) (x2 : Int32) (x3 : Int32) (s : mSG) (o : Bool × mSG) (h : X0_crosses_31 t x1 x2 x3 s = some o) : Fr W_X0_crosses_31 s o.2 := by
  unfold X0_crosses_31 at h
  by_cases hc : x3 ≤ 0
  · rw [if_pos hc] at h
    obtain rfl := Option.some.inj h
    exact Fr.rf
  · rw [if_neg hc] at h
    obtain ⟨r2, hr, h⟩ := m_bind h
    have fr2 : Fr W_X0_crosses_31 s r2.2 := Fr.tr Fr.rf (Fr.mono (FR_X0_wants_31 _ _ _ _ _ _ hr) rfl)
    by_cases hc : (X0_reaches_31 s) < (x3 + r2.1)
    · rw [if_pos hc] at h
      obtain rfl := Option.some.inj h
      exact fr2
    · rw [if_neg hc] at h
      obtain rfl := Option.some.inj h
      exact fr2

def W_X8_followedFrom : List (Nat × Option Nat) := [(29, some 0), (29, some 1), (29, some 2), (29, some 3), (29, some 4), (29, some 5), (30, none), (32, some 0), (32, some 1), (32, some 2), (32, some 3), (32, some 4), (32, some 5), (33, none)]
theorem FR_X8_followedFrom_j82_13 (t : mTX) (x1 : Int32) (x2 : Int32) (x3 : Int32) (x4 : Int32) (s : mSG) (o : (Int32 × Int32 × mSG) ⊕ (mSG ⊕ Int32 × mSG)) (h : X8_followedFrom_j82_13 t x1 x2 x3 x4 s = some o) : FrS W_X8_followedFrom (fun y : Int32 × Int32 × mSG => y.2.2) ((Sum.elim (fun y : mSG => y) (fun y : Int32 × mSG => y.2))) s o := by
  unfold X8_followedFrom_j82_13 at h
  obtain rfl := Option.some.inj h
  exact ⟨fun y hy => by obtain rfl := Sum.inl.inj hy; exact Fr.rf, fun y hy => by cases hy⟩

theorem FR_X8_followedFrom_b13 (t : mTX) (x1 : Int32) (x3 : Int32) (x2 : Int32) (x4 : Int32) (s : mSG) (o : (Int32 × Int32 × mSG) ⊕ (mSG ⊕ Int32 × mSG)) (h : X8_followedFrom_b13 t x1 x3 x2 x4 s = some o) : FrS W_X8_followedFrom (fun y : Int32 × Int32 × mSG => y.2.2) ((Sum.elim (fun y : mSG => y) (fun y : Int32 × mSG => y.2))) s o := by
  unfold X8_followedFrom_b13 at h
  by_cases hc : 8 ≤ x4
  · rw [if_pos hc] at h
    obtain rfl := Option.some.inj h
    exact ⟨fun y hy => (by cases hy), fun y hy => by obtain rfl := Sum.inr.inj hy; exact Fr.rf⟩
  · rw [if_neg hc] at h
    obtain ⟨r3, hr, h⟩ := m_bind h
    by_cases hc : ((x1 >>> (x3 &&& 31)) &&& 1) = 0
    · rw [if_pos hc] at h
      exact FrS.tr Fr.rf (FR_X8_followedFrom_j82_13 _ _ _ _ _ _ _ h)
    · rw [if_neg hc] at h
      obtain ⟨r5, hr, h⟩ := m_bind h
      have fr5 : Fr W_X8_followedFrom s r5.2 := Fr.tr Fr.rf (Fr.mono (FR_X0_crosses_28 _ _ _ _ _ _ hr) rfl)
      by_cases hc : r5.1 = true
      · rw [if_pos hc] at h
        obtain ⟨r6, hr, h⟩ := m_bind h
        have fr6 : Fr W_X8_followedFrom s r6.2 := Fr.tr fr5 (Fr.mono (FR_X0_crosses_31 _ _ _ _ _ _ hr) rfl)
        by_cases hc : r6.1 = true
        · rw [if_pos hc] at h
          exact FrS.tr fr6 (FR_X8_followedFrom_j82_13 _ _ _ _ _ _ _ h)
        · rw [if_neg hc] at h
          obtain rfl := Option.some.inj h
          exact ⟨fun y hy => (by cases hy), fun y hy => by obtain rfl := Sum.inr.inj hy; exact fr6⟩
      · rw [if_neg hc] at h
        exact FrS.tr fr5 (FR_X8_followedFrom_j82_13 _ _ _ _ _ _ _ h)

theorem FR_X8_followedFrom_l13 (t : mTX) (x1 : Int32) (x3 : Int32) (v : Int32 × Int32 × mSG) (e : (mSG ⊕ Int32 × mSG)) (h : X8_followedFrom_l13 t x1 x3 v = some e) : Fr W_X8_followedFrom v.2.2 ((Sum.elim (fun y : mSG => y) (fun y : Int32 × mSG => y.2)) e) :=
  FrS.iter (hy := fun y : Int32 × Int32 × mSG => y.2.2) (he := (Sum.elim (fun y : mSG => y) (fun y : Int32 × mSG => y.2))) (fun x o hx => FR_X8_followedFrom_b13 t x1 x3 x.1 x.2.1 x.2.2 o hx) mFU v e h
theorem FR_X8_followedFrom_b4 (t : mTX) (x1 : Int32) (x2 : Int32) (x3 : Int32) (s : mSG) (o : (Int32 × Int32 × mSG) ⊕ (mSG ⊕ Int32 × mSG)) (h : X8_followedFrom_b4 t x1 x2 x3 s = some o) : FrS W_X8_followedFrom (fun y : Int32 × Int32 × mSG => y.2.2) ((Sum.elim (fun y : mSG => y) (fun y : Int32 × mSG => y.2))) s o := by
  unfold X8_followedFrom_b4 at h
  by_cases hc : 8 ≤ x3
  · rw [if_pos hc] at h
    obtain rfl := Option.some.inj h
    exact ⟨fun y hy => (by cases hy), fun y hy => by obtain rfl := Sum.inr.inj hy; exact Fr.rf⟩
  · rw [if_neg hc] at h
    obtain ⟨e13, hl, h⟩ := m_bind h
    have fl13 : Fr W_X8_followedFrom s ((Sum.elim (fun y : mSG => y) (fun y : Int32 × mSG => y.2)) e13) := Fr.tr Fr.rf (FR_X8_followedFrom_l13 _ _ _ _ _ hl)
    cases e13 with
    | inl e13_0 =>
      simp only [Sum.elim_inl] at h
      obtain rfl := Option.some.inj h
      exact ⟨fun y hy => (by cases hy), fun y hy => by obtain rfl := Sum.inr.inj hy; exact fl13⟩
    | inr e13_1 =>
      simp only [Sum.elim_inr] at h
      obtain rfl := Option.some.inj h
      exact ⟨fun y hy => by obtain rfl := Sum.inl.inj hy; exact fl13, fun y hy => by cases hy⟩

theorem FR_X8_followedFrom_l4 (t : mTX) (x1 : Int32) (v : Int32 × Int32 × mSG) (e : (mSG ⊕ Int32 × mSG)) (h : X8_followedFrom_l4 t x1 v = some e) : Fr W_X8_followedFrom v.2.2 ((Sum.elim (fun y : mSG => y) (fun y : Int32 × mSG => y.2)) e) :=
  FrS.iter (hy := fun y : Int32 × Int32 × mSG => y.2.2) (he := (Sum.elim (fun y : mSG => y) (fun y : Int32 × mSG => y.2))) (fun x o hx => FR_X8_followedFrom_b4 t x1 x.1 x.2.1 x.2.2 o hx) mFU v e h
theorem FR_X8_followedFrom (t : mTX) (x1 : Int32) (s : mSG) (o : Int32 × mSG) (h : X8_followedFrom t x1 s = some o) : Fr W_X8_followedFrom s o.2 := by
  unfold X8_followedFrom at h
  obtain ⟨e4, hl, h⟩ := m_bind h
  have fl4 : Fr W_X8_followedFrom s ((Sum.elim (fun y : mSG => y) (fun y : Int32 × mSG => y.2)) e4) := Fr.tr Fr.rf (FR_X8_followedFrom_l4 _ _ _ _ hl)
  cases e4 with
  | inl e4_0 =>
    simp only [Sum.elim_inl] at h
    obtain rfl := Option.some.inj h
    exact fl4
  | inr e4_1 =>
    simp only [Sum.elim_inr] at h
    obtain rfl := Option.some.inj h
    exact fl4

def W_X0_soak_31 : List (Nat × Option Nat) := [(31, some 7)]
theorem FR_X0_soak_31 (s : mSG) (o : mSG) (h : X0_soak_31 s = some o) : Fr W_X0_soak_31 s o := by
  unfold X0_soak_31 at h
  obtain rfl := Option.some.inj h
  exact (Fr.wI Fr.rf rfl)

def W_X8_shaken : List (Nat × Option Nat) := [(28, some 2), (28, some 3), (28, some 4), (28, some 5), (28, some 6), (28, some 7), (28, some 8), (29, some 0), (29, some 1), (29, some 2), (29, some 3), (29, some 4), (29, some 5), (30, none), (31, some 2), (31, some 3), (31, some 4), (31, some 5), (31, some 6), (31, some 7), (31, some 8), (32, some 0), (32, some 1), (32, some 2), (32, some 3), (32, some 4), (32, some 5), (33, none)]
theorem FR_X8_shaken_b79 (t : mTX) (x3 : Int32) (x4 : Int32) (s : mSG) (o : (Int32 × Int32 × mSG) ⊕ ((Int32 × mSG) ⊕ mSG)) (h : X8_shaken_b79 t x3 x4 s = some o) : FrS W_X8_shaken (fun y : Int32 × Int32 × mSG => y.2.2) ((Sum.elim (fun y : Int32 × mSG => y.2) (fun y : mSG => y))) s o := by
  unfold X8_shaken_b79 at h
  by_cases hc : 8 < x4
  · rw [if_pos hc] at h
    obtain rfl := Option.some.inj h
    exact ⟨fun y hy => (by cases hy), fun y hy => by obtain rfl := Sum.inr.inj hy; exact Fr.rf⟩
  · rw [if_neg hc] at h
    obtain ⟨r8, hr, h⟩ := m_bind h
    have fr8 : Fr W_X8_shaken s r8.2 := Fr.tr Fr.rf (Fr.mono (FR_X8_followedFrom _ _ _ _ hr) rfl)
    by_cases hc : r8.1 = (-1)
    · rw [if_pos hc] at h
      obtain rfl := Option.some.inj h
      exact ⟨fun y hy => (by cases hy), fun y hy => by obtain rfl := Sum.inr.inj hy; exact fr8⟩
    · rw [if_neg hc] at h
      obtain ⟨r10, hr, h⟩ := m_bind h
      have fr10 : Fr W_X8_shaken s r10 := Fr.tr fr8 (Fr.mono (FR_X0_soak_28 _ _ hr) rfl)
      obtain ⟨r11, hr, h⟩ := m_bind h
      have fr11 : Fr W_X8_shaken s r11 := Fr.tr fr10 (Fr.mono (FR_X0_soak_31 _ _ hr) rfl)
      obtain rfl := Option.some.inj h
      exact ⟨fun y hy => by obtain rfl := Sum.inl.inj hy; exact fr11, fun y hy => by cases hy⟩

theorem FR_X8_shaken_l79 (t : mTX) (v : Int32 × Int32 × mSG) (e : ((Int32 × mSG) ⊕ mSG)) (h : X8_shaken_l79 t v = some e) : Fr W_X8_shaken v.2.2 ((Sum.elim (fun y : Int32 × mSG => y.2) (fun y : mSG => y)) e) :=
  FrS.iter (hy := fun y : Int32 × Int32 × mSG => y.2.2) (he := (Sum.elim (fun y : Int32 × mSG => y.2) (fun y : mSG => y))) (fun x o hx => FR_X8_shaken_b79 t x.1 x.2.1 x.2.2 o hx) mFU v e h
theorem FR_X8_shaken (t : mTX) (x1 : Int32) (x2 : Int32) (s : mSG) (o : Int32 × mSG) (h : X8_shaken t x1 x2 s = some o) : Fr W_X8_shaken s o.2 := by
  unfold X8_shaken at h
  by_cases hc : X8_areTwoPeople x1 x2 s = true
  · rw [if_pos hc] at h
    obtain ⟨r1, hr, h⟩ := m_bind h
    by_cases hc : r1 = true
    · rw [if_pos hc] at h
      obtain ⟨r2, hr, h⟩ := m_bind h
      obtain ⟨r3, hr, h⟩ := m_bind h
      have fr3 : Fr W_X8_shaken s r3 := Fr.tr Fr.rf (Fr.mono (FR_X0_be_28_7 _ _ _ _ hr) rfl)
      obtain ⟨r4, hr, h⟩ := m_bind h
      obtain ⟨r5, hr, h⟩ := m_bind h
      have fr5 : Fr W_X8_shaken s r5 := Fr.tr fr3 (Fr.mono (FR_X0_be_31_7 _ _ _ _ hr) rfl)
      obtain ⟨r6, hr, h⟩ := m_bind h
      obtain ⟨e79, hl, h⟩ := m_bind h
      have fl79 : Fr W_X8_shaken s ((Sum.elim (fun y : Int32 × mSG => y.2) (fun y : mSG => y)) e79) := Fr.tr fr5 (FR_X8_shaken_l79 _ _ _ hl)
      cases e79 with
      | inl e79_0 =>
        simp only [Sum.elim_inl] at h
        obtain rfl := Option.some.inj h
        exact fl79
      | inr e79_1 =>
        simp only [Sum.elim_inr] at h
        obtain rfl := Option.some.inj h
        exact fl79
    · rw [if_neg hc] at h
      obtain rfl := Option.some.inj h
      exact Fr.rf
  · rw [if_neg hc] at h
    obtain rfl := Option.some.inj h
    exact Fr.rf

def W_X8_canFollow : List (Nat × Option Nat) := [(28, some 2), (28, some 3), (28, some 4), (28, some 5), (28, some 6), (28, some 7), (28, some 8), (29, some 0), (29, some 1), (29, some 2), (29, some 3), (29, some 4), (29, some 5), (30, none)]
theorem FR_X8_canFollow_b22 (t : mTX) (a2_ : Nat) (x3 : Int32) (s : mSG) (o : (Int32 × mSG) ⊕ (mSG ⊕ mSG)) (h : X8_canFollow_b22 t a2_ x3 s = some o) : FrS W_X8_canFollow (fun y : Int32 × mSG => y.2) ((Sum.elim (fun y : mSG => y) (fun y : mSG => y))) s o := by
  unfold X8_canFollow_b22 at h
  obtain ⟨-, h⟩ := m_ite h
  by_cases hc : (s.1 a2_ 2) ≤ x3
  · rw [if_pos hc] at h
    obtain rfl := Option.some.inj h
    exact ⟨fun y hy => (by cases hy), fun y hy => by obtain rfl := Sum.inr.inj hy; exact Fr.rf⟩
  · rw [if_neg hc] at h
    obtain ⟨-, h⟩ := m_ite h
    obtain ⟨r4, hr, h⟩ := m_bind h
    obtain ⟨-, h⟩ := m_ite h
    obtain ⟨r5, hr, h⟩ := m_bind h
    obtain ⟨r6, hr, h⟩ := m_bind h
    obtain ⟨r7, hr, h⟩ := m_bind h
    have fr7 : Fr W_X8_canFollow s r7.2 := Fr.tr Fr.rf (Fr.mono (FR_X0_crosses_28 _ _ _ _ _ _ hr) rfl)
    by_cases hc : r7.1 = true
    · rw [if_pos hc] at h
      obtain ⟨r8, hr, h⟩ := m_bind h
      have fr8 : Fr W_X8_canFollow s r8 := Fr.tr fr7 (Fr.mono (FR_X0_soak_28 _ _ hr) rfl)
      obtain rfl := Option.some.inj h
      exact ⟨fun y hy => by obtain rfl := Sum.inl.inj hy; exact fr8, fun y hy => by cases hy⟩
    · rw [if_neg hc] at h
      obtain rfl := Option.some.inj h
      exact ⟨fun y hy => (by cases hy), fun y hy => by obtain rfl := Sum.inr.inj hy; exact fr7⟩

theorem FR_X8_canFollow_l22 (t : mTX) (a2_ : Nat) (v : Int32 × mSG) (e : (mSG ⊕ mSG)) (h : X8_canFollow_l22 t a2_ v = some e) : Fr W_X8_canFollow v.2 ((Sum.elim (fun y : mSG => y) (fun y : mSG => y)) e) :=
  FrS.iter (hy := fun y : Int32 × mSG => y.2) (he := (Sum.elim (fun y : mSG => y) (fun y : mSG => y))) (fun x o hx => FR_X8_canFollow_b22 t a2_ x.1 x.2 o hx) mFU v e h
theorem FR_X8_canFollow (t : mTX) (x1 : Int32) (a2_ : Nat) (s : mSG) (o : Bool × mSG) (h : X8_canFollow t x1 a2_ s = some o) : Fr W_X8_canFollow s o.2 := by
  unfold X8_canFollow at h
  obtain ⟨r1, hr, h⟩ := m_bind h
  obtain ⟨r2, hr, h⟩ := m_bind h
  have fr2 : Fr W_X8_canFollow s r2 := Fr.tr Fr.rf (Fr.mono (FR_X0_be_28_7 _ _ _ _ hr) rfl)
  obtain ⟨e22, hl, h⟩ := m_bind h
  have fl22 : Fr W_X8_canFollow s ((Sum.elim (fun y : mSG => y) (fun y : mSG => y)) e22) := Fr.tr fr2 (FR_X8_canFollow_l22 _ _ _ _ hl)
  cases e22 with
  | inl e22_0 =>
    simp only [Sum.elim_inl] at h
    obtain rfl := Option.some.inj h
    exact fl22
  | inr e22_1 =>
    simp only [Sum.elim_inr] at h
    obtain rfl := Option.some.inj h
    exact fl22

def W_X8_prints : List (Nat × Option Nat) := [(28, some 2), (28, some 3), (28, some 4), (28, some 5), (28, some 6), (28, some 7), (28, some 8), (29, some 0), (29, some 1), (29, some 2), (29, some 3), (29, some 4), (29, some 5), (30, none)]
theorem FR_X8_prints_j80_51 (t : mTX) (a2_ : Nat) (x3 : Int32) (x4 : Int32) (s : mSG) (o : (Int32 × Int32 × mSG) ⊕ Int32 × mSG) (h : X8_prints_j80_51 t a2_ x3 x4 s = some o) : FrS W_X8_prints (fun y : Int32 × Int32 × mSG => y.2.2) ((fun y : Int32 × mSG => y.2)) s o := by
  unfold X8_prints_j80_51 at h
  obtain rfl := Option.some.inj h
  exact ⟨fun y hy => by obtain rfl := Sum.inl.inj hy; exact Fr.rf, fun y hy => by cases hy⟩

theorem FR_X8_prints_b51 (t : mTX) (a2_ : Nat) (x3 : Int32) (x4 : Int32) (s : mSG) (o : (Int32 × Int32 × mSG) ⊕ Int32 × mSG) (h : X8_prints_b51 t a2_ x3 x4 s = some o) : FrS W_X8_prints (fun y : Int32 × Int32 × mSG => y.2.2) ((fun y : Int32 × mSG => y.2)) s o := by
  unfold X8_prints_b51 at h
  by_cases hc : (s.1 7 4) ≤ x4
  · rw [if_pos hc] at h
    obtain rfl := Option.some.inj h
    exact ⟨fun y hy => (by cases hy), fun y hy => by obtain rfl := Sum.inr.inj hy; exact Fr.rf⟩
  · rw [if_neg hc] at h
    obtain ⟨r6, hr, h⟩ := m_bind h
    have fr6 : Fr W_X8_prints s r6.2 := Fr.tr Fr.rf (Fr.mono (FR_X8_canFollow _ _ _ _ _ hr) rfl)
    by_cases hc : r6.1 = true
    · rw [if_pos hc] at h
      exact FrS.tr fr6 (FR_X8_prints_j80_51 _ _ _ _ _ _ h)
    · rw [if_neg hc] at h
      exact FrS.tr fr6 (FR_X8_prints_j80_51 _ _ _ _ _ _ h)

theorem FR_X8_prints_l51 (t : mTX) (a2_ : Nat) (v : Int32 × Int32 × mSG) (e : Int32 × mSG) (h : X8_prints_l51 t a2_ v = some e) : Fr W_X8_prints v.2.2 ((fun y : Int32 × mSG => y.2) e) :=
  FrS.iter (hy := fun y : Int32 × Int32 × mSG => y.2.2) (he := (fun y : Int32 × mSG => y.2)) (fun x o hx => FR_X8_prints_b51 t a2_ x.1 x.2.1 x.2.2 o hx) mFU v e h
theorem FR_X8_prints (t : mTX) (x1 : Int32) (s : mSG) (o : Int32 × mSG) (h : X8_prints t x1 s = some o) : Fr W_X8_prints s o.2 := by
  unfold X8_prints at h
  by_cases hc : X8_isWithin x1 3 = true
  · rw [if_pos hc] at h
    obtain ⟨-, h⟩ := m_ite h
    obtain ⟨a1, -, h⟩ := m_bind h
    obtain ⟨-, h⟩ := m_ite h
    obtain ⟨r2, hr, h⟩ := m_bind h
    by_cases hc : r2 = true
    · rw [if_pos hc] at h
      obtain rfl := Option.some.inj h
      exact Fr.rf
    · rw [if_neg hc] at h
      obtain ⟨-, h⟩ := m_ite h
      by_cases hc : (s.1 a1 2) < 2
      · rw [if_pos hc] at h
        obtain rfl := Option.some.inj h
        exact Fr.rf
      · rw [if_neg hc] at h
        obtain ⟨r4, hr, h⟩ := m_bind h
        by_cases hc : r4 = true
        · rw [if_pos hc] at h
          obtain ⟨e51, hl, h⟩ := m_bind h
          have fl51 : Fr W_X8_prints s ((fun y : Int32 × mSG => y.2) e51) := Fr.tr Fr.rf (FR_X8_prints_l51 _ _ _ _ hl)
          obtain rfl := Option.some.inj h
          exact fl51
        · rw [if_neg hc] at h
          obtain rfl := Option.some.inj h
          exact Fr.rf
  · rw [if_neg hc] at h
    obtain rfl := Option.some.inj h
    exact Fr.rf

def W_X8_out : List (Nat × Option Nat) := [(28, some 2), (28, some 3), (28, some 4), (28, some 5), (28, some 6), (28, some 7), (28, some 8), (29, some 0), (29, some 1), (29, some 2), (29, some 3), (29, some 4), (29, some 5), (30, none), (34, some 10), (34, some 11), (35, some 1), (36, none), (37, some 1), (38, none), (39, none), (40, none), (41, none), (42, none)]
theorem FR_X8_out_j120_38 (t : mTX) (x1 : Int32) (x2 : Int32) (x3 : Int32) (x4 : Int32) (x5 : Int32) (x6 : Int32) (s : mSG) (o : (Int32 × Int32 × Int32 × mSG) ⊕ Int32 × Int32 × mSG) (h : X8_out_j120_38 t x1 x2 x3 x4 x5 x6 s = some o) : FrS W_X8_out (fun y : Int32 × Int32 × Int32 × mSG => y.2.2.2) ((fun y : Int32 × Int32 × mSG => y.2.2)) s o := by
  unfold X8_out_j120_38 at h
  obtain rfl := Option.some.inj h
  exact ⟨fun y hy => by obtain rfl := Sum.inl.inj hy; exact Fr.rf, fun y hy => by cases hy⟩

theorem FR_X8_out_j109_38 (t : mTX) (x1 : Int32) (x2 : Int32) (x3 : Int32) (x6 : Int32) (x8 : Int32) (s : mSG) (o : (Int32 × Int32 × Int32 × mSG) ⊕ Int32 × Int32 × mSG) (h : X8_out_j109_38 t x1 x2 x3 x6 x8 s = some o) : FrS W_X8_out (fun y : Int32 × Int32 × Int32 × mSG => y.2.2.2) ((fun y : Int32 × Int32 × mSG => y.2.2)) s o := by
  unfold X8_out_j109_38 at h
  exact FrS.tr Fr.rf (FR_X8_out_j120_38 _ _ _ _ _ _ _ _ _ h)

theorem FR_X8_out_b38 (t : mTX) (x1 : Int32) (x2 : Int32) (x3 : Int32) (x4 : Int32) (x5 : Int32) (x6 : Int32) (s : mSG) (o : (Int32 × Int32 × Int32 × mSG) ⊕ Int32 × Int32 × mSG) (h : X8_out_b38 t x1 x2 x3 x4 x5 x6 s = some o) : FrS W_X8_out (fun y : Int32 × Int32 × Int32 × mSG => y.2.2.2) ((fun y : Int32 × Int32 × mSG => y.2.2)) s o := by
  unfold X8_out_b38 at h
  by_cases hc : 24 ≤ x6
  · rw [if_pos hc] at h
    obtain rfl := Option.some.inj h
    exact ⟨fun y hy => (by cases hy), fun y hy => by obtain rfl := Sum.inr.inj hy; exact Fr.rf⟩
  · rw [if_neg hc] at h
    obtain ⟨r2, hr, h⟩ := m_bind h
    obtain ⟨r3, hr, h⟩ := m_bind h
    by_cases hc : r3 = true
    · rw [if_pos hc] at h
      exact FrS.tr Fr.rf (FR_X8_out_j120_38 _ _ _ _ _ _ _ _ _ h)
    · rw [if_neg hc] at h
      obtain ⟨r4, hr, h⟩ := m_bind h
      have fr4 : Fr W_X8_out s r4 := Fr.tr Fr.rf (Fr.mono (FR_X8_seek _ _ _ _ _ _ hr) rfl)
      by_cases hc : (X3_hoursFound r4) = (-1)
      · rw [if_pos hc] at h
        exact FrS.tr fr4 (FR_X8_out_j120_38 _ _ _ _ _ _ _ _ _ h)
      · rw [if_neg hc] at h
        by_cases hc : x5 = (-1)
        · rw [if_pos hc] at h
          exact FrS.tr fr4 (FR_X8_out_j109_38 _ _ _ _ _ _ _ _ h)
        · rw [if_neg hc] at h
          by_cases hc : x5 ≤ (x6 + (X3_hoursFound r4))
          · rw [if_pos hc] at h
            exact FrS.tr fr4 (FR_X8_out_j120_38 _ _ _ _ _ _ _ _ _ h)
          · rw [if_neg hc] at h
            exact FrS.tr fr4 (FR_X8_out_j109_38 _ _ _ _ _ _ _ _ h)

theorem FR_X8_out_l38 (t : mTX) (x1 : Int32) (x2 : Int32) (x3 : Int32) (v : Int32 × Int32 × Int32 × mSG) (e : Int32 × Int32 × mSG) (h : X8_out_l38 t x1 x2 x3 v = some e) : Fr W_X8_out v.2.2.2 ((fun y : Int32 × Int32 × mSG => y.2.2) e) :=
  FrS.iter (hy := fun y : Int32 × Int32 × Int32 × mSG => y.2.2.2) (he := (fun y : Int32 × Int32 × mSG => y.2.2)) (fun x o hx => FR_X8_out_b38 t x1 x2 x3 x.1 x.2.1 x.2.2.1 x.2.2.2 o hx) mFU v e h
theorem FR_X8_out (t : mTX) (x1 : Int32) (x2 : Int32) (x3 : Int32) (s : mSG) (o : Int32 × mSG) (h : X8_out t x1 x2 x3 s = some o) : Fr W_X8_out s o.2 := by
  unfold X8_out at h
  by_cases hc : X5_isOne_7 x1 s = true
  · rw [if_pos hc] at h
    by_cases hc : X8_isStone x2 = true
    · rw [if_pos hc] at h
      by_cases hc : X8_isWithin x3 1 = true
      · rw [if_pos hc] at h
        obtain ⟨e38, hl, h⟩ := m_bind h
        have fl38 : Fr W_X8_out s ((fun y : Int32 × Int32 × mSG => y.2.2) e38) := Fr.tr Fr.rf (FR_X8_out_l38 _ _ _ _ _ _ hl)
        by_cases hc : x3 = 0
        · rw [if_pos hc] at h
          obtain rfl := Option.some.inj h
          exact fl38
        · rw [if_neg hc] at h
          obtain rfl := Option.some.inj h
          exact fl38
      · rw [if_neg hc] at h
        obtain rfl := Option.some.inj h
        exact Fr.rf
    · rw [if_neg hc] at h
      obtain rfl := Option.some.inj h
      exact Fr.rf
  · rw [if_neg hc] at h
    obtain rfl := Option.some.inj h
    exact Fr.rf

def W_J7_fill_43 : List (Nat × Option Nat) := [(43, none)]
theorem FR_J7_fill_43_b5 (x1 : Int32) (x3 : Int32) (x2 : Int32) (s : mSG) (o : (Int32 × mSG) ⊕ mSG) (h : J7_fill_43_b5 x1 x3 x2 s = some o) : FrS W_J7_fill_43 (fun y : Int32 × mSG => y.2) ((fun y : mSG => y)) s o := by
  unfold J7_fill_43_b5 at h
  by_cases hc : x3 ≤ x2
  · rw [if_pos hc] at h
    obtain rfl := Option.some.inj h
    exact ⟨fun y hy => (by cases hy), fun y hy => by obtain rfl := Sum.inr.inj hy; exact Fr.rf⟩
  · rw [if_neg hc] at h
    obtain ⟨-, h⟩ := m_ite h
    obtain rfl := Option.some.inj h
    exact ⟨fun y hy => by obtain rfl := Sum.inl.inj hy; exact (Fr.wI Fr.rf rfl), fun y hy => by cases hy⟩

theorem FR_J7_fill_43_l5 (x1 : Int32) (x3 : Int32) (v : Int32 × mSG) (e : mSG) (h : J7_fill_43_l5 x1 x3 v = some e) : Fr W_J7_fill_43 v.2 ((fun y : mSG => y) e) :=
  FrS.iter (hy := fun y : Int32 × mSG => y.2) (he := (fun y : mSG => y)) (fun x o hx => FR_J7_fill_43_b5 x1 x3 x.1 x.2 o hx) mFU v e h
theorem FR_J7_fill_43 (x1 : Int32) (s : mSG) (o : mSG) (h : J7_fill_43 x1 s = some o) : Fr W_J7_fill_43 s o := by
  unfold J7_fill_43 at h
  obtain ⟨e5, hl, h⟩ := m_bind h
  have fl5 : Fr W_J7_fill_43 s ((fun y : mSG => y) e5) := Fr.tr Fr.rf (FR_J7_fill_43_l5 _ _ _ _ hl)
  obtain rfl := Option.some.inj h
  exact fl5

def W_J7_fill_44 : List (Nat × Option Nat) := [(44, none)]
theorem FR_J7_fill_44_b5 (x1 : Int32) (x3 : Int32) (x2 : Int32) (s : mSG) (o : (Int32 × mSG) ⊕ mSG) (h : J7_fill_44_b5 x1 x3 x2 s = some o) : FrS W_J7_fill_44 (fun y : Int32 × mSG => y.2) ((fun y : mSG => y)) s o := by
  unfold J7_fill_44_b5 at h
  by_cases hc : x3 ≤ x2
  · rw [if_pos hc] at h
    obtain rfl := Option.some.inj h
    exact ⟨fun y hy => (by cases hy), fun y hy => by obtain rfl := Sum.inr.inj hy; exact Fr.rf⟩
  · rw [if_neg hc] at h
    obtain ⟨-, h⟩ := m_ite h
    obtain rfl := Option.some.inj h
    exact ⟨fun y hy => by obtain rfl := Sum.inl.inj hy; exact (Fr.wI Fr.rf rfl), fun y hy => by cases hy⟩

theorem FR_J7_fill_44_l5 (x1 : Int32) (x3 : Int32) (v : Int32 × mSG) (e : mSG) (h : J7_fill_44_l5 x1 x3 v = some e) : Fr W_J7_fill_44 v.2 ((fun y : mSG => y) e) :=
  FrS.iter (hy := fun y : Int32 × mSG => y.2) (he := (fun y : mSG => y)) (fun x o hx => FR_J7_fill_44_b5 x1 x3 x.1 x.2 o hx) mFU v e h
theorem FR_J7_fill_44 (x1 : Int32) (s : mSG) (o : mSG) (h : J7_fill_44 x1 s = some o) : Fr W_J7_fill_44 s o := by
  unfold J7_fill_44 at h
  obtain ⟨e5, hl, h⟩ := m_bind h
  have fl5 : Fr W_J7_fill_44 s ((fun y : mSG => y) e5) := Fr.tr Fr.rf (FR_J7_fill_44_l5 _ _ _ _ hl)
  obtain rfl := Option.some.inj h
  exact fl5

def W_X3_clearRoads : List (Nat × Option Nat) := [(43, none), (44, none)]
theorem FR_X3_clearRoads (s : mSG) (o : mSG) (h : X3_clearRoads s = some o) : Fr W_X3_clearRoads s o := by
  unfold X3_clearRoads at h
  obtain ⟨r1, hr, h⟩ := m_bind h
  have fr1 : Fr W_X3_clearRoads s r1 := Fr.tr Fr.rf (Fr.mono (FR_J7_fill_43 _ _ _ hr) rfl)
  obtain ⟨r2, hr, h⟩ := m_bind h
  have fr2 : Fr W_X3_clearRoads s r2 := Fr.tr fr1 (Fr.mono (FR_J7_fill_44 _ _ _ hr) rfl)
  obtain rfl := Option.some.inj h
  exact fr2

def W_X3_tryRoads_28_7 : List (Nat × Option Nat) := [(28, some 7), (29, some 0), (29, some 1), (29, some 2), (29, some 3), (29, some 4), (29, some 5), (30, none), (34, some 8), (34, some 9), (34, some 10), (34, some 11), (35, some 1), (36, none), (37, some 1), (38, none), (39, none), (40, none), (41, none), (42, none), (43, none), (44, none)]
theorem FR_X3_tryRoads_28_7_j94_20 (t : mTX) (x3 : Int32) (x4 : Int32) (x5 : Int32) (x6 : Int32) (s : mSG) (o : (Int32 × mSG) ⊕ mSG) (h : X3_tryRoads_28_7_j94_20 t x3 x4 x5 x6 s = some o) : FrS W_X3_tryRoads_28_7 (fun y : Int32 × mSG => y.2) ((fun y : mSG => y)) s o := by
  unfold X3_tryRoads_28_7_j94_20 at h
  obtain rfl := Option.some.inj h
  exact ⟨fun y hy => by obtain rfl := Sum.inl.inj hy; exact Fr.rf, fun y hy => by cases hy⟩

theorem FR_X3_tryRoads_28_7_b20 (t : mTX) (x3 : Int32) (x4 : Int32) (x5 : Int32) (x6 : Int32) (s : mSG) (o : (Int32 × mSG) ⊕ mSG) (h : X3_tryRoads_28_7_b20 t x3 x4 x5 x6 s = some o) : FrS W_X3_tryRoads_28_7 (fun y : Int32 × mSG => y.2) ((fun y : mSG => y)) s o := by
  unfold X3_tryRoads_28_7_b20 at h
  by_cases hc : 8 ≤ x6
  · rw [if_pos hc] at h
    obtain rfl := Option.some.inj h
    exact ⟨fun y hy => (by cases hy), fun y hy => by obtain rfl := Sum.inr.inj hy; exact Fr.rf⟩
  · rw [if_neg hc] at h
    obtain ⟨r4, hr, h⟩ := m_bind h
    have fr4 : Fr W_X3_tryRoads_28_7 s r4 := Fr.tr (Fr.wI (Fr.wI Fr.rf rfl) rfl) (Fr.mono (FR_X3_seek_28_7 _ _ _ _ _ hr) rfl)
    by_cases hc : 1000000 ≤ (r4.1 34 10)
    · rw [if_pos hc] at h
      exact FrS.tr fr4 (FR_X3_tryRoads_28_7_j94_20 _ _ _ _ _ _ _ h)
    · rw [if_neg hc] at h
      obtain ⟨-, h⟩ := m_ite h
      exact FrS.tr (Fr.wI (Fr.wI fr4 rfl) rfl) (FR_X3_tryRoads_28_7_j94_20 _ _ _ _ _ _ _ h)

theorem FR_X3_tryRoads_28_7_l20 (t : mTX) (x3 : Int32) (x4 : Int32) (x5 : Int32) (v : Int32 × mSG) (e : mSG) (h : X3_tryRoads_28_7_l20 t x3 x4 x5 v = some e) : Fr W_X3_tryRoads_28_7 v.2 ((fun y : mSG => y) e) :=
  FrS.iter (hy := fun y : Int32 × mSG => y.2) (he := (fun y : mSG => y)) (fun x o hx => FR_X3_tryRoads_28_7_b20 t x3 x4 x5 x.1 x.2 o hx) mFU v e h
theorem FR_X3_tryRoads_28_7_b7 (t : mTX) (x3 : Int32) (x4 : Int32) (x5 : Int32) (s : mSG) (o : (Int32 × mSG) ⊕ mSG) (h : X3_tryRoads_28_7_b7 t x3 x4 x5 s = some o) : FrS W_X3_tryRoads_28_7 (fun y : Int32 × mSG => y.2) ((fun y : mSG => y)) s o := by
  unfold X3_tryRoads_28_7_b7 at h
  by_cases hc : 8 ≤ x5
  · rw [if_pos hc] at h
    obtain rfl := Option.some.inj h
    exact ⟨fun y hy => (by cases hy), fun y hy => by obtain rfl := Sum.inr.inj hy; exact Fr.rf⟩
  · rw [if_neg hc] at h
    obtain ⟨e20, hl, h⟩ := m_bind h
    have fl20 : Fr W_X3_tryRoads_28_7 s ((fun y : mSG => y) e20) := Fr.tr Fr.rf (FR_X3_tryRoads_28_7_l20 _ _ _ _ _ _ hl)
    obtain rfl := Option.some.inj h
    exact ⟨fun y hy => by obtain rfl := Sum.inl.inj hy; exact fl20, fun y hy => by cases hy⟩

theorem FR_X3_tryRoads_28_7_l7 (t : mTX) (x3 : Int32) (x4 : Int32) (v : Int32 × mSG) (e : mSG) (h : X3_tryRoads_28_7_l7 t x3 x4 v = some e) : Fr W_X3_tryRoads_28_7 v.2 ((fun y : mSG => y) e) :=
  FrS.iter (hy := fun y : Int32 × mSG => y.2) (he := (fun y : mSG => y)) (fun x o hx => FR_X3_tryRoads_28_7_b7 t x3 x4 x.1 x.2 o hx) mFU v e h
theorem FR_X3_tryRoads_28_7 (t : mTX) (x3 : Int32) (x4 : Int32) (s : mSG) (o : mSG) (h : X3_tryRoads_28_7 t x3 x4 s = some o) : Fr W_X3_tryRoads_28_7 s o := by
  unfold X3_tryRoads_28_7 at h
  obtain ⟨r1, hr, h⟩ := m_bind h
  have fr1 : Fr W_X3_tryRoads_28_7 s r1 := Fr.tr Fr.rf (Fr.mono (FR_X3_forget _ _ hr) rfl)
  obtain ⟨e7, hl, h⟩ := m_bind h
  have fl7 : Fr W_X3_tryRoads_28_7 s ((fun y : mSG => y) e7) := Fr.tr fr1 (FR_X3_tryRoads_28_7_l7 _ _ _ _ _ hl)
  obtain rfl := Option.some.inj h
  exact (Fr.wI (Fr.wI fl7 rfl) rfl)

def W_X8_road : List (Nat × Option Nat) := [(28, some 2), (28, some 3), (28, some 4), (28, some 5), (28, some 6), (28, some 7), (28, some 8), (29, some 0), (29, some 1), (29, some 2), (29, some 3), (29, some 4), (29, some 5), (30, none), (34, some 8), (34, some 9), (34, some 10), (34, some 11), (35, some 1), (36, none), (37, some 1), (38, none), (39, none), (40, none), (41, none), (42, none), (43, none), (44, none)]
theorem FR_X8_road_b27 (t : mTX) (x1 : Int32) (x2 : Int32) (x3 : Int32) (s : mSG) (o : (Int32 × mSG) ⊕ mSG) (h : X8_road_b27 t x1 x2 x3 s = some o) : FrS W_X8_road (fun y : Int32 × mSG => y.2) ((fun y : mSG => y)) s o := by
  unfold X8_road_b27 at h
  by_cases hc : (s.1 7 4) ≤ x3
  · rw [if_pos hc] at h
    obtain rfl := Option.some.inj h
    exact ⟨fun y hy => (by cases hy), fun y hy => by obtain rfl := Sum.inr.inj hy; exact Fr.rf⟩
  · rw [if_neg hc] at h
    obtain ⟨r3, hr, h⟩ := m_bind h
    obtain ⟨r4, hr, h⟩ := m_bind h
    have fr4 : Fr W_X8_road s r4 := Fr.tr Fr.rf (Fr.mono (FR_X0_be_28_7 _ _ _ _ hr) rfl)
    obtain ⟨r5, hr, h⟩ := m_bind h
    obtain ⟨r6, hr, h⟩ := m_bind h
    have fr6 : Fr W_X8_road s r6 := Fr.tr fr4 (Fr.mono (FR_X3_tryRoads_28_7 _ _ _ _ _ hr) rfl)
    obtain rfl := Option.some.inj h
    exact ⟨fun y hy => by obtain rfl := Sum.inl.inj hy; exact fr6, fun y hy => by cases hy⟩

theorem FR_X8_road_l27 (t : mTX) (x1 : Int32) (x2 : Int32) (v : Int32 × mSG) (e : mSG) (h : X8_road_l27 t x1 x2 v = some e) : Fr W_X8_road v.2 ((fun y : mSG => y) e) :=
  FrS.iter (hy := fun y : Int32 × mSG => y.2) (he := (fun y : mSG => y)) (fun x o hx => FR_X8_road_b27 t x1 x2 x.1 x.2 o hx) mFU v e h
theorem FR_X8_road (t : mTX) (x1 : Int32) (x2 : Int32) (s : mSG) (o : Int32 × mSG) (h : X8_road t x1 x2 s = some o) : Fr W_X8_road s o.2 := by
  unfold X8_road at h
  by_cases hc : X8_isStone x1 = true
  · rw [if_pos hc] at h
    by_cases hc : X8_isWithin x2 2 = true
    · rw [if_pos hc] at h
      obtain ⟨r1, hr, h⟩ := m_bind h
      have fr1 : Fr W_X8_road s r1 := Fr.tr Fr.rf (Fr.mono (FR_X3_clearRoads _ _ hr) rfl)
      obtain ⟨e27, hl, h⟩ := m_bind h
      have fl27 : Fr W_X8_road s ((fun y : mSG => y) e27) := Fr.tr fr1 (FR_X8_road_l27 _ _ _ _ _ hl)
      obtain ⟨r7, hr, h⟩ := m_bind h
      by_cases hc : x2 = 0
      · rw [if_pos hc] at h
        obtain rfl := Option.some.inj h
        exact fl27
      · rw [if_neg hc] at h
        by_cases hc : x2 = 1
        · rw [if_pos hc] at h
          obtain ⟨r8, hr, h⟩ := m_bind h
          obtain rfl := Option.some.inj h
          exact fl27
        · rw [if_neg hc] at h
          obtain ⟨r9, hr, h⟩ := m_bind h
          obtain rfl := Option.some.inj h
          exact fl27
    · rw [if_neg hc] at h
      obtain rfl := Option.some.inj h
      exact Fr.rf
  · rw [if_neg hc] at h
    obtain rfl := Option.some.inj h
    exact Fr.rf

def W_X5_become_17_7 : List (Nat × Option Nat) := [(17, some 4), (17, some 5), (17, some 6), (18, none), (19, none), (20, none), (21, none)]
theorem FR_X5_become_17_7 (s : mSG) (o : mSG) (h : X5_become_17_7 s = some o) : Fr W_X5_become_17_7 s o := by
  unfold X5_become_17_7 at h
  obtain rfl := Option.some.inj h
  exact (Fr.wI (Fr.wI (Fr.wI (Fr.wC (Fr.wC (Fr.wC (Fr.wC Fr.rf (fun _ => rfl)) (fun _ => rfl)) (fun _ => rfl)) (fun _ => rfl)) rfl) rfl) rfl)

def W_X0_be_28_17 : List (Nat × Option Nat) := [(28, some 2), (28, some 3), (28, some 4), (28, some 5), (28, some 6), (28, some 7), (28, some 8)]
theorem FR_X0_be_28_17 (x2 : Int32) (a3_ : Nat) (s : mSG) (o : mSG) (h : X0_be_28_17 x2 a3_ s = some o) : Fr W_X0_be_28_17 s o := by
  unfold X0_be_28_17 at h
  obtain ⟨r1, hr, h⟩ := m_bind h
  obtain ⟨r2, hr, h⟩ := m_bind h
  obtain ⟨r3, hr, h⟩ := m_bind h
  obtain ⟨r4, hr, h⟩ := m_bind h
  obtain ⟨r5, hr, h⟩ := m_bind h
  obtain ⟨r6, hr, h⟩ := m_bind h
  obtain rfl := Option.some.inj h
  exact (Fr.wI (Fr.wI (Fr.wI (Fr.wI (Fr.wI (Fr.wI (Fr.wQ Fr.rf rfl) rfl) rfl) rfl) rfl) rfl) rfl)

def W_X5_put_17 : List (Nat × Option Nat) := [(19, none)]
theorem FR_X5_put_17 (x1 : Int32) (x2 : Int32) (x3 : Int32) (s : mSG) (o : mSG) (h : X5_put_17 x1 x2 x3 s = some o) : Fr W_X5_put_17 s o := by
  unfold X5_put_17 at h
  by_cases hc : X5_isOne_17 x1 s = true
  · rw [if_pos hc] at h
    by_cases hc : X8_isWithin x2 5 = true
    · rw [if_pos hc] at h
      obtain ⟨-, h⟩ := m_ite h
      obtain rfl := Option.some.inj h
      exact (Fr.wI Fr.rf rfl)
    · rw [if_neg hc] at h
      obtain rfl := Option.some.inj h
      exact Fr.rf
  · rw [if_neg hc] at h
    obtain rfl := Option.some.inj h
    exact Fr.rf

def W_X8_moves_17 : List (Nat × Option Nat) := [(17, some 5), (19, none), (28, some 2), (28, some 3), (28, some 4), (28, some 5), (28, some 6), (28, some 7), (28, some 8), (29, some 0), (29, some 1), (29, some 2), (29, some 3), (29, some 4), (29, some 5), (30, none)]
theorem FR_X8_moves_17 (t : mTX) (x2 : Int32) (x3 : Int32) (s : mSG) (o : Bool × mSG) (h : X8_moves_17 t x2 x3 s = some o) : Fr W_X8_moves_17 s o.2 := by
  unfold X8_moves_17 at h
  obtain ⟨r1, hr, h⟩ := m_bind h
  obtain ⟨r2, hr, h⟩ := m_bind h
  have fr2 : Fr W_X8_moves_17 s r2 := Fr.tr Fr.rf (Fr.mono (FR_X0_be_28_17 _ _ _ _ hr) rfl)
  obtain ⟨r3, hr, h⟩ := m_bind h
  obtain ⟨r4, hr, h⟩ := m_bind h
  obtain ⟨r5, hr, h⟩ := m_bind h
  have fr5 : Fr W_X8_moves_17 s r5.2 := Fr.tr fr2 (Fr.mono (FR_X0_hours_28 _ _ _ _ _ _ hr) rfl)
  by_cases hc : r5.1 = 0
  · rw [if_pos hc] at h
    obtain rfl := Option.some.inj h
    exact fr5
  · rw [if_neg hc] at h
    obtain ⟨r7, hr, h⟩ := m_bind h
    have fr7 : Fr W_X8_moves_17 s r7 := Fr.tr fr5 (Fr.mono (FR_X0_soak_28 _ _ hr) rfl)
    obtain ⟨r8, hr, h⟩ := m_bind h
    have fr8 : Fr W_X8_moves_17 s r8 := Fr.tr fr7 (Fr.mono (FR_X5_put_17 _ _ _ _ _ hr) rfl)
    obtain ⟨r9, hr, h⟩ := m_bind h
    have fr9 : Fr W_X8_moves_17 s r9 := Fr.tr fr8 (Fr.mono (FR_X5_put_17 _ _ _ _ _ hr) rfl)
    obtain rfl := Option.some.inj h
    exact (Fr.wI fr9 rfl)

def W_X8_judge : List (Nat × Option Nat) := [(17, some 4), (17, some 5), (17, some 6), (18, none), (19, none), (20, none), (21, none), (28, some 2), (28, some 3), (28, some 4), (28, some 5), (28, some 6), (28, some 7), (28, some 8), (29, some 0), (29, some 1), (29, some 2), (29, some 3), (29, some 4), (29, some 5), (30, none)]
theorem FR_X8_judge_b53 (t : mTX) (a2_ : Nat) (x3 : Int32) (s : mSG) (o : (Int32 × mSG) ⊕ ((Int32 × mSG) ⊕ mSG)) (h : X8_judge_b53 t a2_ x3 s = some o) : FrS W_X8_judge (fun y : Int32 × mSG => y.2) ((Sum.elim (fun y : Int32 × mSG => y.2) (fun y : mSG => y))) s o := by
  unfold X8_judge_b53 at h
  obtain ⟨-, h⟩ := m_ite h
  by_cases hc : ((s.1 a2_ 2) / 2) ≤ x3
  · rw [if_pos hc] at h
    obtain rfl := Option.some.inj h
    exact ⟨fun y hy => (by cases hy), fun y hy => by obtain rfl := Sum.inr.inj hy; exact Fr.rf⟩
  · rw [if_neg hc] at h
    obtain ⟨-, h⟩ := m_ite h
    obtain ⟨r6, hr, h⟩ := m_bind h
    obtain ⟨-, h⟩ := m_ite h
    obtain ⟨r7, hr, h⟩ := m_bind h
    by_cases hc : X5_isOne_17 r6 s = true
    · rw [if_pos hc] at h
      by_cases hc : X8_isStone r7 = true
      · rw [if_pos hc] at h
        obtain ⟨r8, hr, h⟩ := m_bind h
        have fr8 : Fr W_X8_judge s r8.2 := Fr.tr Fr.rf (Fr.mono (FR_X8_moves_17 _ _ _ _ _ hr) rfl)
        by_cases hc : r8.1 = true
        · rw [if_pos hc] at h
          obtain rfl := Option.some.inj h
          exact ⟨fun y hy => by obtain rfl := Sum.inl.inj hy; exact fr8, fun y hy => by cases hy⟩
        · rw [if_neg hc] at h
          obtain rfl := Option.some.inj h
          exact ⟨fun y hy => (by cases hy), fun y hy => by obtain rfl := Sum.inr.inj hy; exact fr8⟩
      · rw [if_neg hc] at h
        obtain rfl := Option.some.inj h
        exact ⟨fun y hy => (by cases hy), fun y hy => by obtain rfl := Sum.inr.inj hy; exact Fr.rf⟩
    · rw [if_neg hc] at h
      obtain rfl := Option.some.inj h
      exact ⟨fun y hy => (by cases hy), fun y hy => by obtain rfl := Sum.inr.inj hy; exact Fr.rf⟩

theorem FR_X8_judge_l53 (t : mTX) (a2_ : Nat) (v : Int32 × mSG) (e : ((Int32 × mSG) ⊕ mSG)) (h : X8_judge_l53 t a2_ v = some e) : Fr W_X8_judge v.2 ((Sum.elim (fun y : Int32 × mSG => y.2) (fun y : mSG => y)) e) :=
  FrS.iter (hy := fun y : Int32 × mSG => y.2) (he := (Sum.elim (fun y : Int32 × mSG => y.2) (fun y : mSG => y))) (fun x o hx => FR_X8_judge_b53 t a2_ x.1 x.2 o hx) mFU v e h
theorem FR_X8_judge (t : mTX) (x1 : Int32) (s : mSG) (o : Int32 × mSG) (h : X8_judge t x1 s = some o) : Fr W_X8_judge s o.2 := by
  unfold X8_judge at h
  by_cases hc : X8_isWithin x1 3 = true
  · rw [if_pos hc] at h
    obtain ⟨-, h⟩ := m_ite h
    obtain ⟨a1, -, h⟩ := m_bind h
    obtain ⟨-, h⟩ := m_ite h
    obtain ⟨r2, hr, h⟩ := m_bind h
    by_cases hc : r2 = true
    · rw [if_pos hc] at h
      obtain rfl := Option.some.inj h
      exact Fr.rf
    · rw [if_neg hc] at h
      obtain ⟨-, h⟩ := m_ite h
      by_cases hc : ((s.1 a1 2) - (s.1 a1 2) / 2 * 2) = 0
      · rw [if_pos hc] at h
        obtain ⟨r4, hr, h⟩ := m_bind h
        have fr4 : Fr W_X8_judge s r4 := Fr.tr Fr.rf (Fr.mono (FR_X5_become_17_7 _ _ hr) rfl)
        obtain ⟨e53, hl, h⟩ := m_bind h
        have fl53 : Fr W_X8_judge s ((Sum.elim (fun y : Int32 × mSG => y.2) (fun y : mSG => y)) e53) := Fr.tr fr4 (FR_X8_judge_l53 _ _ _ _ hl)
        cases e53 with
        | inl e53_0 =>
          simp only [Sum.elim_inl] at h
          obtain rfl := Option.some.inj h
          exact fl53
        | inr e53_1 =>
          simp only [Sum.elim_inr] at h
          obtain rfl := Option.some.inj h
          exact fl53
      · rw [if_neg hc] at h
        obtain rfl := Option.some.inj h
        exact Fr.rf
  · rw [if_neg hc] at h
    obtain rfl := Option.some.inj h
    exact Fr.rf

def W_X8_drawnTo : List (Nat × Option Nat) := [(17, some 4), (17, some 5), (17, some 6), (18, none), (19, none), (20, none), (21, none), (28, some 2), (28, some 3), (28, some 4), (28, some 5), (28, some 6), (28, some 7), (28, some 8), (29, some 0), (29, some 1), (29, some 2), (29, some 3), (29, some 4), (29, some 5), (30, none)]
theorem FR_X8_drawnTo_b26 (t : mTX) (x2 : Int32) (x3 : Int32) (x5 : Int32) (x4 : Int32) (x6 : Int32) (s : mSG) (o : (Int32 × Int32 × mSG) ⊕ Int32 × mSG) (h : X8_drawnTo_b26 t x2 x3 x5 x4 x6 s = some o) : FrS W_X8_drawnTo (fun y : Int32 × Int32 × mSG => y.2.2) ((fun y : Int32 × mSG => y.2)) s o := by
  unfold X8_drawnTo_b26 at h
  by_cases hc : (s.1 17 4) ≤ x6
  · rw [if_pos hc] at h
    obtain rfl := Option.some.inj h
    exact ⟨fun y hy => (by cases hy), fun y hy => by obtain rfl := Sum.inr.inj hy; exact Fr.rf⟩
  · rw [if_neg hc] at h
    obtain ⟨r4, hr, h⟩ := m_bind h
    have fr4 : Fr W_X8_drawnTo s r4.2 := Fr.tr Fr.rf (Fr.mono (FR_X8_moves_17 _ _ _ _ _ hr) rfl)
    obtain rfl := Option.some.inj h
    exact ⟨fun y hy => by obtain rfl := Sum.inl.inj hy; exact fr4, fun y hy => by cases hy⟩

theorem FR_X8_drawnTo_l26 (t : mTX) (x2 : Int32) (x3 : Int32) (x5 : Int32) (v : Int32 × Int32 × mSG) (e : Int32 × mSG) (h : X8_drawnTo_l26 t x2 x3 x5 v = some e) : Fr W_X8_drawnTo v.2.2 ((fun y : Int32 × mSG => y.2) e) :=
  FrS.iter (hy := fun y : Int32 × Int32 × mSG => y.2.2) (he := (fun y : Int32 × mSG => y.2)) (fun x o hx => FR_X8_drawnTo_b26 t x2 x3 x5 x.1 x.2.1 x.2.2 o hx) mFU v e h
theorem FR_X8_drawnTo_b17 (t : mTX) (x2 : Int32) (x3 : Int32) (x4 : Int32) (x5 : Int32) (s : mSG) (o : (Int32 × Int32 × mSG) ⊕ mSG) (h : X8_drawnTo_b17 t x2 x3 x4 x5 s = some o) : FrS W_X8_drawnTo (fun y : Int32 × Int32 × mSG => y.2.2) ((fun y : mSG => y)) s o := by
  unfold X8_drawnTo_b17 at h
  by_cases hc : x2 ≤ x5
  · rw [if_pos hc] at h
    obtain rfl := Option.some.inj h
    exact ⟨fun y hy => (by cases hy), fun y hy => by obtain rfl := Sum.inr.inj hy; exact Fr.rf⟩
  · rw [if_neg hc] at h
    obtain ⟨e26, hl, h⟩ := m_bind h
    have fl26 : Fr W_X8_drawnTo s ((fun y : Int32 × mSG => y.2) e26) := Fr.tr Fr.rf (FR_X8_drawnTo_l26 _ _ _ _ _ _ hl)
    obtain rfl := Option.some.inj h
    exact ⟨fun y hy => by obtain rfl := Sum.inl.inj hy; exact fl26, fun y hy => by cases hy⟩

theorem FR_X8_drawnTo_l17 (t : mTX) (x2 : Int32) (x3 : Int32) (v : Int32 × Int32 × mSG) (e : mSG) (h : X8_drawnTo_l17 t x2 x3 v = some e) : Fr W_X8_drawnTo v.2.2 ((fun y : mSG => y) e) :=
  FrS.iter (hy := fun y : Int32 × Int32 × mSG => y.2.2) (he := (fun y : mSG => y)) (fun x o hx => FR_X8_drawnTo_b17 t x2 x3 x.1 x.2.1 x.2.2 o hx) mFU v e h
theorem FR_X8_drawnTo (t : mTX) (x1 : Int32) (x2 : Int32) (x3 : Int32) (s : mSG) (o : Int32 × mSG) (h : X8_drawnTo t x1 x2 x3 s = some o) : Fr W_X8_drawnTo s o.2 := by
  unfold X8_drawnTo at h
  obtain ⟨r1, hr, h⟩ := m_bind h
  have fr1 : Fr W_X8_drawnTo s r1 := Fr.tr Fr.rf (Fr.mono (FR_X5_become_17_7 _ _ hr) rfl)
  obtain ⟨e17, hl, h⟩ := m_bind h
  have fl17 : Fr W_X8_drawnTo s ((fun y : mSG => y) e17) := Fr.tr fr1 (FR_X8_drawnTo_l17 _ _ _ _ _ hl)
  obtain ⟨e87, hl, h⟩ := m_bind h
  obtain rfl := Option.some.inj h
  exact fl17

def W_X8_drawn : List (Nat × Option Nat) := [(17, some 4), (17, some 5), (17, some 6), (18, none), (19, none), (20, none), (21, none), (28, some 2), (28, some 3), (28, some 4), (28, some 5), (28, some 6), (28, some 7), (28, some 8), (29, some 0), (29, some 1), (29, some 2), (29, some 3), (29, some 4), (29, some 5), (30, none)]
theorem FR_X8_drawn (t : mTX) (x1 : Int32) (x2 : Int32) (x3 : Int32) (s : mSG) (o : Int32 × mSG) (h : X8_drawn t x1 x2 x3 s = some o) : Fr W_X8_drawn s o.2 := by
  unfold X8_drawn at h
  by_cases hc : X8_isWithin x2 30 = true
  · rw [if_pos hc] at h
    by_cases hc : X8_isStone x3 = true
    · rw [if_pos hc] at h
      obtain ⟨r1, hr, h⟩ := m_bind h
      have fr1 : Fr W_X8_drawn s r1.2 := Fr.tr Fr.rf (Fr.mono (FR_X8_drawnTo _ _ _ _ _ _ hr) rfl)
      obtain rfl := Option.some.inj h
      exact fr1
    · rw [if_neg hc] at h
      obtain rfl := Option.some.inj h
      exact Fr.rf
  · rw [if_neg hc] at h
    obtain rfl := Option.some.inj h
    exact Fr.rf

def W_X8_chance : List (Nat × Option Nat) := [(17, some 4), (17, some 5), (17, some 6), (18, none), (19, none), (20, none), (21, none), (28, some 2), (28, some 3), (28, some 4), (28, some 5), (28, some 6), (28, some 7), (28, some 8), (29, some 0), (29, some 1), (29, some 2), (29, some 3), (29, some 4), (29, some 5), (30, none)]
theorem FR_X8_chance_j72_49 (t : mTX) (x1 : Int32) (x2 : Int32) (x3 : Int32) (x4 : Int32) (x5 : Int32) (x6 : Int32) (x7 : Int32) (s : mSG) (o : (Int32 × Int32 × mSG) ⊕ Int32 × mSG) (h : X8_chance_j72_49 t x1 x2 x3 x4 x5 x6 x7 s = some o) : FrS W_X8_chance (fun y : Int32 × Int32 × mSG => y.2.2) ((fun y : Int32 × mSG => y.2)) s o := by
  unfold X8_chance_j72_49 at h
  obtain rfl := Option.some.inj h
  exact ⟨fun y hy => by obtain rfl := Sum.inl.inj hy; exact Fr.rf, fun y hy => by cases hy⟩

theorem FR_X8_chance_b49 (t : mTX) (x1 : Int32) (x2 : Int32) (x3 : Int32) (x4 : Int32) (x5 : Int32) (x6 : Int32) (x7 : Int32) (s : mSG) (o : (Int32 × Int32 × mSG) ⊕ Int32 × mSG) (h : X8_chance_b49 t x1 x2 x3 x4 x5 x6 x7 s = some o) : FrS W_X8_chance (fun y : Int32 × Int32 × mSG => y.2.2) ((fun y : Int32 × mSG => y.2)) s o := by
  unfold X8_chance_b49 at h
  by_cases hc : x2 ≤ x7
  · rw [if_pos hc] at h
    obtain rfl := Option.some.inj h
    exact ⟨fun y hy => (by cases hy), fun y hy => by obtain rfl := Sum.inr.inj hy; exact Fr.rf⟩
  · rw [if_neg hc] at h
    obtain ⟨r3, hr, h⟩ := m_bind h
    have fr3 : Fr W_X8_chance s r3.2 := Fr.tr Fr.rf (Fr.mono (FR_X8_drawnTo _ _ _ _ _ _ hr) rfl)
    by_cases hc : r3.1 ≤ 0
    · rw [if_pos hc] at h
      exact FrS.tr fr3 (FR_X8_chance_j72_49 _ _ _ _ _ _ _ _ _ _ h)
    · rw [if_neg hc] at h
      exact FrS.tr fr3 (FR_X8_chance_j72_49 _ _ _ _ _ _ _ _ _ _ h)

theorem FR_X8_chance_l49 (t : mTX) (x1 : Int32) (x2 : Int32) (x3 : Int32) (x4 : Int32) (x5 : Int32) (v : Int32 × Int32 × mSG) (e : Int32 × mSG) (h : X8_chance_l49 t x1 x2 x3 x4 x5 v = some e) : Fr W_X8_chance v.2.2 ((fun y : Int32 × mSG => y.2) e) :=
  FrS.iter (hy := fun y : Int32 × Int32 × mSG => y.2.2) (he := (fun y : Int32 × mSG => y.2)) (fun x o hx => FR_X8_chance_b49 t x1 x2 x3 x4 x5 x.1 x.2.1 x.2.2 o hx) mFU v e h
theorem FR_X8_chance (t : mTX) (x1 : Int32) (x2 : Int32) (x3 : Int32) (x4 : Int32) (x5 : Int32) (s : mSG) (o : Int64 × mSG) (h : X8_chance t x1 x2 x3 x4 x5 s = some o) : Fr W_X8_chance s o.2 := by
  unfold X8_chance at h
  by_cases hc : X8_isWithin x2 20 = true
  · rw [if_pos hc] at h
    by_cases hc : x2 = 0
    · rw [if_pos hc] at h
      obtain rfl := Option.some.inj h
      exact Fr.rf
    · rw [if_neg hc] at h
      by_cases hc : X8_isWithin x3 30 = true
      · rw [if_pos hc] at h
        by_cases hc : X8_isStone x4 = true
        · rw [if_pos hc] at h
          by_cases hc : X8_isWithin x5 1 = true
          · rw [if_pos hc] at h
            obtain ⟨e49, hl, h⟩ := m_bind h
            have fl49 : Fr W_X8_chance s ((fun y : Int32 × mSG => y.2) e49) := Fr.tr Fr.rf (FR_X8_chance_l49 _ _ _ _ _ _ _ _ hl)
            obtain ⟨r5, hr, h⟩ := m_bind h
            by_cases hc : x5 = 0
            · rw [if_pos hc] at h
              obtain ⟨-, h⟩ := m_ite h
              obtain rfl := Option.some.inj h
              exact fl49
            · rw [if_neg hc] at h
              obtain ⟨-, h⟩ := m_ite h
              obtain rfl := Option.some.inj h
              exact fl49
          · rw [if_neg hc] at h
            obtain rfl := Option.some.inj h
            exact Fr.rf
        · rw [if_neg hc] at h
          obtain rfl := Option.some.inj h
          exact Fr.rf
      · rw [if_neg hc] at h
        obtain rfl := Option.some.inj h
        exact Fr.rf
  · rw [if_neg hc] at h
    obtain rfl := Option.some.inj h
    exact Fr.rf

def W_X5_become_12_7 : List (Nat × Option Nat) := [(12, some 4), (12, some 5), (12, some 6), (13, none), (14, none), (15, none), (16, none)]
theorem FR_X5_become_12_7 (s : mSG) (o : mSG) (h : X5_become_12_7 s = some o) : Fr W_X5_become_12_7 s o := by
  unfold X5_become_12_7 at h
  obtain rfl := Option.some.inj h
  exact (Fr.wI (Fr.wI (Fr.wI (Fr.wC (Fr.wC (Fr.wC (Fr.wC Fr.rf (fun _ => rfl)) (fun _ => rfl)) (fun _ => rfl)) (fun _ => rfl)) rfl) rfl) rfl)

def W_X8_image : List (Nat × Option Nat) := [(6, some 10), (12, some 4), (12, some 5), (12, some 6), (13, none), (14, none), (15, none), (16, none)]
theorem FR_X8_image (s : mSG) (o : Int32 × mSG) (h : X8_image s = some o) : Fr W_X8_image s o.2 := by
  unfold X8_image at h
  obtain ⟨r1, hr, h⟩ := m_bind h
  have fr1 : Fr W_X8_image s r1 := Fr.tr Fr.rf (Fr.mono (FR_X5_become_12_7 _ _ hr) rfl)
  obtain rfl := Option.some.inj h
  exact (Fr.wI fr1 rfl)

def W_X5_become_7_12 : List (Nat × Option Nat) := [(7, some 4), (7, some 5), (7, some 6), (8, none), (9, none), (10, none), (11, none)]
theorem FR_X5_become_7_12 (s : mSG) (o : mSG) (h : X5_become_7_12 s = some o) : Fr W_X5_become_7_12 s o := by
  unfold X5_become_7_12 at h
  obtain rfl := Option.some.inj h
  exact (Fr.wI (Fr.wI (Fr.wI (Fr.wC (Fr.wC (Fr.wC (Fr.wC Fr.rf (fun _ => rfl)) (fun _ => rfl)) (fun _ => rfl)) (fun _ => rfl)) rfl) rfl) rfl)

def W_X8_back : List (Nat × Option Nat) := [(7, some 4), (7, some 5), (7, some 6), (8, none), (9, none), (10, none), (11, none)]
theorem FR_X8_back (s : mSG) (o : Int32 × mSG) (h : X8_back s = some o) : Fr W_X8_back s o.2 := by
  unfold X8_back at h
  by_cases hc : (s.1 6 10) = 0
  · rw [if_pos hc] at h
    obtain rfl := Option.some.inj h
    exact Fr.rf
  · rw [if_neg hc] at h
    obtain ⟨r2, hr, h⟩ := m_bind h
    have fr2 : Fr W_X8_back s r2 := Fr.tr Fr.rf (Fr.mono (FR_X5_become_7_12 _ _ hr) rfl)
    obtain rfl := Option.some.inj h
    exact fr2

def W_X8_muds : List (Nat × Option Nat) := [(8, none)]
theorem FR_X8_muds_j133_66 (t : mTX) (x3 : Int32) (x4 : Int32) (a5_ : Nat) (x6 : Int32) (x7 : Int32) (s : mSG) (o : (Int32 × Int32 × mSG) ⊕ (mSG ⊕ Int32 × mSG)) (h : X8_muds_j133_66 t x3 x4 a5_ x6 x7 s = some o) : FrS W_X8_muds (fun y : Int32 × Int32 × mSG => y.2.2) ((Sum.elim (fun y : mSG => y) (fun y : Int32 × mSG => y.2))) s o := by
  unfold X8_muds_j133_66 at h
  obtain rfl := Option.some.inj h
  exact ⟨fun y hy => by obtain rfl := Sum.inl.inj hy; exact Fr.rf, fun y hy => by cases hy⟩

theorem FR_X8_muds_b66 (t : mTX) (x3 : Int32) (x4 : Int32) (a5_ : Nat) (x6 : Int32) (x7 : Int32) (s : mSG) (o : (Int32 × Int32 × mSG) ⊕ (mSG ⊕ Int32 × mSG)) (h : X8_muds_b66 t x3 x4 a5_ x6 x7 s = some o) : FrS W_X8_muds (fun y : Int32 × Int32 × mSG => y.2.2) ((Sum.elim (fun y : mSG => y) (fun y : Int32 × mSG => y.2))) s o := by
  unfold X8_muds_b66 at h
  by_cases hc : x4 ≤ x7
  · rw [if_pos hc] at h
    obtain rfl := Option.some.inj h
    exact ⟨fun y hy => (by cases hy), fun y hy => by obtain rfl := Sum.inr.inj hy; exact Fr.rf⟩
  · rw [if_neg hc] at h
    obtain ⟨-, h⟩ := m_ite h
    obtain ⟨r5, hr, h⟩ := m_bind h
    by_cases hc : r5 = true
    · rw [if_pos hc] at h
      obtain ⟨-, h⟩ := m_ite h
      obtain ⟨r6, hr, h⟩ := m_bind h
      obtain ⟨-, h⟩ := m_ite h
      obtain ⟨r7, hr, h⟩ := m_bind h
      obtain ⟨-, h⟩ := m_ite h
      obtain ⟨r8, hr, h⟩ := m_bind h
      obtain ⟨r9, hr, h⟩ := m_bind h
      have fr9 : Fr W_X8_muds s r9.2 := Fr.tr Fr.rf (Fr.mono (FR_X5_putMud_7 _ _ _ _ _ hr) rfl)
      by_cases hc : r9.1 = true
      · rw [if_pos hc] at h
        exact FrS.tr fr9 (FR_X8_muds_j133_66 _ _ _ _ _ _ _ _ h)
      · rw [if_neg hc] at h
        exact FrS.tr fr9 (FR_X8_muds_j133_66 _ _ _ _ _ _ _ _ h)
    · rw [if_neg hc] at h
      obtain rfl := Option.some.inj h
      exact ⟨fun y hy => (by cases hy), fun y hy => by obtain rfl := Sum.inr.inj hy; exact Fr.rf⟩

theorem FR_X8_muds_l66 (t : mTX) (x3 : Int32) (x4 : Int32) (a5_ : Nat) (v : Int32 × Int32 × mSG) (e : (mSG ⊕ Int32 × mSG)) (h : X8_muds_l66 t x3 x4 a5_ v = some e) : Fr W_X8_muds v.2.2 ((Sum.elim (fun y : mSG => y) (fun y : Int32 × mSG => y.2)) e) :=
  FrS.iter (hy := fun y : Int32 × Int32 × mSG => y.2.2) (he := (Sum.elim (fun y : mSG => y) (fun y : Int32 × mSG => y.2))) (fun x o hx => FR_X8_muds_b66 t x3 x4 a5_ x.1 x.2.1 x.2.2 o hx) mFU v e h
theorem FR_X8_muds (t : mTX) (x1 : Int32) (x2 : Int32) (x3 : Int32) (x4 : Int32) (s : mSG) (o : Int32 × mSG) (h : X8_muds t x1 x2 x3 x4 s = some o) : Fr W_X8_muds s o.2 := by
  unfold X8_muds at h
  by_cases hc : X8_isWithin x1 3 = true
  · rw [if_pos hc] at h
    by_cases hc : X8_isWithin x2 2 = true
    · rw [if_pos hc] at h
      by_cases hc : X8_isWithin x4 13 = true
      · rw [if_pos hc] at h
        obtain ⟨-, h⟩ := m_ite h
        obtain ⟨a1, -, h⟩ := m_bind h
        obtain ⟨-, h⟩ := m_ite h
        obtain ⟨r2, hr, h⟩ := m_bind h
        by_cases hc : r2 = true
        · rw [if_pos hc] at h
          obtain rfl := Option.some.inj h
          exact Fr.rf
        · rw [if_neg hc] at h
          obtain ⟨-, h⟩ := m_ite h
          by_cases hc : (s.1 a1 1) = x2
          · rw [if_pos hc] at h
            obtain ⟨e66, hl, h⟩ := m_bind h
            have fl66 : Fr W_X8_muds s ((Sum.elim (fun y : mSG => y) (fun y : Int32 × mSG => y.2)) e66) := Fr.tr Fr.rf (FR_X8_muds_l66 _ _ _ _ _ _ hl)
            cases e66 with
            | inl e66_0 =>
              simp only [Sum.elim_inl] at h
              obtain rfl := Option.some.inj h
              exact fl66
            | inr e66_1 =>
              simp only [Sum.elim_inr] at h
              obtain rfl := Option.some.inj h
              exact fl66
          · rw [if_neg hc] at h
            obtain rfl := Option.some.inj h
            exact Fr.rf
      · rw [if_neg hc] at h
        obtain rfl := Option.some.inj h
        exact Fr.rf
    · rw [if_neg hc] at h
      obtain rfl := Option.some.inj h
      exact Fr.rf
  · rw [if_neg hc] at h
    obtain rfl := Option.some.inj h
    exact Fr.rf

def W_X9_spell : List (Nat × Option Nat) := [(57, none)]
theorem FR_X9_spell (x1 : Int32) (x2 : Int32) (x3 : Int32) (x4 : Int32) (x5 : Int32) (x6 : Int32) (x7 : Int32) (x8 : Int32) (x9 : Int32) (s : mSG) (o : mSG) (h : X9_spell x1 x2 x3 x4 x5 x6 x7 x8 x9 s = some o) : Fr W_X9_spell s o := by
  unfold X9_spell at h
  obtain ⟨-, h⟩ := m_ite h
  obtain ⟨-, h⟩ := m_ite h
  obtain ⟨-, h⟩ := m_ite h
  obtain ⟨-, h⟩ := m_ite h
  obtain ⟨-, h⟩ := m_ite h
  obtain ⟨-, h⟩ := m_ite h
  obtain ⟨-, h⟩ := m_ite h
  obtain ⟨-, h⟩ := m_ite h
  obtain rfl := Option.some.inj h
  exact (Fr.wI (Fr.wI (Fr.wI (Fr.wI (Fr.wI (Fr.wI (Fr.wI (Fr.wI Fr.rf rfl) rfl) rfl) rfl) rfl) rfl) rfl) rfl)

def W_X9_muddy : List (Nat × Option Nat) := [(60, none)]
theorem FR_X9_muddy (x1 : Int32) (x2 : Int32) (x3 : Int32) (s : mSG) (o : mSG) (h : X9_muddy x1 x2 x3 s = some o) : Fr W_X9_muddy s o := by
  unfold X9_muddy at h
  obtain ⟨-, h⟩ := m_ite h
  obtain ⟨-, h⟩ := m_ite h
  obtain rfl := Option.some.inj h
  exact (Fr.wI (Fr.wI Fr.rf rfl) rfl)

def W_X9_mud : List (Nat × Option Nat) := [(60, none)]
theorem FR_X9_mud (x1 : Int32) (x2 : Int32) (x3 : Int32) (s : mSG) (o : Int32 × mSG) (h : X9_mud x1 x2 x3 s = some o) : Fr W_X9_mud s o.2 := by
  unfold X9_mud at h
  by_cases hc : X9_isStone x1 = true
  · rw [if_pos hc] at h
    by_cases hc : X9_isStone x2 = true
    · rw [if_pos hc] at h
      by_cases hc : x1 = x2
      · rw [if_pos hc] at h
        obtain rfl := Option.some.inj h
        exact Fr.rf
      · rw [if_neg hc] at h
        by_cases hc : X9_in x3.toInt64 0 99 = true
        · rw [if_pos hc] at h
          obtain ⟨-, h⟩ := m_ite h
          obtain ⟨r3, hr, h⟩ := m_bind h
          have fr3 : Fr W_X9_mud s r3 := Fr.tr Fr.rf (Fr.mono (FR_X9_muddy _ _ _ _ _ hr) rfl)
          obtain rfl := Option.some.inj h
          exact fr3
        · rw [if_neg hc] at h
          obtain rfl := Option.some.inj h
          exact Fr.rf
    · rw [if_neg hc] at h
      obtain rfl := Option.some.inj h
      exact Fr.rf
  · rw [if_neg hc] at h
    obtain rfl := Option.some.inj h
    exact Fr.rf

def W_X9_one : List (Nat × Option Nat) := [(56, some 15), (61, none), (62, none), (63, none), (64, none), (65, none), (66, none), (67, none)]
theorem FR_X9_one_b119 (x4 : Int32) (s : mSG) (o : (Int32 × mSG) ⊕ mSG) (h : X9_one_b119 x4 s = some o) : FrS W_X9_one (fun y : Int32 × mSG => y.2) ((fun y : mSG => y)) s o := by
  unfold X9_one_b119 at h
  by_cases hc : 5 ≤ x4
  · rw [if_pos hc] at h
    obtain rfl := Option.some.inj h
    exact ⟨fun y hy => (by cases hy), fun y hy => by obtain rfl := Sum.inr.inj hy; exact Fr.rf⟩
  · rw [if_neg hc] at h
    obtain ⟨-, h⟩ := m_ite h
    obtain ⟨-, h⟩ := m_ite h
    obtain rfl := Option.some.inj h
    exact ⟨fun y hy => by obtain rfl := Sum.inl.inj hy; exact (Fr.wI (Fr.wI Fr.rf rfl) rfl), fun y hy => by cases hy⟩

theorem FR_X9_one_l119 (v : Int32 × mSG) (e : mSG) (h : X9_one_l119 v = some e) : Fr W_X9_one v.2 ((fun y : mSG => y) e) :=
  FrS.iter (hy := fun y : Int32 × mSG => y.2) (he := (fun y : mSG => y)) (fun x o hx => FR_X9_one_b119 x.1 x.2 o hx) mFU v e h
theorem FR_X9_one (x1 : Int32) (x2 : Int32) (x3 : Int32) (s : mSG) (o : Int32 × mSG) (h : X9_one x1 x2 x3 s = some o) : Fr W_X9_one s o.2 := by
  unfold X9_one at h
  by_cases hc : X9_in x1.toInt64 0 5 = true
  · rw [if_pos hc] at h
    by_cases hc : X9_in x2.toInt64 0 999 = true
    · rw [if_pos hc] at h
      by_cases hc : X9_in x3.toInt64 0 9 = true
      · rw [if_pos hc] at h
        by_cases hc : (s.1 56 15) = 5
        · rw [if_pos hc] at h
          obtain rfl := Option.some.inj h
          exact Fr.rf
        · rw [if_neg hc] at h
          obtain ⟨-, h⟩ := m_ite h
          obtain ⟨e119, hl, h⟩ := m_bind h
          have fl119 : Fr W_X9_one s ((fun y : mSG => y) e119) := Fr.tr (Fr.wI (Fr.wI (Fr.wI (Fr.wI (Fr.wI (Fr.wI Fr.rf rfl) rfl) rfl) rfl) rfl) rfl) (FR_X9_one_l119  _ _ hl)
          obtain rfl := Option.some.inj h
          exact (Fr.wI fl119 rfl)
      · rw [if_neg hc] at h
        obtain rfl := Option.some.inj h
        exact Fr.rf
    · rw [if_neg hc] at h
      obtain rfl := Option.some.inj h
      exact Fr.rf
  · rw [if_neg hc] at h
    obtain rfl := Option.some.inj h
    exact Fr.rf

def W_X9_set : List (Nat × Option Nat) := [(56, some 16), (62, none), (63, none), (64, none), (65, none), (66, none), (68, none)]
theorem FR_X9_set_j177 (x1 : Int32) (x2 : Int32) (x3 : Int32) (p0 : Int32) (s : mSG) (o : Int32 × mSG) (h : X9_set_j177 x1 x2 x3 p0 s = some o) : Fr W_X9_set s o.2 := by
  unfold X9_set_j177 at h
  by_cases hc : x1 = 0
  · rw [if_pos hc] at h
    obtain ⟨-, h⟩ := m_ite h
    obtain rfl := Option.some.inj h
    exact (Fr.wI Fr.rf rfl)
  · rw [if_neg hc] at h
    by_cases hc : x1 = 1
    · rw [if_pos hc] at h
      obtain ⟨-, h⟩ := m_ite h
      obtain rfl := Option.some.inj h
      exact (Fr.wI Fr.rf rfl)
    · rw [if_neg hc] at h
      by_cases hc : x1 = 2
      · rw [if_pos hc] at h
        obtain ⟨-, h⟩ := m_ite h
        obtain rfl := Option.some.inj h
        exact (Fr.wI Fr.rf rfl)
      · rw [if_neg hc] at h
        by_cases hc : x1 = 3
        · rw [if_pos hc] at h
          obtain ⟨-, h⟩ := m_ite h
          obtain rfl := Option.some.inj h
          exact (Fr.wI Fr.rf rfl)
        · rw [if_neg hc] at h
          by_cases hc : x1 = 4
          · rw [if_pos hc] at h
            obtain ⟨-, h⟩ := m_ite h
            obtain rfl := Option.some.inj h
            exact (Fr.wI Fr.rf rfl)
          · rw [if_neg hc] at h
            by_cases hc : x1 = 5
            · rw [if_pos hc] at h
              obtain rfl := Option.some.inj h
              exact (Fr.wI Fr.rf rfl)
            · rw [if_neg hc] at h
              obtain ⟨-, h⟩ := m_ite h
              obtain rfl := Option.some.inj h
              exact (Fr.wI Fr.rf rfl)

theorem FR_X9_set_j81 (x1 : Int32) (x2 : Int32) (x3 : Int32) (pj0 : Int64) (pj1 : Int64) (pj2 : Int64) (s : mSG) (o : Int32 × mSG) (h : X9_set_j81 x1 x2 x3 pj0 pj1 pj2 s = some o) : Fr W_X9_set s o.2 := by
  unfold X9_set_j81 at h
  by_cases hc : X9_in pj0 pj1 pj2 = true
  · rw [if_pos hc] at h
    by_cases hc : x1 = 0
    · rw [if_pos hc] at h
      obtain ⟨-, h⟩ := m_ite h
      exact Fr.tr Fr.rf (FR_X9_set_j177 _ _ _ _ _ _ h)
    · rw [if_neg hc] at h
      by_cases hc : x1 = 1
      · rw [if_pos hc] at h
        obtain ⟨-, h⟩ := m_ite h
        exact Fr.tr Fr.rf (FR_X9_set_j177 _ _ _ _ _ _ h)
      · rw [if_neg hc] at h
        by_cases hc : x1 = 2
        · rw [if_pos hc] at h
          obtain ⟨-, h⟩ := m_ite h
          exact Fr.tr Fr.rf (FR_X9_set_j177 _ _ _ _ _ _ h)
        · rw [if_neg hc] at h
          by_cases hc : x1 = 3
          · rw [if_pos hc] at h
            obtain ⟨-, h⟩ := m_ite h
            exact Fr.tr Fr.rf (FR_X9_set_j177 _ _ _ _ _ _ h)
          · rw [if_neg hc] at h
            by_cases hc : x1 = 4
            · rw [if_pos hc] at h
              obtain ⟨-, h⟩ := m_ite h
              exact Fr.tr Fr.rf (FR_X9_set_j177 _ _ _ _ _ _ h)
            · rw [if_neg hc] at h
              by_cases hc : x1 = 5
              · rw [if_pos hc] at h
                exact Fr.tr Fr.rf (FR_X9_set_j177 _ _ _ _ _ _ h)
              · rw [if_neg hc] at h
                obtain ⟨-, h⟩ := m_ite h
                exact Fr.tr Fr.rf (FR_X9_set_j177 _ _ _ _ _ _ h)
  · rw [if_neg hc] at h
    obtain rfl := Option.some.inj h
    exact Fr.rf

theorem FR_X9_set_j43 (x1 : Int32) (x2 : Int32) (x3 : Int32) (s : mSG) (o : Int32 × mSG) (h : X9_set_j43 x1 x2 x3 s = some o) : Fr W_X9_set s o.2 := by
  unfold X9_set_j43 at h
  by_cases hc : x1 = 0
  · rw [if_pos hc] at h
    exact Fr.tr Fr.rf (FR_X9_set_j81 _ _ _ _ _ _ _ _ h)
  · rw [if_neg hc] at h
    by_cases hc : x1 = 1
    · rw [if_pos hc] at h
      exact Fr.tr Fr.rf (FR_X9_set_j81 _ _ _ _ _ _ _ _ h)
    · rw [if_neg hc] at h
      by_cases hc : x1 = 5
      · rw [if_pos hc] at h
        exact Fr.tr Fr.rf (FR_X9_set_j81 _ _ _ _ _ _ _ _ h)
      · rw [if_neg hc] at h
        exact Fr.tr Fr.rf (FR_X9_set_j81 _ _ _ _ _ _ _ _ h)

theorem FR_X9_set_j25 (x1 : Int32) (x2 : Int32) (x3 : Int32) (s : mSG) (o : Int32 × mSG) (h : X9_set_j25 x1 x2 x3 s = some o) : Fr W_X9_set s o.2 := by
  unfold X9_set_j25 at h
  by_cases hc : x1 = 6
  · rw [if_pos hc] at h
    by_cases hc : X9_in x2.toInt64 0 23 = true
    · rw [if_pos hc] at h
      exact Fr.tr Fr.rf (FR_X9_set_j43 _ _ _ _ _ h)
    · rw [if_neg hc] at h
      obtain rfl := Option.some.inj h
      exact Fr.rf
  · rw [if_neg hc] at h
    exact Fr.tr Fr.rf (FR_X9_set_j43 _ _ _ _ _ h)

theorem FR_X9_set (x1 : Int32) (x2 : Int32) (x3 : Int32) (s : mSG) (o : Int32 × mSG) (h : X9_set x1 x2 x3 s = some o) : Fr W_X9_set s o.2 := by
  unfold X9_set at h
  by_cases hc : X9_in x1.toInt64 0 6 = true
  · rw [if_pos hc] at h
    by_cases hc : 5 ≤ x1
    · rw [if_pos hc] at h
      exact Fr.tr Fr.rf (FR_X9_set_j25 _ _ _ _ _ h)
    · rw [if_neg hc] at h
      by_cases hc : X9_isOne x2 s = true
      · rw [if_pos hc] at h
        exact Fr.tr Fr.rf (FR_X9_set_j25 _ _ _ _ _ h)
      · rw [if_neg hc] at h
        obtain rfl := Option.some.inj h
        exact Fr.rf
  · rw [if_neg hc] at h
    obtain rfl := Option.some.inj h
    exact Fr.rf

def W_X9_feed : List (Nat × Option Nat) := [(56, some 6), (59, none)]
theorem FR_X9_feed (x1 : Int32) (s : mSG) (o : Int32 × mSG) (h : X9_feed x1 s = some o) : Fr W_X9_feed s o.2 := by
  unfold X9_feed at h
  by_cases hc : X9_in x1.toInt64 0 255 = true
  · rw [if_pos hc] at h
    by_cases hc : (s.1 56 6) = 160
    · rw [if_pos hc] at h
      obtain rfl := Option.some.inj h
      exact Fr.rf
    · rw [if_neg hc] at h
      obtain ⟨-, h⟩ := m_ite h
      obtain rfl := Option.some.inj h
      exact (Fr.wI (Fr.wI Fr.rf rfl) rfl)
  · rw [if_neg hc] at h
    obtain rfl := Option.some.inj h
    exact Fr.rf

def W_X9_next : List (Nat × Option Nat) := [(56, some 26), (56, some 27), (56, some 28), (56, some 29)]
theorem FR_X9_next_j26_0 (s : mSG) (o : mSG ⊕ mSG) (h : X9_next_j26_0 s = some o) : FrS W_X9_next (fun y : mSG => y) ((fun y : mSG => y)) s o := by
  unfold X9_next_j26_0 at h
  obtain rfl := Option.some.inj h
  exact ⟨fun y hy => by obtain rfl := Sum.inl.inj hy; exact (Fr.wI Fr.rf rfl), fun y hy => by cases hy⟩

theorem FR_X9_next_b0 (s : mSG) (o : mSG ⊕ mSG) (h : X9_next_b0 s = some o) : FrS W_X9_next (fun y : mSG => y) ((fun y : mSG => y)) s o := by
  unfold X9_next_b0 at h
  obtain ⟨r1, hr, h⟩ := m_bind h
  by_cases hc : r1 = 32
  · rw [if_pos hc] at h
    exact FrS.tr Fr.rf (FR_X9_next_j26_0  _ _ h)
  · rw [if_neg hc] at h
    obtain ⟨r3, hr, h⟩ := m_bind h
    by_cases hc : r3 = 10
    · rw [if_pos hc] at h
      exact FrS.tr Fr.rf (FR_X9_next_j26_0  _ _ h)
    · rw [if_neg hc] at h
      obtain rfl := Option.some.inj h
      exact ⟨fun y hy => (by cases hy), fun y hy => by obtain rfl := Sum.inr.inj hy; exact Fr.rf⟩

theorem FR_X9_next_l0 (v : mSG) (e : mSG) (h : X9_next_l0 v = some e) : Fr W_X9_next v ((fun y : mSG => y) e) :=
  FrS.iter (hy := fun y : mSG => y) (he := (fun y : mSG => y)) (fun x o hx => FR_X9_next_b0 x o hx) mFU v e h
theorem FR_X9_next_b100 (s : mSG) (o : mSG ⊕ mSG) (h : X9_next_b100 s = some o) : FrS W_X9_next (fun y : mSG => y) ((fun y : mSG => y)) s o := by
  unfold X9_next_b100 at h
  obtain ⟨r18, hr, h⟩ := m_bind h
  by_cases hc : X9_in r18.toInt64 97 122 = true
  · rw [if_pos hc] at h
    obtain rfl := Option.some.inj h
    exact ⟨fun y hy => by obtain rfl := Sum.inl.inj hy; exact (Fr.wI Fr.rf rfl), fun y hy => by cases hy⟩
  · rw [if_neg hc] at h
    obtain rfl := Option.some.inj h
    exact ⟨fun y hy => (by cases hy), fun y hy => by obtain rfl := Sum.inr.inj hy; exact Fr.rf⟩

theorem FR_X9_next_l100 (v : mSG) (e : mSG) (h : X9_next_l100 v = some e) : Fr W_X9_next v ((fun y : mSG => y) e) :=
  FrS.iter (hy := fun y : mSG => y) (he := (fun y : mSG => y)) (fun x o hx => FR_X9_next_b100 x o hx) mFU v e h
theorem FR_X9_next_j216_160 (x2 : Int32) (pj1 : Int64) (s : mSG) (o : (Int32 × mSG) ⊕ Int32 × mSG) (h : X9_next_j216_160 x2 pj1 s = some o) : FrS W_X9_next (fun y : Int32 × mSG => y.2) ((fun y : Int32 × mSG => y.2)) s o := by
  unfold X9_next_j216_160 at h
  obtain rfl := Option.some.inj h
  exact ⟨fun y hy => by obtain rfl := Sum.inl.inj hy; exact (Fr.wI (Fr.wJ Fr.rf rfl) rfl), fun y hy => by cases hy⟩

theorem FR_X9_next_b160 (x2 : Int32) (s : mSG) (o : (Int32 × mSG) ⊕ Int32 × mSG) (h : X9_next_b160 x2 s = some o) : FrS W_X9_next (fun y : Int32 × mSG => y.2) ((fun y : Int32 × mSG => y.2)) s o := by
  unfold X9_next_b160 at h
  obtain ⟨r15, hr, h⟩ := m_bind h
  by_cases hc : X9_in r15.toInt64 48 57 = true
  · rw [if_pos hc] at h
    by_cases hc : 4 ≤ x2
    · rw [if_pos hc] at h
      exact FrS.tr Fr.rf (FR_X9_next_j216_160 _ _ _ _ h)
    · rw [if_neg hc] at h
      obtain ⟨r17, hr, h⟩ := m_bind h
      exact FrS.tr Fr.rf (FR_X9_next_j216_160 _ _ _ _ h)
  · rw [if_neg hc] at h
    obtain rfl := Option.some.inj h
    exact ⟨fun y hy => (by cases hy), fun y hy => by obtain rfl := Sum.inr.inj hy; exact Fr.rf⟩

theorem FR_X9_next_l160 (v : Int32 × mSG) (e : Int32 × mSG) (h : X9_next_l160 v = some e) : Fr W_X9_next v.2 ((fun y : Int32 × mSG => y.2) e) :=
  FrS.iter (hy := fun y : Int32 × mSG => y.2) (he := (fun y : Int32 × mSG => y.2)) (fun x o hx => FR_X9_next_b160 x.1 x.2 o hx) mFU v e h
theorem FR_X9_next_j300 (x1 : Int32) (s : mSG) (o : mSG) (h : X9_next_j300 x1 s = some o) : Fr W_X9_next s o := by
  unfold X9_next_j300 at h
  obtain rfl := Option.some.inj h
  exact (Fr.wI (Fr.wJ (Fr.wI Fr.rf rfl) rfl) rfl)

theorem FR_X9_next (s : mSG) (o : mSG) (h : X9_next s = some o) : Fr W_X9_next s o := by
  unfold X9_next at h
  obtain ⟨e0, hl, h⟩ := m_bind h
  have fl0 : Fr W_X9_next s ((fun y : mSG => y) e0) := Fr.tr Fr.rf (FR_X9_next_l0  _ _ hl)
  obtain ⟨r5, hr, h⟩ := m_bind h
  by_cases hc : 0 ≤ r5
  · rw [if_pos hc] at h
    by_cases hc : X9_in r5.toInt64 97 122 = true
    · rw [if_pos hc] at h
      obtain ⟨e100, hl, h⟩ := m_bind h
      have fl100 : Fr W_X9_next s ((fun y : mSG => y) e100) := Fr.tr (Fr.wI (Fr.wI (Fr.wI fl0 rfl) rfl) rfl) (FR_X9_next_l100  _ _ hl)
      obtain rfl := Option.some.inj h
      exact fl100
    · rw [if_neg hc] at h
      by_cases hc : X9_in r5.toInt64 48 57 = true
      · rw [if_pos hc] at h
        obtain ⟨e160, hl, h⟩ := m_bind h
        have fl160 : Fr W_X9_next s ((fun y : Int32 × mSG => y.2) e160) := Fr.tr (Fr.wJ (Fr.wI (Fr.wI (Fr.wI fl0 rfl) rfl) rfl) rfl) (FR_X9_next_l160  _ _ hl)
        by_cases hc : e160.1 ≤ 4
        · rw [if_pos hc] at h
          obtain rfl := Option.some.inj h
          exact (Fr.wI fl160 rfl)
        · rw [if_neg hc] at h
          obtain rfl := Option.some.inj h
          exact (Fr.wI fl160 rfl)
      · rw [if_neg hc] at h
        by_cases hc : r5 = 40
        · rw [if_pos hc] at h
          exact Fr.tr (Fr.wI (Fr.wI fl0 rfl) rfl) (FR_X9_next_j300 _ _ _ h)
        · rw [if_neg hc] at h
          by_cases hc : r5 = 41
          · rw [if_pos hc] at h
            exact Fr.tr (Fr.wI (Fr.wI fl0 rfl) rfl) (FR_X9_next_j300 _ _ _ h)
          · rw [if_neg hc] at h
            by_cases hc : r5 = 59
            · rw [if_pos hc] at h
              exact Fr.tr (Fr.wI (Fr.wI fl0 rfl) rfl) (FR_X9_next_j300 _ _ _ h)
            · rw [if_neg hc] at h
              by_cases hc : r5 = 43
              · rw [if_pos hc] at h
                exact Fr.tr (Fr.wI (Fr.wI fl0 rfl) rfl) (FR_X9_next_j300 _ _ _ h)
              · rw [if_neg hc] at h
                by_cases hc : r5 = 45
                · rw [if_pos hc] at h
                  exact Fr.tr (Fr.wI (Fr.wI fl0 rfl) rfl) (FR_X9_next_j300 _ _ _ h)
                · rw [if_neg hc] at h
                  by_cases hc : r5 = 42
                  · rw [if_pos hc] at h
                    exact Fr.tr (Fr.wI (Fr.wI fl0 rfl) rfl) (FR_X9_next_j300 _ _ _ h)
                  · rw [if_neg hc] at h
                    by_cases hc : r5 = 60
                    · rw [if_pos hc] at h
                      exact Fr.tr (Fr.wI (Fr.wI fl0 rfl) rfl) (FR_X9_next_j300 _ _ _ h)
                    · rw [if_neg hc] at h
                      by_cases hc : r5 = 61
                      · rw [if_pos hc] at h
                        exact Fr.tr (Fr.wI (Fr.wI fl0 rfl) rfl) (FR_X9_next_j300 _ _ _ h)
                      · rw [if_neg hc] at h
                        obtain rfl := Option.some.inj h
                        exact (Fr.wI (Fr.wI fl0 rfl) rfl)
  · rw [if_neg hc] at h
    obtain rfl := Option.some.inj h
    exact (Fr.wI (Fr.wI (Fr.wI (Fr.wI fl0 rfl) rfl) rfl) rfl)

def W_X9_fail : List (Nat × Option Nat) := [(56, some 31), (56, some 32)]
theorem FR_X9_fail (s : mSG) (o : mSG) (h : X9_fail s = some o) : Fr W_X9_fail s o := by
  unfold X9_fail at h
  by_cases hc : (s.1 56 31) = 0
  · rw [if_pos hc] at h
    obtain rfl := Option.some.inj h
    exact (Fr.wI (Fr.wI Fr.rf rfl) rfl)
  · rw [if_neg hc] at h
    obtain rfl := Option.some.inj h
    exact Fr.rf

def W_X9_opens : List (Nat × Option Nat) := [(56, some 26), (56, some 27), (56, some 28), (56, some 29), (56, some 30), (56, some 31), (56, some 32)]
theorem FR_X9_opens (s : mSG) (o : Bool × mSG) (h : X9_opens s = some o) : Fr W_X9_opens s o.2 := by
  unfold X9_opens at h
  by_cases hc : (s.1 56 30) = 5
  · rw [if_pos hc] at h
    obtain ⟨r2, hr, h⟩ := m_bind h
    have fr2 : Fr W_X9_opens s r2 := Fr.tr Fr.rf (Fr.mono (FR_X9_fail _ _ hr) rfl)
    obtain rfl := Option.some.inj h
    exact fr2
  · rw [if_neg hc] at h
    obtain ⟨r3, hr, h⟩ := m_bind h
    have fr3 : Fr W_X9_opens s r3 := Fr.tr (Fr.wI Fr.rf rfl) (Fr.mono (FR_X9_next _ _ hr) rfl)
    obtain rfl := Option.some.inj h
    exact fr3

def W_X9_name : List (Nat × Option Nat) := [(56, some 31), (56, some 32)]
theorem FR_X9_name (s : mSG) (o : Int32 × mSG) (h : X9_name s = some o) : Fr W_X9_name s o.2 := by
  unfold X9_name at h
  obtain ⟨r1, hr, h⟩ := m_bind h
  by_cases hc : r1 = true
  · rw [if_pos hc] at h
    obtain rfl := Option.some.inj h
    exact Fr.rf
  · rw [if_neg hc] at h
    obtain ⟨r2, hr, h⟩ := m_bind h
    by_cases hc : r2 = true
    · rw [if_pos hc] at h
      obtain rfl := Option.some.inj h
      exact Fr.rf
    · rw [if_neg hc] at h
      obtain ⟨r3, hr, h⟩ := m_bind h
      by_cases hc : r3 = true
      · rw [if_pos hc] at h
        obtain rfl := Option.some.inj h
        exact Fr.rf
      · rw [if_neg hc] at h
        obtain ⟨r4, hr, h⟩ := m_bind h
        by_cases hc : r4 = true
        · rw [if_pos hc] at h
          obtain rfl := Option.some.inj h
          exact Fr.rf
        · rw [if_neg hc] at h
          obtain ⟨r5, hr, h⟩ := m_bind h
          by_cases hc : r5 = true
          · rw [if_pos hc] at h
            obtain rfl := Option.some.inj h
            exact Fr.rf
          · rw [if_neg hc] at h
            obtain ⟨r6, hr, h⟩ := m_bind h
            by_cases hc : r6 = true
            · rw [if_pos hc] at h
              obtain rfl := Option.some.inj h
              exact Fr.rf
            · rw [if_neg hc] at h
              obtain ⟨r7, hr, h⟩ := m_bind h
              have fr7 : Fr W_X9_name s r7 := Fr.tr Fr.rf (Fr.mono (FR_X9_fail _ _ hr) rfl)
              obtain rfl := Option.some.inj h
              exact fr7

def W_X9_atom5 : List (Nat × Option Nat) := [(56, some 26), (56, some 27), (56, some 28), (56, some 29), (56, some 30), (56, some 31), (56, some 32)]
theorem FR_X9_atom5_j98 (x1 : Int32) (s : mSG) (o : Int32 × mSG) (h : X9_atom5_j98 x1 s = some o) : Fr W_X9_atom5 s o.2 := by
  unfold X9_atom5_j98 at h
  obtain ⟨r11, hr, h⟩ := m_bind h
  have fr11 : Fr W_X9_atom5 s r11 := Fr.tr Fr.rf (Fr.mono (FR_X9_fail _ _ hr) rfl)
  obtain rfl := Option.some.inj h
  exact fr11

theorem FR_X9_atom5_j64 (x1 : Int32) (s : mSG) (o : Int32 × mSG) (h : X9_atom5_j64 x1 s = some o) : Fr W_X9_atom5 s o.2 := by
  unfold X9_atom5_j64 at h
  by_cases hc : (s.1 56 31) = 0
  · rw [if_pos hc] at h
    by_cases hc : (s.1 56 27) = 1
    · rw [if_pos hc] at h
      obtain ⟨r8, hr, h⟩ := m_bind h
      have fr8 : Fr W_X9_atom5 s r8.2 := Fr.tr Fr.rf (Fr.mono (FR_X9_name _ _ hr) rfl)
      by_cases hc : (r8.2.1 56 31) = 0
      · rw [if_pos hc] at h
        obtain ⟨r10, hr, h⟩ := m_bind h
        have fr10 : Fr W_X9_atom5 s r10 := Fr.tr fr8 (Fr.mono (FR_X9_next _ _ hr) rfl)
        obtain rfl := Option.some.inj h
        exact fr10
      · rw [if_neg hc] at h
        obtain rfl := Option.some.inj h
        exact fr8
    · rw [if_neg hc] at h
      exact Fr.tr Fr.rf (FR_X9_atom5_j98 _ _ _ h)
  · rw [if_neg hc] at h
    exact Fr.tr Fr.rf (FR_X9_atom5_j98 _ _ _ h)

theorem FR_X9_atom5 (s : mSG) (o : Int32 × mSG) (h : X9_atom5 s = some o) : Fr W_X9_atom5 s o.2 := by
  unfold X9_atom5 at h
  by_cases hc : X9_isSign 45 s = true
  · rw [if_pos hc] at h
    obtain ⟨r5, hr, h⟩ := m_bind h
    have fr5 : Fr W_X9_atom5 s r5.2 := Fr.tr Fr.rf (Fr.mono (FR_X9_opens _ _ hr) rfl)
    obtain rfl := Option.some.inj h
    exact fr5
  · rw [if_neg hc] at h
    by_cases hc : X9_isSign 40 s = true
    · rw [if_pos hc] at h
      obtain ⟨r4, hr, h⟩ := m_bind h
      have fr4 : Fr W_X9_atom5 s r4.2 := Fr.tr Fr.rf (Fr.mono (FR_X9_opens _ _ hr) rfl)
      obtain rfl := Option.some.inj h
      exact fr4
    · rw [if_neg hc] at h
      by_cases hc : (s.1 56 31) = 0
      · rw [if_pos hc] at h
        by_cases hc : (s.1 56 27) = 2
        · rw [if_pos hc] at h
          obtain ⟨r3, hr, h⟩ := m_bind h
          have fr3 : Fr W_X9_atom5 s r3 := Fr.tr Fr.rf (Fr.mono (FR_X9_next _ _ hr) rfl)
          obtain rfl := Option.some.inj h
          exact fr3
        · rw [if_neg hc] at h
          exact Fr.tr Fr.rf (FR_X9_atom5_j64 _ _ _ h)
      · rw [if_neg hc] at h
        exact Fr.tr Fr.rf (FR_X9_atom5_j64 _ _ _ h)

def W_X9_term5 : List (Nat × Option Nat) := [(56, some 26), (56, some 27), (56, some 28), (56, some 29), (56, some 30), (56, some 31), (56, some 32)]
theorem FR_X9_term5_b5 (x1 : Int32) (s : mSG) (o : (Int32 × mSG) ⊕ Int32 × mSG) (h : X9_term5_b5 x1 s = some o) : FrS W_X9_term5 (fun y : Int32 × mSG => y.2) ((fun y : Int32 × mSG => y.2)) s o := by
  unfold X9_term5_b5 at h
  by_cases hc : X9_isSign 42 s = true
  · rw [if_pos hc] at h
    obtain ⟨r2, hr, h⟩ := m_bind h
    have fr2 : Fr W_X9_term5 s r2 := Fr.tr Fr.rf (Fr.mono (FR_X9_next _ _ hr) rfl)
    obtain ⟨r3, hr, h⟩ := m_bind h
    have fr3 : Fr W_X9_term5 s r3.2 := Fr.tr fr2 (Fr.mono (FR_X9_atom5 _ _ hr) rfl)
    obtain rfl := Option.some.inj h
    exact ⟨fun y hy => by obtain rfl := Sum.inl.inj hy; exact fr3, fun y hy => by cases hy⟩
  · rw [if_neg hc] at h
    obtain rfl := Option.some.inj h
    exact ⟨fun y hy => (by cases hy), fun y hy => by obtain rfl := Sum.inr.inj hy; exact Fr.rf⟩

theorem FR_X9_term5_l5 (v : Int32 × mSG) (e : Int32 × mSG) (h : X9_term5_l5 v = some e) : Fr W_X9_term5 v.2 ((fun y : Int32 × mSG => y.2) e) :=
  FrS.iter (hy := fun y : Int32 × mSG => y.2) (he := (fun y : Int32 × mSG => y.2)) (fun x o hx => FR_X9_term5_b5 x.1 x.2 o hx) mFU v e h
theorem FR_X9_term5 (s : mSG) (o : Int32 × mSG) (h : X9_term5 s = some o) : Fr W_X9_term5 s o.2 := by
  unfold X9_term5 at h
  obtain ⟨r1, hr, h⟩ := m_bind h
  have fr1 : Fr W_X9_term5 s r1.2 := Fr.tr Fr.rf (Fr.mono (FR_X9_atom5 _ _ hr) rfl)
  obtain ⟨e5, hl, h⟩ := m_bind h
  have fl5 : Fr W_X9_term5 s ((fun y : Int32 × mSG => y.2) e5) := Fr.tr fr1 (FR_X9_term5_l5  _ _ hl)
  obtain rfl := Option.some.inj h
  exact fl5

def W_X9_added5 : List (Nat × Option Nat) := [(56, some 26), (56, some 27), (56, some 28), (56, some 29), (56, some 30), (56, some 31), (56, some 32)]
theorem FR_X9_added5_j62_5 (p0 : Int32) (s : mSG) (o : (Int32 × mSG) ⊕ Int32 × mSG) (h : X9_added5_j62_5 p0 s = some o) : FrS W_X9_added5 (fun y : Int32 × mSG => y.2) ((fun y : Int32 × mSG => y.2)) s o := by
  unfold X9_added5_j62_5 at h
  obtain rfl := Option.some.inj h
  exact ⟨fun y hy => by obtain rfl := Sum.inl.inj hy; exact Fr.rf, fun y hy => by cases hy⟩

theorem FR_X9_added5_j39_5 (x1 : Int32) (p0 : Int32) (s : mSG) (o : (Int32 × mSG) ⊕ Int32 × mSG) (h : X9_added5_j39_5 x1 p0 s = some o) : FrS W_X9_added5 (fun y : Int32 × mSG => y.2) ((fun y : Int32 × mSG => y.2)) s o := by
  unfold X9_added5_j39_5 at h
  obtain ⟨r3, hr, h⟩ := m_bind h
  have fr3 : Fr W_X9_added5 s r3 := Fr.tr Fr.rf (Fr.mono (FR_X9_next _ _ hr) rfl)
  obtain ⟨r4, hr, h⟩ := m_bind h
  have fr4 : Fr W_X9_added5 s r4.2 := Fr.tr fr3 (Fr.mono (FR_X9_term5 _ _ hr) rfl)
  by_cases hc : p0 = 0
  · rw [if_pos hc] at h
    exact FrS.tr fr4 (FR_X9_added5_j62_5 _ _ _ h)
  · rw [if_neg hc] at h
    exact FrS.tr fr4 (FR_X9_added5_j62_5 _ _ _ h)

theorem FR_X9_added5_j23_5 (x1 : Int32) (s : mSG) (o : (Int32 × mSG) ⊕ Int32 × mSG) (h : X9_added5_j23_5 x1 s = some o) : FrS W_X9_added5 (fun y : Int32 × mSG => y.2) ((fun y : Int32 × mSG => y.2)) s o := by
  unfold X9_added5_j23_5 at h
  by_cases hc : (lg_cmp (s.2.2 56 29) 43) = 0
  · rw [if_pos hc] at h
    exact FrS.tr Fr.rf (FR_X9_added5_j39_5 _ _ _ _ h)
  · rw [if_neg hc] at h
    exact FrS.tr Fr.rf (FR_X9_added5_j39_5 _ _ _ _ h)

theorem FR_X9_added5_b5 (x1 : Int32) (s : mSG) (o : (Int32 × mSG) ⊕ Int32 × mSG) (h : X9_added5_b5 x1 s = some o) : FrS W_X9_added5 (fun y : Int32 × mSG => y.2) ((fun y : Int32 × mSG => y.2)) s o := by
  unfold X9_added5_b5 at h
  by_cases hc : X9_isSign 43 s = true
  · rw [if_pos hc] at h
    exact FrS.tr Fr.rf (FR_X9_added5_j23_5 _ _ _ h)
  · rw [if_neg hc] at h
    by_cases hc : X9_isSign 45 s = true
    · rw [if_pos hc] at h
      exact FrS.tr Fr.rf (FR_X9_added5_j23_5 _ _ _ h)
    · rw [if_neg hc] at h
      obtain rfl := Option.some.inj h
      exact ⟨fun y hy => (by cases hy), fun y hy => by obtain rfl := Sum.inr.inj hy; exact Fr.rf⟩

theorem FR_X9_added5_l5 (v : Int32 × mSG) (e : Int32 × mSG) (h : X9_added5_l5 v = some e) : Fr W_X9_added5 v.2 ((fun y : Int32 × mSG => y.2) e) :=
  FrS.iter (hy := fun y : Int32 × mSG => y.2) (he := (fun y : Int32 × mSG => y.2)) (fun x o hx => FR_X9_added5_b5 x.1 x.2 o hx) mFU v e h
theorem FR_X9_added5 (s : mSG) (o : Int32 × mSG) (h : X9_added5 s = some o) : Fr W_X9_added5 s o.2 := by
  unfold X9_added5 at h
  obtain ⟨r1, hr, h⟩ := m_bind h
  have fr1 : Fr W_X9_added5 s r1.2 := Fr.tr Fr.rf (Fr.mono (FR_X9_term5 _ _ hr) rfl)
  obtain ⟨e5, hl, h⟩ := m_bind h
  have fl5 : Fr W_X9_added5 s ((fun y : Int32 × mSG => y.2) e5) := Fr.tr fr1 (FR_X9_added5_l5  _ _ hl)
  obtain rfl := Option.some.inj h
  exact fl5

def W_X9_not5 : List (Nat × Option Nat) := [(56, some 26), (56, some 27), (56, some 28), (56, some 29), (56, some 30), (56, some 31), (56, some 32)]
theorem FR_X9_not5_j66 (x1 : Int32) (p0 : Int32) (s : mSG) (o : Int32 × mSG) (h : X9_not5_j66 x1 p0 s = some o) : Fr W_X9_not5 s o.2 := by
  unfold X9_not5_j66 at h
  obtain ⟨r5, hr, h⟩ := m_bind h
  have fr5 : Fr W_X9_not5 s r5 := Fr.tr Fr.rf (Fr.mono (FR_X9_next _ _ hr) rfl)
  obtain ⟨r6, hr, h⟩ := m_bind h
  have fr6 : Fr W_X9_not5 s r6.2 := Fr.tr fr5 (Fr.mono (FR_X9_added5 _ _ hr) rfl)
  by_cases hc : p0 = 0
  · rw [if_pos hc] at h
    by_cases hc : x1 = r6.1
    · rw [if_pos hc] at h
      obtain rfl := Option.some.inj h
      exact fr6
    · rw [if_neg hc] at h
      obtain rfl := Option.some.inj h
      exact fr6
  · rw [if_neg hc] at h
    by_cases hc : r6.1 ≤ x1
    · rw [if_pos hc] at h
      obtain rfl := Option.some.inj h
      exact fr6
    · rw [if_neg hc] at h
      obtain rfl := Option.some.inj h
      exact fr6

theorem FR_X9_not5_j50 (x1 : Int32) (s : mSG) (o : Int32 × mSG) (h : X9_not5_j50 x1 s = some o) : Fr W_X9_not5 s o.2 := by
  unfold X9_not5_j50 at h
  by_cases hc : (lg_cmp (s.2.2 56 29) 60) = 0
  · rw [if_pos hc] at h
    exact Fr.tr Fr.rf (FR_X9_not5_j66 _ _ _ _ h)
  · rw [if_neg hc] at h
    exact Fr.tr Fr.rf (FR_X9_not5_j66 _ _ _ _ h)

theorem FR_X9_not5 (s : mSG) (o : Int32 × mSG) (h : X9_not5 s = some o) : Fr W_X9_not5 s o.2 := by
  unfold X9_not5 at h
  obtain ⟨r1, hr, h⟩ := m_bind h
  by_cases hc : r1 = true
  · rw [if_pos hc] at h
    obtain ⟨r3, hr, h⟩ := m_bind h
    have fr3 : Fr W_X9_not5 s r3.2 := Fr.tr Fr.rf (Fr.mono (FR_X9_opens _ _ hr) rfl)
    obtain rfl := Option.some.inj h
    exact fr3
  · rw [if_neg hc] at h
    obtain ⟨r2, hr, h⟩ := m_bind h
    have fr2 : Fr W_X9_not5 s r2.2 := Fr.tr Fr.rf (Fr.mono (FR_X9_added5 _ _ hr) rfl)
    by_cases hc : X9_isSign 60 r2.2 = true
    · rw [if_pos hc] at h
      exact Fr.tr fr2 (FR_X9_not5_j50 _ _ _ h)
    · rw [if_neg hc] at h
      by_cases hc : X9_isSign 61 r2.2 = true
      · rw [if_pos hc] at h
        exact Fr.tr fr2 (FR_X9_not5_j50 _ _ _ h)
      · rw [if_neg hc] at h
        obtain rfl := Option.some.inj h
        exact fr2

def W_X9_both5 : List (Nat × Option Nat) := [(56, some 26), (56, some 27), (56, some 28), (56, some 29), (56, some 30), (56, some 31), (56, some 32)]
theorem FR_X9_both5_j45_5 (p0 : Int32) (s : mSG) (o : (Int32 × mSG) ⊕ Int32 × mSG) (h : X9_both5_j45_5 p0 s = some o) : FrS W_X9_both5 (fun y : Int32 × mSG => y.2) ((fun y : Int32 × mSG => y.2)) s o := by
  unfold X9_both5_j45_5 at h
  obtain rfl := Option.some.inj h
  exact ⟨fun y hy => by obtain rfl := Sum.inl.inj hy; exact Fr.rf, fun y hy => by cases hy⟩

theorem FR_X9_both5_j44_5 (s : mSG) (o : (Int32 × mSG) ⊕ Int32 × mSG) (h : X9_both5_j44_5 s = some o) : FrS W_X9_both5 (fun y : Int32 × mSG => y.2) ((fun y : Int32 × mSG => y.2)) s o := by
  unfold X9_both5_j44_5 at h
  exact FrS.tr Fr.rf (FR_X9_both5_j45_5 _ _ _ h)

theorem FR_X9_both5_b5 (x1 : Int32) (s : mSG) (o : (Int32 × mSG) ⊕ Int32 × mSG) (h : X9_both5_b5 x1 s = some o) : FrS W_X9_both5 (fun y : Int32 × mSG => y.2) ((fun y : Int32 × mSG => y.2)) s o := by
  unfold X9_both5_b5 at h
  obtain ⟨r2, hr, h⟩ := m_bind h
  by_cases hc : r2 = true
  · rw [if_pos hc] at h
    obtain ⟨r3, hr, h⟩ := m_bind h
    have fr3 : Fr W_X9_both5 s r3 := Fr.tr Fr.rf (Fr.mono (FR_X9_next _ _ hr) rfl)
    obtain ⟨r4, hr, h⟩ := m_bind h
    have fr4 : Fr W_X9_both5 s r4.2 := Fr.tr fr3 (Fr.mono (FR_X9_not5 _ _ hr) rfl)
    by_cases hc : x1 = 0
    · rw [if_pos hc] at h
      exact FrS.tr fr4 (FR_X9_both5_j44_5  _ _ h)
    · rw [if_neg hc] at h
      by_cases hc : r4.1 = 0
      · rw [if_pos hc] at h
        exact FrS.tr fr4 (FR_X9_both5_j44_5  _ _ h)
      · rw [if_neg hc] at h
        exact FrS.tr fr4 (FR_X9_both5_j45_5 _ _ _ h)
  · rw [if_neg hc] at h
    obtain rfl := Option.some.inj h
    exact ⟨fun y hy => (by cases hy), fun y hy => by obtain rfl := Sum.inr.inj hy; exact Fr.rf⟩

theorem FR_X9_both5_l5 (v : Int32 × mSG) (e : Int32 × mSG) (h : X9_both5_l5 v = some e) : Fr W_X9_both5 v.2 ((fun y : Int32 × mSG => y.2) e) :=
  FrS.iter (hy := fun y : Int32 × mSG => y.2) (he := (fun y : Int32 × mSG => y.2)) (fun x o hx => FR_X9_both5_b5 x.1 x.2 o hx) mFU v e h
theorem FR_X9_both5 (s : mSG) (o : Int32 × mSG) (h : X9_both5 s = some o) : Fr W_X9_both5 s o.2 := by
  unfold X9_both5 at h
  obtain ⟨r1, hr, h⟩ := m_bind h
  have fr1 : Fr W_X9_both5 s r1.2 := Fr.tr Fr.rf (Fr.mono (FR_X9_not5 _ _ hr) rfl)
  obtain ⟨e5, hl, h⟩ := m_bind h
  have fl5 : Fr W_X9_both5 s ((fun y : Int32 × mSG => y.2) e5) := Fr.tr fr1 (FR_X9_both5_l5  _ _ hl)
  obtain rfl := Option.some.inj h
  exact fl5

def W_X9_either5 : List (Nat × Option Nat) := [(56, some 26), (56, some 27), (56, some 28), (56, some 29), (56, some 30), (56, some 31), (56, some 32)]
theorem FR_X9_either5_j44_5 (p0 : Int32) (s : mSG) (o : (Int32 × mSG) ⊕ Int32 × mSG) (h : X9_either5_j44_5 p0 s = some o) : FrS W_X9_either5 (fun y : Int32 × mSG => y.2) ((fun y : Int32 × mSG => y.2)) s o := by
  unfold X9_either5_j44_5 at h
  obtain rfl := Option.some.inj h
  exact ⟨fun y hy => by obtain rfl := Sum.inl.inj hy; exact Fr.rf, fun y hy => by cases hy⟩

theorem FR_X9_either5_j39_5 (s : mSG) (o : (Int32 × mSG) ⊕ Int32 × mSG) (h : X9_either5_j39_5 s = some o) : FrS W_X9_either5 (fun y : Int32 × mSG => y.2) ((fun y : Int32 × mSG => y.2)) s o := by
  unfold X9_either5_j39_5 at h
  exact FrS.tr Fr.rf (FR_X9_either5_j44_5 _ _ _ h)

theorem FR_X9_either5_b5 (x1 : Int32) (s : mSG) (o : (Int32 × mSG) ⊕ Int32 × mSG) (h : X9_either5_b5 x1 s = some o) : FrS W_X9_either5 (fun y : Int32 × mSG => y.2) ((fun y : Int32 × mSG => y.2)) s o := by
  unfold X9_either5_b5 at h
  obtain ⟨r2, hr, h⟩ := m_bind h
  by_cases hc : r2 = true
  · rw [if_pos hc] at h
    obtain ⟨r3, hr, h⟩ := m_bind h
    have fr3 : Fr W_X9_either5 s r3 := Fr.tr Fr.rf (Fr.mono (FR_X9_next _ _ hr) rfl)
    obtain ⟨r4, hr, h⟩ := m_bind h
    have fr4 : Fr W_X9_either5 s r4.2 := Fr.tr fr3 (Fr.mono (FR_X9_both5 _ _ hr) rfl)
    by_cases hc : x1 = 0
    · rw [if_pos hc] at h
      by_cases hc : r4.1 = 0
      · rw [if_pos hc] at h
        exact FrS.tr fr4 (FR_X9_either5_j44_5 _ _ _ h)
      · rw [if_neg hc] at h
        exact FrS.tr fr4 (FR_X9_either5_j39_5  _ _ h)
    · rw [if_neg hc] at h
      exact FrS.tr fr4 (FR_X9_either5_j39_5  _ _ h)
  · rw [if_neg hc] at h
    obtain rfl := Option.some.inj h
    exact ⟨fun y hy => (by cases hy), fun y hy => by obtain rfl := Sum.inr.inj hy; exact Fr.rf⟩

theorem FR_X9_either5_l5 (v : Int32 × mSG) (e : Int32 × mSG) (h : X9_either5_l5 v = some e) : Fr W_X9_either5 v.2 ((fun y : Int32 × mSG => y.2) e) :=
  FrS.iter (hy := fun y : Int32 × mSG => y.2) (he := (fun y : Int32 × mSG => y.2)) (fun x o hx => FR_X9_either5_b5 x.1 x.2 o hx) mFU v e h
theorem FR_X9_either5 (s : mSG) (o : Int32 × mSG) (h : X9_either5 s = some o) : Fr W_X9_either5 s o.2 := by
  unfold X9_either5 at h
  obtain ⟨r1, hr, h⟩ := m_bind h
  have fr1 : Fr W_X9_either5 s r1.2 := Fr.tr Fr.rf (Fr.mono (FR_X9_both5 _ _ hr) rfl)
  obtain ⟨e5, hl, h⟩ := m_bind h
  have fl5 : Fr W_X9_either5 s ((fun y : Int32 × mSG => y.2) e5) := Fr.tr fr1 (FR_X9_either5_l5  _ _ hl)
  obtain rfl := Option.some.inj h
  exact fl5

def W_X9_atom4 : List (Nat × Option Nat) := [(56, some 26), (56, some 27), (56, some 28), (56, some 29), (56, some 30), (56, some 31), (56, some 32)]
theorem FR_X9_atom4_j71 (x1 : Int32) (s : mSG) (o : Int32 × mSG) (h : X9_atom4_j71 x1 s = some o) : Fr W_X9_atom4 s o.2 := by
  unfold X9_atom4_j71 at h
  by_cases hc : (s.1 56 31) = 0
  · rw [if_pos hc] at h
    obtain ⟨r16, hr, h⟩ := m_bind h
    have fr16 : Fr W_X9_atom4 s r16 := Fr.tr (Fr.wI Fr.rf rfl) (Fr.mono (FR_X9_next _ _ hr) rfl)
    obtain rfl := Option.some.inj h
    exact fr16
  · rw [if_neg hc] at h
    obtain rfl := Option.some.inj h
    exact (Fr.wI Fr.rf rfl)

theorem FR_X9_atom4_j157 (x1 : Int32) (s : mSG) (o : Int32 × mSG) (h : X9_atom4_j157 x1 s = some o) : Fr W_X9_atom4 s o.2 := by
  unfold X9_atom4_j157 at h
  obtain ⟨r14, hr, h⟩ := m_bind h
  have fr14 : Fr W_X9_atom4 s r14 := Fr.tr Fr.rf (Fr.mono (FR_X9_fail _ _ hr) rfl)
  obtain rfl := Option.some.inj h
  exact fr14

theorem FR_X9_atom4_j123 (x1 : Int32) (s : mSG) (o : Int32 × mSG) (h : X9_atom4_j123 x1 s = some o) : Fr W_X9_atom4 s o.2 := by
  unfold X9_atom4_j123 at h
  by_cases hc : (s.1 56 31) = 0
  · rw [if_pos hc] at h
    by_cases hc : (s.1 56 27) = 1
    · rw [if_pos hc] at h
      obtain ⟨r11, hr, h⟩ := m_bind h
      have fr11 : Fr W_X9_atom4 s r11.2 := Fr.tr Fr.rf (Fr.mono (FR_X9_name _ _ hr) rfl)
      by_cases hc : (r11.2.1 56 31) = 0
      · rw [if_pos hc] at h
        obtain ⟨r13, hr, h⟩ := m_bind h
        have fr13 : Fr W_X9_atom4 s r13 := Fr.tr fr11 (Fr.mono (FR_X9_next _ _ hr) rfl)
        obtain rfl := Option.some.inj h
        exact fr13
      · rw [if_neg hc] at h
        obtain rfl := Option.some.inj h
        exact fr11
    · rw [if_neg hc] at h
      exact Fr.tr Fr.rf (FR_X9_atom4_j157 _ _ _ h)
  · rw [if_neg hc] at h
    exact Fr.tr Fr.rf (FR_X9_atom4_j157 _ _ _ h)

theorem FR_X9_atom4 (s : mSG) (o : Int32 × mSG) (h : X9_atom4 s = some o) : Fr W_X9_atom4 s o.2 := by
  unfold X9_atom4 at h
  by_cases hc : X9_isSign 45 s = true
  · rw [if_pos hc] at h
    obtain ⟨r7, hr, h⟩ := m_bind h
    have fr7 : Fr W_X9_atom4 s r7.2 := Fr.tr Fr.rf (Fr.mono (FR_X9_opens _ _ hr) rfl)
    by_cases hc : r7.1 = true
    · rw [if_pos hc] at h
      obtain ⟨r8, hr, h⟩ := m_bind h
      have fr8 : Fr W_X9_atom4 s r8.2 := Fr.tr fr7 (Fr.mono (FR_X9_atom5 _ _ hr) rfl)
      obtain rfl := Option.some.inj h
      exact (Fr.wI fr8 rfl)
    · rw [if_neg hc] at h
      obtain rfl := Option.some.inj h
      exact fr7
  · rw [if_neg hc] at h
    by_cases hc : X9_isSign 40 s = true
    · rw [if_pos hc] at h
      obtain ⟨r4, hr, h⟩ := m_bind h
      have fr4 : Fr W_X9_atom4 s r4.2 := Fr.tr Fr.rf (Fr.mono (FR_X9_opens _ _ hr) rfl)
      by_cases hc : r4.1 = true
      · rw [if_pos hc] at h
        obtain ⟨r5, hr, h⟩ := m_bind h
        have fr5 : Fr W_X9_atom4 s r5.2 := Fr.tr fr4 (Fr.mono (FR_X9_either5 _ _ hr) rfl)
        by_cases hc : X9_isSign 41 r5.2 = true
        · rw [if_pos hc] at h
          exact Fr.tr fr5 (FR_X9_atom4_j71 _ _ _ h)
        · rw [if_neg hc] at h
          obtain ⟨r6, hr, h⟩ := m_bind h
          have fr6 : Fr W_X9_atom4 s r6 := Fr.tr fr5 (Fr.mono (FR_X9_fail _ _ hr) rfl)
          exact Fr.tr fr6 (FR_X9_atom4_j71 _ _ _ h)
      · rw [if_neg hc] at h
        obtain rfl := Option.some.inj h
        exact fr4
    · rw [if_neg hc] at h
      by_cases hc : (s.1 56 31) = 0
      · rw [if_pos hc] at h
        by_cases hc : (s.1 56 27) = 2
        · rw [if_pos hc] at h
          obtain ⟨r3, hr, h⟩ := m_bind h
          have fr3 : Fr W_X9_atom4 s r3 := Fr.tr Fr.rf (Fr.mono (FR_X9_next _ _ hr) rfl)
          obtain rfl := Option.some.inj h
          exact fr3
        · rw [if_neg hc] at h
          exact Fr.tr Fr.rf (FR_X9_atom4_j123 _ _ _ h)
      · rw [if_neg hc] at h
        exact Fr.tr Fr.rf (FR_X9_atom4_j123 _ _ _ h)

def W_X9_term4 : List (Nat × Option Nat) := [(56, some 26), (56, some 27), (56, some 28), (56, some 29), (56, some 30), (56, some 31), (56, some 32)]
theorem FR_X9_term4_b5 (x1 : Int32) (s : mSG) (o : (Int32 × mSG) ⊕ Int32 × mSG) (h : X9_term4_b5 x1 s = some o) : FrS W_X9_term4 (fun y : Int32 × mSG => y.2) ((fun y : Int32 × mSG => y.2)) s o := by
  unfold X9_term4_b5 at h
  by_cases hc : X9_isSign 42 s = true
  · rw [if_pos hc] at h
    obtain ⟨r2, hr, h⟩ := m_bind h
    have fr2 : Fr W_X9_term4 s r2 := Fr.tr Fr.rf (Fr.mono (FR_X9_next _ _ hr) rfl)
    obtain ⟨r3, hr, h⟩ := m_bind h
    have fr3 : Fr W_X9_term4 s r3.2 := Fr.tr fr2 (Fr.mono (FR_X9_atom4 _ _ hr) rfl)
    obtain rfl := Option.some.inj h
    exact ⟨fun y hy => by obtain rfl := Sum.inl.inj hy; exact fr3, fun y hy => by cases hy⟩
  · rw [if_neg hc] at h
    obtain rfl := Option.some.inj h
    exact ⟨fun y hy => (by cases hy), fun y hy => by obtain rfl := Sum.inr.inj hy; exact Fr.rf⟩

theorem FR_X9_term4_l5 (v : Int32 × mSG) (e : Int32 × mSG) (h : X9_term4_l5 v = some e) : Fr W_X9_term4 v.2 ((fun y : Int32 × mSG => y.2) e) :=
  FrS.iter (hy := fun y : Int32 × mSG => y.2) (he := (fun y : Int32 × mSG => y.2)) (fun x o hx => FR_X9_term4_b5 x.1 x.2 o hx) mFU v e h
theorem FR_X9_term4 (s : mSG) (o : Int32 × mSG) (h : X9_term4 s = some o) : Fr W_X9_term4 s o.2 := by
  unfold X9_term4 at h
  obtain ⟨r1, hr, h⟩ := m_bind h
  have fr1 : Fr W_X9_term4 s r1.2 := Fr.tr Fr.rf (Fr.mono (FR_X9_atom4 _ _ hr) rfl)
  obtain ⟨e5, hl, h⟩ := m_bind h
  have fl5 : Fr W_X9_term4 s ((fun y : Int32 × mSG => y.2) e5) := Fr.tr fr1 (FR_X9_term4_l5  _ _ hl)
  obtain rfl := Option.some.inj h
  exact fl5

def W_X9_added4 : List (Nat × Option Nat) := [(56, some 26), (56, some 27), (56, some 28), (56, some 29), (56, some 30), (56, some 31), (56, some 32)]
theorem FR_X9_added4_j62_5 (p0 : Int32) (s : mSG) (o : (Int32 × mSG) ⊕ Int32 × mSG) (h : X9_added4_j62_5 p0 s = some o) : FrS W_X9_added4 (fun y : Int32 × mSG => y.2) ((fun y : Int32 × mSG => y.2)) s o := by
  unfold X9_added4_j62_5 at h
  obtain rfl := Option.some.inj h
  exact ⟨fun y hy => by obtain rfl := Sum.inl.inj hy; exact Fr.rf, fun y hy => by cases hy⟩

theorem FR_X9_added4_j39_5 (x1 : Int32) (p0 : Int32) (s : mSG) (o : (Int32 × mSG) ⊕ Int32 × mSG) (h : X9_added4_j39_5 x1 p0 s = some o) : FrS W_X9_added4 (fun y : Int32 × mSG => y.2) ((fun y : Int32 × mSG => y.2)) s o := by
  unfold X9_added4_j39_5 at h
  obtain ⟨r3, hr, h⟩ := m_bind h
  have fr3 : Fr W_X9_added4 s r3 := Fr.tr Fr.rf (Fr.mono (FR_X9_next _ _ hr) rfl)
  obtain ⟨r4, hr, h⟩ := m_bind h
  have fr4 : Fr W_X9_added4 s r4.2 := Fr.tr fr3 (Fr.mono (FR_X9_term4 _ _ hr) rfl)
  by_cases hc : p0 = 0
  · rw [if_pos hc] at h
    exact FrS.tr fr4 (FR_X9_added4_j62_5 _ _ _ h)
  · rw [if_neg hc] at h
    exact FrS.tr fr4 (FR_X9_added4_j62_5 _ _ _ h)

theorem FR_X9_added4_j23_5 (x1 : Int32) (s : mSG) (o : (Int32 × mSG) ⊕ Int32 × mSG) (h : X9_added4_j23_5 x1 s = some o) : FrS W_X9_added4 (fun y : Int32 × mSG => y.2) ((fun y : Int32 × mSG => y.2)) s o := by
  unfold X9_added4_j23_5 at h
  by_cases hc : (lg_cmp (s.2.2 56 29) 43) = 0
  · rw [if_pos hc] at h
    exact FrS.tr Fr.rf (FR_X9_added4_j39_5 _ _ _ _ h)
  · rw [if_neg hc] at h
    exact FrS.tr Fr.rf (FR_X9_added4_j39_5 _ _ _ _ h)

theorem FR_X9_added4_b5 (x1 : Int32) (s : mSG) (o : (Int32 × mSG) ⊕ Int32 × mSG) (h : X9_added4_b5 x1 s = some o) : FrS W_X9_added4 (fun y : Int32 × mSG => y.2) ((fun y : Int32 × mSG => y.2)) s o := by
  unfold X9_added4_b5 at h
  by_cases hc : X9_isSign 43 s = true
  · rw [if_pos hc] at h
    exact FrS.tr Fr.rf (FR_X9_added4_j23_5 _ _ _ h)
  · rw [if_neg hc] at h
    by_cases hc : X9_isSign 45 s = true
    · rw [if_pos hc] at h
      exact FrS.tr Fr.rf (FR_X9_added4_j23_5 _ _ _ h)
    · rw [if_neg hc] at h
      obtain rfl := Option.some.inj h
      exact ⟨fun y hy => (by cases hy), fun y hy => by obtain rfl := Sum.inr.inj hy; exact Fr.rf⟩

theorem FR_X9_added4_l5 (v : Int32 × mSG) (e : Int32 × mSG) (h : X9_added4_l5 v = some e) : Fr W_X9_added4 v.2 ((fun y : Int32 × mSG => y.2) e) :=
  FrS.iter (hy := fun y : Int32 × mSG => y.2) (he := (fun y : Int32 × mSG => y.2)) (fun x o hx => FR_X9_added4_b5 x.1 x.2 o hx) mFU v e h
theorem FR_X9_added4 (s : mSG) (o : Int32 × mSG) (h : X9_added4 s = some o) : Fr W_X9_added4 s o.2 := by
  unfold X9_added4 at h
  obtain ⟨r1, hr, h⟩ := m_bind h
  have fr1 : Fr W_X9_added4 s r1.2 := Fr.tr Fr.rf (Fr.mono (FR_X9_term4 _ _ hr) rfl)
  obtain ⟨e5, hl, h⟩ := m_bind h
  have fl5 : Fr W_X9_added4 s ((fun y : Int32 × mSG => y.2) e5) := Fr.tr fr1 (FR_X9_added4_l5  _ _ hl)
  obtain rfl := Option.some.inj h
  exact fl5

def W_X9_not4 : List (Nat × Option Nat) := [(56, some 26), (56, some 27), (56, some 28), (56, some 29), (56, some 30), (56, some 31), (56, some 32)]
theorem FR_X9_not4_j93 (x1 : Int32) (p0 : Int32) (s : mSG) (o : Int32 × mSG) (h : X9_not4_j93 x1 p0 s = some o) : Fr W_X9_not4 s o.2 := by
  unfold X9_not4_j93 at h
  obtain ⟨r7, hr, h⟩ := m_bind h
  have fr7 : Fr W_X9_not4 s r7 := Fr.tr Fr.rf (Fr.mono (FR_X9_next _ _ hr) rfl)
  obtain ⟨r8, hr, h⟩ := m_bind h
  have fr8 : Fr W_X9_not4 s r8.2 := Fr.tr fr7 (Fr.mono (FR_X9_added4 _ _ hr) rfl)
  by_cases hc : p0 = 0
  · rw [if_pos hc] at h
    by_cases hc : x1 = r8.1
    · rw [if_pos hc] at h
      obtain rfl := Option.some.inj h
      exact fr8
    · rw [if_neg hc] at h
      obtain rfl := Option.some.inj h
      exact fr8
  · rw [if_neg hc] at h
    by_cases hc : r8.1 ≤ x1
    · rw [if_pos hc] at h
      obtain rfl := Option.some.inj h
      exact fr8
    · rw [if_neg hc] at h
      obtain rfl := Option.some.inj h
      exact fr8

theorem FR_X9_not4_j77 (x1 : Int32) (s : mSG) (o : Int32 × mSG) (h : X9_not4_j77 x1 s = some o) : Fr W_X9_not4 s o.2 := by
  unfold X9_not4_j77 at h
  by_cases hc : (lg_cmp (s.2.2 56 29) 60) = 0
  · rw [if_pos hc] at h
    exact Fr.tr Fr.rf (FR_X9_not4_j93 _ _ _ _ h)
  · rw [if_neg hc] at h
    exact Fr.tr Fr.rf (FR_X9_not4_j93 _ _ _ _ h)

theorem FR_X9_not4 (s : mSG) (o : Int32 × mSG) (h : X9_not4 s = some o) : Fr W_X9_not4 s o.2 := by
  unfold X9_not4 at h
  obtain ⟨r1, hr, h⟩ := m_bind h
  by_cases hc : r1 = true
  · rw [if_pos hc] at h
    obtain ⟨r3, hr, h⟩ := m_bind h
    have fr3 : Fr W_X9_not4 s r3.2 := Fr.tr Fr.rf (Fr.mono (FR_X9_opens _ _ hr) rfl)
    by_cases hc : r3.1 = true
    · rw [if_pos hc] at h
      obtain ⟨r4, hr, h⟩ := m_bind h
      have fr4 : Fr W_X9_not4 s r4.2 := Fr.tr fr3 (Fr.mono (FR_X9_not5 _ _ hr) rfl)
      by_cases hc : r4.1 = 0
      · rw [if_pos hc] at h
        obtain rfl := Option.some.inj h
        exact (Fr.wI fr4 rfl)
      · rw [if_neg hc] at h
        obtain rfl := Option.some.inj h
        exact (Fr.wI fr4 rfl)
    · rw [if_neg hc] at h
      obtain rfl := Option.some.inj h
      exact fr3
  · rw [if_neg hc] at h
    obtain ⟨r2, hr, h⟩ := m_bind h
    have fr2 : Fr W_X9_not4 s r2.2 := Fr.tr Fr.rf (Fr.mono (FR_X9_added4 _ _ hr) rfl)
    by_cases hc : X9_isSign 60 r2.2 = true
    · rw [if_pos hc] at h
      exact Fr.tr fr2 (FR_X9_not4_j77 _ _ _ h)
    · rw [if_neg hc] at h
      by_cases hc : X9_isSign 61 r2.2 = true
      · rw [if_pos hc] at h
        exact Fr.tr fr2 (FR_X9_not4_j77 _ _ _ h)
      · rw [if_neg hc] at h
        obtain rfl := Option.some.inj h
        exact fr2

def W_X9_both4 : List (Nat × Option Nat) := [(56, some 26), (56, some 27), (56, some 28), (56, some 29), (56, some 30), (56, some 31), (56, some 32)]
theorem FR_X9_both4_j45_5 (p0 : Int32) (s : mSG) (o : (Int32 × mSG) ⊕ Int32 × mSG) (h : X9_both4_j45_5 p0 s = some o) : FrS W_X9_both4 (fun y : Int32 × mSG => y.2) ((fun y : Int32 × mSG => y.2)) s o := by
  unfold X9_both4_j45_5 at h
  obtain rfl := Option.some.inj h
  exact ⟨fun y hy => by obtain rfl := Sum.inl.inj hy; exact Fr.rf, fun y hy => by cases hy⟩

theorem FR_X9_both4_j44_5 (s : mSG) (o : (Int32 × mSG) ⊕ Int32 × mSG) (h : X9_both4_j44_5 s = some o) : FrS W_X9_both4 (fun y : Int32 × mSG => y.2) ((fun y : Int32 × mSG => y.2)) s o := by
  unfold X9_both4_j44_5 at h
  exact FrS.tr Fr.rf (FR_X9_both4_j45_5 _ _ _ h)

theorem FR_X9_both4_b5 (x1 : Int32) (s : mSG) (o : (Int32 × mSG) ⊕ Int32 × mSG) (h : X9_both4_b5 x1 s = some o) : FrS W_X9_both4 (fun y : Int32 × mSG => y.2) ((fun y : Int32 × mSG => y.2)) s o := by
  unfold X9_both4_b5 at h
  obtain ⟨r2, hr, h⟩ := m_bind h
  by_cases hc : r2 = true
  · rw [if_pos hc] at h
    obtain ⟨r3, hr, h⟩ := m_bind h
    have fr3 : Fr W_X9_both4 s r3 := Fr.tr Fr.rf (Fr.mono (FR_X9_next _ _ hr) rfl)
    obtain ⟨r4, hr, h⟩ := m_bind h
    have fr4 : Fr W_X9_both4 s r4.2 := Fr.tr fr3 (Fr.mono (FR_X9_not4 _ _ hr) rfl)
    by_cases hc : x1 = 0
    · rw [if_pos hc] at h
      exact FrS.tr fr4 (FR_X9_both4_j44_5  _ _ h)
    · rw [if_neg hc] at h
      by_cases hc : r4.1 = 0
      · rw [if_pos hc] at h
        exact FrS.tr fr4 (FR_X9_both4_j44_5  _ _ h)
      · rw [if_neg hc] at h
        exact FrS.tr fr4 (FR_X9_both4_j45_5 _ _ _ h)
  · rw [if_neg hc] at h
    obtain rfl := Option.some.inj h
    exact ⟨fun y hy => (by cases hy), fun y hy => by obtain rfl := Sum.inr.inj hy; exact Fr.rf⟩

theorem FR_X9_both4_l5 (v : Int32 × mSG) (e : Int32 × mSG) (h : X9_both4_l5 v = some e) : Fr W_X9_both4 v.2 ((fun y : Int32 × mSG => y.2) e) :=
  FrS.iter (hy := fun y : Int32 × mSG => y.2) (he := (fun y : Int32 × mSG => y.2)) (fun x o hx => FR_X9_both4_b5 x.1 x.2 o hx) mFU v e h
theorem FR_X9_both4 (s : mSG) (o : Int32 × mSG) (h : X9_both4 s = some o) : Fr W_X9_both4 s o.2 := by
  unfold X9_both4 at h
  obtain ⟨r1, hr, h⟩ := m_bind h
  have fr1 : Fr W_X9_both4 s r1.2 := Fr.tr Fr.rf (Fr.mono (FR_X9_not4 _ _ hr) rfl)
  obtain ⟨e5, hl, h⟩ := m_bind h
  have fl5 : Fr W_X9_both4 s ((fun y : Int32 × mSG => y.2) e5) := Fr.tr fr1 (FR_X9_both4_l5  _ _ hl)
  obtain rfl := Option.some.inj h
  exact fl5

def W_X9_either4 : List (Nat × Option Nat) := [(56, some 26), (56, some 27), (56, some 28), (56, some 29), (56, some 30), (56, some 31), (56, some 32)]
theorem FR_X9_either4_j44_5 (p0 : Int32) (s : mSG) (o : (Int32 × mSG) ⊕ Int32 × mSG) (h : X9_either4_j44_5 p0 s = some o) : FrS W_X9_either4 (fun y : Int32 × mSG => y.2) ((fun y : Int32 × mSG => y.2)) s o := by
  unfold X9_either4_j44_5 at h
  obtain rfl := Option.some.inj h
  exact ⟨fun y hy => by obtain rfl := Sum.inl.inj hy; exact Fr.rf, fun y hy => by cases hy⟩

theorem FR_X9_either4_j39_5 (s : mSG) (o : (Int32 × mSG) ⊕ Int32 × mSG) (h : X9_either4_j39_5 s = some o) : FrS W_X9_either4 (fun y : Int32 × mSG => y.2) ((fun y : Int32 × mSG => y.2)) s o := by
  unfold X9_either4_j39_5 at h
  exact FrS.tr Fr.rf (FR_X9_either4_j44_5 _ _ _ h)

theorem FR_X9_either4_b5 (x1 : Int32) (s : mSG) (o : (Int32 × mSG) ⊕ Int32 × mSG) (h : X9_either4_b5 x1 s = some o) : FrS W_X9_either4 (fun y : Int32 × mSG => y.2) ((fun y : Int32 × mSG => y.2)) s o := by
  unfold X9_either4_b5 at h
  obtain ⟨r2, hr, h⟩ := m_bind h
  by_cases hc : r2 = true
  · rw [if_pos hc] at h
    obtain ⟨r3, hr, h⟩ := m_bind h
    have fr3 : Fr W_X9_either4 s r3 := Fr.tr Fr.rf (Fr.mono (FR_X9_next _ _ hr) rfl)
    obtain ⟨r4, hr, h⟩ := m_bind h
    have fr4 : Fr W_X9_either4 s r4.2 := Fr.tr fr3 (Fr.mono (FR_X9_both4 _ _ hr) rfl)
    by_cases hc : x1 = 0
    · rw [if_pos hc] at h
      by_cases hc : r4.1 = 0
      · rw [if_pos hc] at h
        exact FrS.tr fr4 (FR_X9_either4_j44_5 _ _ _ h)
      · rw [if_neg hc] at h
        exact FrS.tr fr4 (FR_X9_either4_j39_5  _ _ h)
    · rw [if_neg hc] at h
      exact FrS.tr fr4 (FR_X9_either4_j39_5  _ _ h)
  · rw [if_neg hc] at h
    obtain rfl := Option.some.inj h
    exact ⟨fun y hy => (by cases hy), fun y hy => by obtain rfl := Sum.inr.inj hy; exact Fr.rf⟩

theorem FR_X9_either4_l5 (v : Int32 × mSG) (e : Int32 × mSG) (h : X9_either4_l5 v = some e) : Fr W_X9_either4 v.2 ((fun y : Int32 × mSG => y.2) e) :=
  FrS.iter (hy := fun y : Int32 × mSG => y.2) (he := (fun y : Int32 × mSG => y.2)) (fun x o hx => FR_X9_either4_b5 x.1 x.2 o hx) mFU v e h
theorem FR_X9_either4 (s : mSG) (o : Int32 × mSG) (h : X9_either4 s = some o) : Fr W_X9_either4 s o.2 := by
  unfold X9_either4 at h
  obtain ⟨r1, hr, h⟩ := m_bind h
  have fr1 : Fr W_X9_either4 s r1.2 := Fr.tr Fr.rf (Fr.mono (FR_X9_both4 _ _ hr) rfl)
  obtain ⟨e5, hl, h⟩ := m_bind h
  have fl5 : Fr W_X9_either4 s ((fun y : Int32 × mSG => y.2) e5) := Fr.tr fr1 (FR_X9_either4_l5  _ _ hl)
  obtain rfl := Option.some.inj h
  exact fl5

def W_X9_atom3 : List (Nat × Option Nat) := [(56, some 26), (56, some 27), (56, some 28), (56, some 29), (56, some 30), (56, some 31), (56, some 32)]
theorem FR_X9_atom3_j71 (x1 : Int32) (s : mSG) (o : Int32 × mSG) (h : X9_atom3_j71 x1 s = some o) : Fr W_X9_atom3 s o.2 := by
  unfold X9_atom3_j71 at h
  by_cases hc : (s.1 56 31) = 0
  · rw [if_pos hc] at h
    obtain ⟨r16, hr, h⟩ := m_bind h
    have fr16 : Fr W_X9_atom3 s r16 := Fr.tr (Fr.wI Fr.rf rfl) (Fr.mono (FR_X9_next _ _ hr) rfl)
    obtain rfl := Option.some.inj h
    exact fr16
  · rw [if_neg hc] at h
    obtain rfl := Option.some.inj h
    exact (Fr.wI Fr.rf rfl)

theorem FR_X9_atom3_j157 (x1 : Int32) (s : mSG) (o : Int32 × mSG) (h : X9_atom3_j157 x1 s = some o) : Fr W_X9_atom3 s o.2 := by
  unfold X9_atom3_j157 at h
  obtain ⟨r14, hr, h⟩ := m_bind h
  have fr14 : Fr W_X9_atom3 s r14 := Fr.tr Fr.rf (Fr.mono (FR_X9_fail _ _ hr) rfl)
  obtain rfl := Option.some.inj h
  exact fr14

theorem FR_X9_atom3_j123 (x1 : Int32) (s : mSG) (o : Int32 × mSG) (h : X9_atom3_j123 x1 s = some o) : Fr W_X9_atom3 s o.2 := by
  unfold X9_atom3_j123 at h
  by_cases hc : (s.1 56 31) = 0
  · rw [if_pos hc] at h
    by_cases hc : (s.1 56 27) = 1
    · rw [if_pos hc] at h
      obtain ⟨r11, hr, h⟩ := m_bind h
      have fr11 : Fr W_X9_atom3 s r11.2 := Fr.tr Fr.rf (Fr.mono (FR_X9_name _ _ hr) rfl)
      by_cases hc : (r11.2.1 56 31) = 0
      · rw [if_pos hc] at h
        obtain ⟨r13, hr, h⟩ := m_bind h
        have fr13 : Fr W_X9_atom3 s r13 := Fr.tr fr11 (Fr.mono (FR_X9_next _ _ hr) rfl)
        obtain rfl := Option.some.inj h
        exact fr13
      · rw [if_neg hc] at h
        obtain rfl := Option.some.inj h
        exact fr11
    · rw [if_neg hc] at h
      exact Fr.tr Fr.rf (FR_X9_atom3_j157 _ _ _ h)
  · rw [if_neg hc] at h
    exact Fr.tr Fr.rf (FR_X9_atom3_j157 _ _ _ h)

theorem FR_X9_atom3 (s : mSG) (o : Int32 × mSG) (h : X9_atom3 s = some o) : Fr W_X9_atom3 s o.2 := by
  unfold X9_atom3 at h
  by_cases hc : X9_isSign 45 s = true
  · rw [if_pos hc] at h
    obtain ⟨r7, hr, h⟩ := m_bind h
    have fr7 : Fr W_X9_atom3 s r7.2 := Fr.tr Fr.rf (Fr.mono (FR_X9_opens _ _ hr) rfl)
    by_cases hc : r7.1 = true
    · rw [if_pos hc] at h
      obtain ⟨r8, hr, h⟩ := m_bind h
      have fr8 : Fr W_X9_atom3 s r8.2 := Fr.tr fr7 (Fr.mono (FR_X9_atom4 _ _ hr) rfl)
      obtain rfl := Option.some.inj h
      exact (Fr.wI fr8 rfl)
    · rw [if_neg hc] at h
      obtain rfl := Option.some.inj h
      exact fr7
  · rw [if_neg hc] at h
    by_cases hc : X9_isSign 40 s = true
    · rw [if_pos hc] at h
      obtain ⟨r4, hr, h⟩ := m_bind h
      have fr4 : Fr W_X9_atom3 s r4.2 := Fr.tr Fr.rf (Fr.mono (FR_X9_opens _ _ hr) rfl)
      by_cases hc : r4.1 = true
      · rw [if_pos hc] at h
        obtain ⟨r5, hr, h⟩ := m_bind h
        have fr5 : Fr W_X9_atom3 s r5.2 := Fr.tr fr4 (Fr.mono (FR_X9_either4 _ _ hr) rfl)
        by_cases hc : X9_isSign 41 r5.2 = true
        · rw [if_pos hc] at h
          exact Fr.tr fr5 (FR_X9_atom3_j71 _ _ _ h)
        · rw [if_neg hc] at h
          obtain ⟨r6, hr, h⟩ := m_bind h
          have fr6 : Fr W_X9_atom3 s r6 := Fr.tr fr5 (Fr.mono (FR_X9_fail _ _ hr) rfl)
          exact Fr.tr fr6 (FR_X9_atom3_j71 _ _ _ h)
      · rw [if_neg hc] at h
        obtain rfl := Option.some.inj h
        exact fr4
    · rw [if_neg hc] at h
      by_cases hc : (s.1 56 31) = 0
      · rw [if_pos hc] at h
        by_cases hc : (s.1 56 27) = 2
        · rw [if_pos hc] at h
          obtain ⟨r3, hr, h⟩ := m_bind h
          have fr3 : Fr W_X9_atom3 s r3 := Fr.tr Fr.rf (Fr.mono (FR_X9_next _ _ hr) rfl)
          obtain rfl := Option.some.inj h
          exact fr3
        · rw [if_neg hc] at h
          exact Fr.tr Fr.rf (FR_X9_atom3_j123 _ _ _ h)
      · rw [if_neg hc] at h
        exact Fr.tr Fr.rf (FR_X9_atom3_j123 _ _ _ h)

def W_X9_term3 : List (Nat × Option Nat) := [(56, some 26), (56, some 27), (56, some 28), (56, some 29), (56, some 30), (56, some 31), (56, some 32)]
theorem FR_X9_term3_b5 (x1 : Int32) (s : mSG) (o : (Int32 × mSG) ⊕ Int32 × mSG) (h : X9_term3_b5 x1 s = some o) : FrS W_X9_term3 (fun y : Int32 × mSG => y.2) ((fun y : Int32 × mSG => y.2)) s o := by
  unfold X9_term3_b5 at h
  by_cases hc : X9_isSign 42 s = true
  · rw [if_pos hc] at h
    obtain ⟨r2, hr, h⟩ := m_bind h
    have fr2 : Fr W_X9_term3 s r2 := Fr.tr Fr.rf (Fr.mono (FR_X9_next _ _ hr) rfl)
    obtain ⟨r3, hr, h⟩ := m_bind h
    have fr3 : Fr W_X9_term3 s r3.2 := Fr.tr fr2 (Fr.mono (FR_X9_atom3 _ _ hr) rfl)
    obtain rfl := Option.some.inj h
    exact ⟨fun y hy => by obtain rfl := Sum.inl.inj hy; exact fr3, fun y hy => by cases hy⟩
  · rw [if_neg hc] at h
    obtain rfl := Option.some.inj h
    exact ⟨fun y hy => (by cases hy), fun y hy => by obtain rfl := Sum.inr.inj hy; exact Fr.rf⟩

theorem FR_X9_term3_l5 (v : Int32 × mSG) (e : Int32 × mSG) (h : X9_term3_l5 v = some e) : Fr W_X9_term3 v.2 ((fun y : Int32 × mSG => y.2) e) :=
  FrS.iter (hy := fun y : Int32 × mSG => y.2) (he := (fun y : Int32 × mSG => y.2)) (fun x o hx => FR_X9_term3_b5 x.1 x.2 o hx) mFU v e h
theorem FR_X9_term3 (s : mSG) (o : Int32 × mSG) (h : X9_term3 s = some o) : Fr W_X9_term3 s o.2 := by
  unfold X9_term3 at h
  obtain ⟨r1, hr, h⟩ := m_bind h
  have fr1 : Fr W_X9_term3 s r1.2 := Fr.tr Fr.rf (Fr.mono (FR_X9_atom3 _ _ hr) rfl)
  obtain ⟨e5, hl, h⟩ := m_bind h
  have fl5 : Fr W_X9_term3 s ((fun y : Int32 × mSG => y.2) e5) := Fr.tr fr1 (FR_X9_term3_l5  _ _ hl)
  obtain rfl := Option.some.inj h
  exact fl5

def W_X9_added3 : List (Nat × Option Nat) := [(56, some 26), (56, some 27), (56, some 28), (56, some 29), (56, some 30), (56, some 31), (56, some 32)]
theorem FR_X9_added3_j62_5 (p0 : Int32) (s : mSG) (o : (Int32 × mSG) ⊕ Int32 × mSG) (h : X9_added3_j62_5 p0 s = some o) : FrS W_X9_added3 (fun y : Int32 × mSG => y.2) ((fun y : Int32 × mSG => y.2)) s o := by
  unfold X9_added3_j62_5 at h
  obtain rfl := Option.some.inj h
  exact ⟨fun y hy => by obtain rfl := Sum.inl.inj hy; exact Fr.rf, fun y hy => by cases hy⟩

theorem FR_X9_added3_j39_5 (x1 : Int32) (p0 : Int32) (s : mSG) (o : (Int32 × mSG) ⊕ Int32 × mSG) (h : X9_added3_j39_5 x1 p0 s = some o) : FrS W_X9_added3 (fun y : Int32 × mSG => y.2) ((fun y : Int32 × mSG => y.2)) s o := by
  unfold X9_added3_j39_5 at h
  obtain ⟨r3, hr, h⟩ := m_bind h
  have fr3 : Fr W_X9_added3 s r3 := Fr.tr Fr.rf (Fr.mono (FR_X9_next _ _ hr) rfl)
  obtain ⟨r4, hr, h⟩ := m_bind h
  have fr4 : Fr W_X9_added3 s r4.2 := Fr.tr fr3 (Fr.mono (FR_X9_term3 _ _ hr) rfl)
  by_cases hc : p0 = 0
  · rw [if_pos hc] at h
    exact FrS.tr fr4 (FR_X9_added3_j62_5 _ _ _ h)
  · rw [if_neg hc] at h
    exact FrS.tr fr4 (FR_X9_added3_j62_5 _ _ _ h)

theorem FR_X9_added3_j23_5 (x1 : Int32) (s : mSG) (o : (Int32 × mSG) ⊕ Int32 × mSG) (h : X9_added3_j23_5 x1 s = some o) : FrS W_X9_added3 (fun y : Int32 × mSG => y.2) ((fun y : Int32 × mSG => y.2)) s o := by
  unfold X9_added3_j23_5 at h
  by_cases hc : (lg_cmp (s.2.2 56 29) 43) = 0
  · rw [if_pos hc] at h
    exact FrS.tr Fr.rf (FR_X9_added3_j39_5 _ _ _ _ h)
  · rw [if_neg hc] at h
    exact FrS.tr Fr.rf (FR_X9_added3_j39_5 _ _ _ _ h)

theorem FR_X9_added3_b5 (x1 : Int32) (s : mSG) (o : (Int32 × mSG) ⊕ Int32 × mSG) (h : X9_added3_b5 x1 s = some o) : FrS W_X9_added3 (fun y : Int32 × mSG => y.2) ((fun y : Int32 × mSG => y.2)) s o := by
  unfold X9_added3_b5 at h
  by_cases hc : X9_isSign 43 s = true
  · rw [if_pos hc] at h
    exact FrS.tr Fr.rf (FR_X9_added3_j23_5 _ _ _ h)
  · rw [if_neg hc] at h
    by_cases hc : X9_isSign 45 s = true
    · rw [if_pos hc] at h
      exact FrS.tr Fr.rf (FR_X9_added3_j23_5 _ _ _ h)
    · rw [if_neg hc] at h
      obtain rfl := Option.some.inj h
      exact ⟨fun y hy => (by cases hy), fun y hy => by obtain rfl := Sum.inr.inj hy; exact Fr.rf⟩

theorem FR_X9_added3_l5 (v : Int32 × mSG) (e : Int32 × mSG) (h : X9_added3_l5 v = some e) : Fr W_X9_added3 v.2 ((fun y : Int32 × mSG => y.2) e) :=
  FrS.iter (hy := fun y : Int32 × mSG => y.2) (he := (fun y : Int32 × mSG => y.2)) (fun x o hx => FR_X9_added3_b5 x.1 x.2 o hx) mFU v e h
theorem FR_X9_added3 (s : mSG) (o : Int32 × mSG) (h : X9_added3 s = some o) : Fr W_X9_added3 s o.2 := by
  unfold X9_added3 at h
  obtain ⟨r1, hr, h⟩ := m_bind h
  have fr1 : Fr W_X9_added3 s r1.2 := Fr.tr Fr.rf (Fr.mono (FR_X9_term3 _ _ hr) rfl)
  obtain ⟨e5, hl, h⟩ := m_bind h
  have fl5 : Fr W_X9_added3 s ((fun y : Int32 × mSG => y.2) e5) := Fr.tr fr1 (FR_X9_added3_l5  _ _ hl)
  obtain rfl := Option.some.inj h
  exact fl5

def W_X9_not3 : List (Nat × Option Nat) := [(56, some 26), (56, some 27), (56, some 28), (56, some 29), (56, some 30), (56, some 31), (56, some 32)]
theorem FR_X9_not3_j93 (x1 : Int32) (p0 : Int32) (s : mSG) (o : Int32 × mSG) (h : X9_not3_j93 x1 p0 s = some o) : Fr W_X9_not3 s o.2 := by
  unfold X9_not3_j93 at h
  obtain ⟨r7, hr, h⟩ := m_bind h
  have fr7 : Fr W_X9_not3 s r7 := Fr.tr Fr.rf (Fr.mono (FR_X9_next _ _ hr) rfl)
  obtain ⟨r8, hr, h⟩ := m_bind h
  have fr8 : Fr W_X9_not3 s r8.2 := Fr.tr fr7 (Fr.mono (FR_X9_added3 _ _ hr) rfl)
  by_cases hc : p0 = 0
  · rw [if_pos hc] at h
    by_cases hc : x1 = r8.1
    · rw [if_pos hc] at h
      obtain rfl := Option.some.inj h
      exact fr8
    · rw [if_neg hc] at h
      obtain rfl := Option.some.inj h
      exact fr8
  · rw [if_neg hc] at h
    by_cases hc : r8.1 ≤ x1
    · rw [if_pos hc] at h
      obtain rfl := Option.some.inj h
      exact fr8
    · rw [if_neg hc] at h
      obtain rfl := Option.some.inj h
      exact fr8

theorem FR_X9_not3_j77 (x1 : Int32) (s : mSG) (o : Int32 × mSG) (h : X9_not3_j77 x1 s = some o) : Fr W_X9_not3 s o.2 := by
  unfold X9_not3_j77 at h
  by_cases hc : (lg_cmp (s.2.2 56 29) 60) = 0
  · rw [if_pos hc] at h
    exact Fr.tr Fr.rf (FR_X9_not3_j93 _ _ _ _ h)
  · rw [if_neg hc] at h
    exact Fr.tr Fr.rf (FR_X9_not3_j93 _ _ _ _ h)

theorem FR_X9_not3 (s : mSG) (o : Int32 × mSG) (h : X9_not3 s = some o) : Fr W_X9_not3 s o.2 := by
  unfold X9_not3 at h
  obtain ⟨r1, hr, h⟩ := m_bind h
  by_cases hc : r1 = true
  · rw [if_pos hc] at h
    obtain ⟨r3, hr, h⟩ := m_bind h
    have fr3 : Fr W_X9_not3 s r3.2 := Fr.tr Fr.rf (Fr.mono (FR_X9_opens _ _ hr) rfl)
    by_cases hc : r3.1 = true
    · rw [if_pos hc] at h
      obtain ⟨r4, hr, h⟩ := m_bind h
      have fr4 : Fr W_X9_not3 s r4.2 := Fr.tr fr3 (Fr.mono (FR_X9_not4 _ _ hr) rfl)
      by_cases hc : r4.1 = 0
      · rw [if_pos hc] at h
        obtain rfl := Option.some.inj h
        exact (Fr.wI fr4 rfl)
      · rw [if_neg hc] at h
        obtain rfl := Option.some.inj h
        exact (Fr.wI fr4 rfl)
    · rw [if_neg hc] at h
      obtain rfl := Option.some.inj h
      exact fr3
  · rw [if_neg hc] at h
    obtain ⟨r2, hr, h⟩ := m_bind h
    have fr2 : Fr W_X9_not3 s r2.2 := Fr.tr Fr.rf (Fr.mono (FR_X9_added3 _ _ hr) rfl)
    by_cases hc : X9_isSign 60 r2.2 = true
    · rw [if_pos hc] at h
      exact Fr.tr fr2 (FR_X9_not3_j77 _ _ _ h)
    · rw [if_neg hc] at h
      by_cases hc : X9_isSign 61 r2.2 = true
      · rw [if_pos hc] at h
        exact Fr.tr fr2 (FR_X9_not3_j77 _ _ _ h)
      · rw [if_neg hc] at h
        obtain rfl := Option.some.inj h
        exact fr2

def W_X9_both3 : List (Nat × Option Nat) := [(56, some 26), (56, some 27), (56, some 28), (56, some 29), (56, some 30), (56, some 31), (56, some 32)]
theorem FR_X9_both3_j45_5 (p0 : Int32) (s : mSG) (o : (Int32 × mSG) ⊕ Int32 × mSG) (h : X9_both3_j45_5 p0 s = some o) : FrS W_X9_both3 (fun y : Int32 × mSG => y.2) ((fun y : Int32 × mSG => y.2)) s o := by
  unfold X9_both3_j45_5 at h
  obtain rfl := Option.some.inj h
  exact ⟨fun y hy => by obtain rfl := Sum.inl.inj hy; exact Fr.rf, fun y hy => by cases hy⟩

theorem FR_X9_both3_j44_5 (s : mSG) (o : (Int32 × mSG) ⊕ Int32 × mSG) (h : X9_both3_j44_5 s = some o) : FrS W_X9_both3 (fun y : Int32 × mSG => y.2) ((fun y : Int32 × mSG => y.2)) s o := by
  unfold X9_both3_j44_5 at h
  exact FrS.tr Fr.rf (FR_X9_both3_j45_5 _ _ _ h)

theorem FR_X9_both3_b5 (x1 : Int32) (s : mSG) (o : (Int32 × mSG) ⊕ Int32 × mSG) (h : X9_both3_b5 x1 s = some o) : FrS W_X9_both3 (fun y : Int32 × mSG => y.2) ((fun y : Int32 × mSG => y.2)) s o := by
  unfold X9_both3_b5 at h
  obtain ⟨r2, hr, h⟩ := m_bind h
  by_cases hc : r2 = true
  · rw [if_pos hc] at h
    obtain ⟨r3, hr, h⟩ := m_bind h
    have fr3 : Fr W_X9_both3 s r3 := Fr.tr Fr.rf (Fr.mono (FR_X9_next _ _ hr) rfl)
    obtain ⟨r4, hr, h⟩ := m_bind h
    have fr4 : Fr W_X9_both3 s r4.2 := Fr.tr fr3 (Fr.mono (FR_X9_not3 _ _ hr) rfl)
    by_cases hc : x1 = 0
    · rw [if_pos hc] at h
      exact FrS.tr fr4 (FR_X9_both3_j44_5  _ _ h)
    · rw [if_neg hc] at h
      by_cases hc : r4.1 = 0
      · rw [if_pos hc] at h
        exact FrS.tr fr4 (FR_X9_both3_j44_5  _ _ h)
      · rw [if_neg hc] at h
        exact FrS.tr fr4 (FR_X9_both3_j45_5 _ _ _ h)
  · rw [if_neg hc] at h
    obtain rfl := Option.some.inj h
    exact ⟨fun y hy => (by cases hy), fun y hy => by obtain rfl := Sum.inr.inj hy; exact Fr.rf⟩

theorem FR_X9_both3_l5 (v : Int32 × mSG) (e : Int32 × mSG) (h : X9_both3_l5 v = some e) : Fr W_X9_both3 v.2 ((fun y : Int32 × mSG => y.2) e) :=
  FrS.iter (hy := fun y : Int32 × mSG => y.2) (he := (fun y : Int32 × mSG => y.2)) (fun x o hx => FR_X9_both3_b5 x.1 x.2 o hx) mFU v e h
theorem FR_X9_both3 (s : mSG) (o : Int32 × mSG) (h : X9_both3 s = some o) : Fr W_X9_both3 s o.2 := by
  unfold X9_both3 at h
  obtain ⟨r1, hr, h⟩ := m_bind h
  have fr1 : Fr W_X9_both3 s r1.2 := Fr.tr Fr.rf (Fr.mono (FR_X9_not3 _ _ hr) rfl)
  obtain ⟨e5, hl, h⟩ := m_bind h
  have fl5 : Fr W_X9_both3 s ((fun y : Int32 × mSG => y.2) e5) := Fr.tr fr1 (FR_X9_both3_l5  _ _ hl)
  obtain rfl := Option.some.inj h
  exact fl5

def W_X9_either3 : List (Nat × Option Nat) := [(56, some 26), (56, some 27), (56, some 28), (56, some 29), (56, some 30), (56, some 31), (56, some 32)]
theorem FR_X9_either3_j44_5 (p0 : Int32) (s : mSG) (o : (Int32 × mSG) ⊕ Int32 × mSG) (h : X9_either3_j44_5 p0 s = some o) : FrS W_X9_either3 (fun y : Int32 × mSG => y.2) ((fun y : Int32 × mSG => y.2)) s o := by
  unfold X9_either3_j44_5 at h
  obtain rfl := Option.some.inj h
  exact ⟨fun y hy => by obtain rfl := Sum.inl.inj hy; exact Fr.rf, fun y hy => by cases hy⟩

theorem FR_X9_either3_j39_5 (s : mSG) (o : (Int32 × mSG) ⊕ Int32 × mSG) (h : X9_either3_j39_5 s = some o) : FrS W_X9_either3 (fun y : Int32 × mSG => y.2) ((fun y : Int32 × mSG => y.2)) s o := by
  unfold X9_either3_j39_5 at h
  exact FrS.tr Fr.rf (FR_X9_either3_j44_5 _ _ _ h)

theorem FR_X9_either3_b5 (x1 : Int32) (s : mSG) (o : (Int32 × mSG) ⊕ Int32 × mSG) (h : X9_either3_b5 x1 s = some o) : FrS W_X9_either3 (fun y : Int32 × mSG => y.2) ((fun y : Int32 × mSG => y.2)) s o := by
  unfold X9_either3_b5 at h
  obtain ⟨r2, hr, h⟩ := m_bind h
  by_cases hc : r2 = true
  · rw [if_pos hc] at h
    obtain ⟨r3, hr, h⟩ := m_bind h
    have fr3 : Fr W_X9_either3 s r3 := Fr.tr Fr.rf (Fr.mono (FR_X9_next _ _ hr) rfl)
    obtain ⟨r4, hr, h⟩ := m_bind h
    have fr4 : Fr W_X9_either3 s r4.2 := Fr.tr fr3 (Fr.mono (FR_X9_both3 _ _ hr) rfl)
    by_cases hc : x1 = 0
    · rw [if_pos hc] at h
      by_cases hc : r4.1 = 0
      · rw [if_pos hc] at h
        exact FrS.tr fr4 (FR_X9_either3_j44_5 _ _ _ h)
      · rw [if_neg hc] at h
        exact FrS.tr fr4 (FR_X9_either3_j39_5  _ _ h)
    · rw [if_neg hc] at h
      exact FrS.tr fr4 (FR_X9_either3_j39_5  _ _ h)
  · rw [if_neg hc] at h
    obtain rfl := Option.some.inj h
    exact ⟨fun y hy => (by cases hy), fun y hy => by obtain rfl := Sum.inr.inj hy; exact Fr.rf⟩

theorem FR_X9_either3_l5 (v : Int32 × mSG) (e : Int32 × mSG) (h : X9_either3_l5 v = some e) : Fr W_X9_either3 v.2 ((fun y : Int32 × mSG => y.2) e) :=
  FrS.iter (hy := fun y : Int32 × mSG => y.2) (he := (fun y : Int32 × mSG => y.2)) (fun x o hx => FR_X9_either3_b5 x.1 x.2 o hx) mFU v e h
theorem FR_X9_either3 (s : mSG) (o : Int32 × mSG) (h : X9_either3 s = some o) : Fr W_X9_either3 s o.2 := by
  unfold X9_either3 at h
  obtain ⟨r1, hr, h⟩ := m_bind h
  have fr1 : Fr W_X9_either3 s r1.2 := Fr.tr Fr.rf (Fr.mono (FR_X9_both3 _ _ hr) rfl)
  obtain ⟨e5, hl, h⟩ := m_bind h
  have fl5 : Fr W_X9_either3 s ((fun y : Int32 × mSG => y.2) e5) := Fr.tr fr1 (FR_X9_either3_l5  _ _ hl)
  obtain rfl := Option.some.inj h
  exact fl5

def W_X9_atom2 : List (Nat × Option Nat) := [(56, some 26), (56, some 27), (56, some 28), (56, some 29), (56, some 30), (56, some 31), (56, some 32)]
theorem FR_X9_atom2_j71 (x1 : Int32) (s : mSG) (o : Int32 × mSG) (h : X9_atom2_j71 x1 s = some o) : Fr W_X9_atom2 s o.2 := by
  unfold X9_atom2_j71 at h
  by_cases hc : (s.1 56 31) = 0
  · rw [if_pos hc] at h
    obtain ⟨r16, hr, h⟩ := m_bind h
    have fr16 : Fr W_X9_atom2 s r16 := Fr.tr (Fr.wI Fr.rf rfl) (Fr.mono (FR_X9_next _ _ hr) rfl)
    obtain rfl := Option.some.inj h
    exact fr16
  · rw [if_neg hc] at h
    obtain rfl := Option.some.inj h
    exact (Fr.wI Fr.rf rfl)

theorem FR_X9_atom2_j157 (x1 : Int32) (s : mSG) (o : Int32 × mSG) (h : X9_atom2_j157 x1 s = some o) : Fr W_X9_atom2 s o.2 := by
  unfold X9_atom2_j157 at h
  obtain ⟨r14, hr, h⟩ := m_bind h
  have fr14 : Fr W_X9_atom2 s r14 := Fr.tr Fr.rf (Fr.mono (FR_X9_fail _ _ hr) rfl)
  obtain rfl := Option.some.inj h
  exact fr14

theorem FR_X9_atom2_j123 (x1 : Int32) (s : mSG) (o : Int32 × mSG) (h : X9_atom2_j123 x1 s = some o) : Fr W_X9_atom2 s o.2 := by
  unfold X9_atom2_j123 at h
  by_cases hc : (s.1 56 31) = 0
  · rw [if_pos hc] at h
    by_cases hc : (s.1 56 27) = 1
    · rw [if_pos hc] at h
      obtain ⟨r11, hr, h⟩ := m_bind h
      have fr11 : Fr W_X9_atom2 s r11.2 := Fr.tr Fr.rf (Fr.mono (FR_X9_name _ _ hr) rfl)
      by_cases hc : (r11.2.1 56 31) = 0
      · rw [if_pos hc] at h
        obtain ⟨r13, hr, h⟩ := m_bind h
        have fr13 : Fr W_X9_atom2 s r13 := Fr.tr fr11 (Fr.mono (FR_X9_next _ _ hr) rfl)
        obtain rfl := Option.some.inj h
        exact fr13
      · rw [if_neg hc] at h
        obtain rfl := Option.some.inj h
        exact fr11
    · rw [if_neg hc] at h
      exact Fr.tr Fr.rf (FR_X9_atom2_j157 _ _ _ h)
  · rw [if_neg hc] at h
    exact Fr.tr Fr.rf (FR_X9_atom2_j157 _ _ _ h)

theorem FR_X9_atom2 (s : mSG) (o : Int32 × mSG) (h : X9_atom2 s = some o) : Fr W_X9_atom2 s o.2 := by
  unfold X9_atom2 at h
  by_cases hc : X9_isSign 45 s = true
  · rw [if_pos hc] at h
    obtain ⟨r7, hr, h⟩ := m_bind h
    have fr7 : Fr W_X9_atom2 s r7.2 := Fr.tr Fr.rf (Fr.mono (FR_X9_opens _ _ hr) rfl)
    by_cases hc : r7.1 = true
    · rw [if_pos hc] at h
      obtain ⟨r8, hr, h⟩ := m_bind h
      have fr8 : Fr W_X9_atom2 s r8.2 := Fr.tr fr7 (Fr.mono (FR_X9_atom3 _ _ hr) rfl)
      obtain rfl := Option.some.inj h
      exact (Fr.wI fr8 rfl)
    · rw [if_neg hc] at h
      obtain rfl := Option.some.inj h
      exact fr7
  · rw [if_neg hc] at h
    by_cases hc : X9_isSign 40 s = true
    · rw [if_pos hc] at h
      obtain ⟨r4, hr, h⟩ := m_bind h
      have fr4 : Fr W_X9_atom2 s r4.2 := Fr.tr Fr.rf (Fr.mono (FR_X9_opens _ _ hr) rfl)
      by_cases hc : r4.1 = true
      · rw [if_pos hc] at h
        obtain ⟨r5, hr, h⟩ := m_bind h
        have fr5 : Fr W_X9_atom2 s r5.2 := Fr.tr fr4 (Fr.mono (FR_X9_either3 _ _ hr) rfl)
        by_cases hc : X9_isSign 41 r5.2 = true
        · rw [if_pos hc] at h
          exact Fr.tr fr5 (FR_X9_atom2_j71 _ _ _ h)
        · rw [if_neg hc] at h
          obtain ⟨r6, hr, h⟩ := m_bind h
          have fr6 : Fr W_X9_atom2 s r6 := Fr.tr fr5 (Fr.mono (FR_X9_fail _ _ hr) rfl)
          exact Fr.tr fr6 (FR_X9_atom2_j71 _ _ _ h)
      · rw [if_neg hc] at h
        obtain rfl := Option.some.inj h
        exact fr4
    · rw [if_neg hc] at h
      by_cases hc : (s.1 56 31) = 0
      · rw [if_pos hc] at h
        by_cases hc : (s.1 56 27) = 2
        · rw [if_pos hc] at h
          obtain ⟨r3, hr, h⟩ := m_bind h
          have fr3 : Fr W_X9_atom2 s r3 := Fr.tr Fr.rf (Fr.mono (FR_X9_next _ _ hr) rfl)
          obtain rfl := Option.some.inj h
          exact fr3
        · rw [if_neg hc] at h
          exact Fr.tr Fr.rf (FR_X9_atom2_j123 _ _ _ h)
      · rw [if_neg hc] at h
        exact Fr.tr Fr.rf (FR_X9_atom2_j123 _ _ _ h)

def W_X9_term2 : List (Nat × Option Nat) := [(56, some 26), (56, some 27), (56, some 28), (56, some 29), (56, some 30), (56, some 31), (56, some 32)]
theorem FR_X9_term2_b5 (x1 : Int32) (s : mSG) (o : (Int32 × mSG) ⊕ Int32 × mSG) (h : X9_term2_b5 x1 s = some o) : FrS W_X9_term2 (fun y : Int32 × mSG => y.2) ((fun y : Int32 × mSG => y.2)) s o := by
  unfold X9_term2_b5 at h
  by_cases hc : X9_isSign 42 s = true
  · rw [if_pos hc] at h
    obtain ⟨r2, hr, h⟩ := m_bind h
    have fr2 : Fr W_X9_term2 s r2 := Fr.tr Fr.rf (Fr.mono (FR_X9_next _ _ hr) rfl)
    obtain ⟨r3, hr, h⟩ := m_bind h
    have fr3 : Fr W_X9_term2 s r3.2 := Fr.tr fr2 (Fr.mono (FR_X9_atom2 _ _ hr) rfl)
    obtain rfl := Option.some.inj h
    exact ⟨fun y hy => by obtain rfl := Sum.inl.inj hy; exact fr3, fun y hy => by cases hy⟩
  · rw [if_neg hc] at h
    obtain rfl := Option.some.inj h
    exact ⟨fun y hy => (by cases hy), fun y hy => by obtain rfl := Sum.inr.inj hy; exact Fr.rf⟩

theorem FR_X9_term2_l5 (v : Int32 × mSG) (e : Int32 × mSG) (h : X9_term2_l5 v = some e) : Fr W_X9_term2 v.2 ((fun y : Int32 × mSG => y.2) e) :=
  FrS.iter (hy := fun y : Int32 × mSG => y.2) (he := (fun y : Int32 × mSG => y.2)) (fun x o hx => FR_X9_term2_b5 x.1 x.2 o hx) mFU v e h
theorem FR_X9_term2 (s : mSG) (o : Int32 × mSG) (h : X9_term2 s = some o) : Fr W_X9_term2 s o.2 := by
  unfold X9_term2 at h
  obtain ⟨r1, hr, h⟩ := m_bind h
  have fr1 : Fr W_X9_term2 s r1.2 := Fr.tr Fr.rf (Fr.mono (FR_X9_atom2 _ _ hr) rfl)
  obtain ⟨e5, hl, h⟩ := m_bind h
  have fl5 : Fr W_X9_term2 s ((fun y : Int32 × mSG => y.2) e5) := Fr.tr fr1 (FR_X9_term2_l5  _ _ hl)
  obtain rfl := Option.some.inj h
  exact fl5

def W_X9_added2 : List (Nat × Option Nat) := [(56, some 26), (56, some 27), (56, some 28), (56, some 29), (56, some 30), (56, some 31), (56, some 32)]
theorem FR_X9_added2_j62_5 (p0 : Int32) (s : mSG) (o : (Int32 × mSG) ⊕ Int32 × mSG) (h : X9_added2_j62_5 p0 s = some o) : FrS W_X9_added2 (fun y : Int32 × mSG => y.2) ((fun y : Int32 × mSG => y.2)) s o := by
  unfold X9_added2_j62_5 at h
  obtain rfl := Option.some.inj h
  exact ⟨fun y hy => by obtain rfl := Sum.inl.inj hy; exact Fr.rf, fun y hy => by cases hy⟩

theorem FR_X9_added2_j39_5 (x1 : Int32) (p0 : Int32) (s : mSG) (o : (Int32 × mSG) ⊕ Int32 × mSG) (h : X9_added2_j39_5 x1 p0 s = some o) : FrS W_X9_added2 (fun y : Int32 × mSG => y.2) ((fun y : Int32 × mSG => y.2)) s o := by
  unfold X9_added2_j39_5 at h
  obtain ⟨r3, hr, h⟩ := m_bind h
  have fr3 : Fr W_X9_added2 s r3 := Fr.tr Fr.rf (Fr.mono (FR_X9_next _ _ hr) rfl)
  obtain ⟨r4, hr, h⟩ := m_bind h
  have fr4 : Fr W_X9_added2 s r4.2 := Fr.tr fr3 (Fr.mono (FR_X9_term2 _ _ hr) rfl)
  by_cases hc : p0 = 0
  · rw [if_pos hc] at h
    exact FrS.tr fr4 (FR_X9_added2_j62_5 _ _ _ h)
  · rw [if_neg hc] at h
    exact FrS.tr fr4 (FR_X9_added2_j62_5 _ _ _ h)

theorem FR_X9_added2_j23_5 (x1 : Int32) (s : mSG) (o : (Int32 × mSG) ⊕ Int32 × mSG) (h : X9_added2_j23_5 x1 s = some o) : FrS W_X9_added2 (fun y : Int32 × mSG => y.2) ((fun y : Int32 × mSG => y.2)) s o := by
  unfold X9_added2_j23_5 at h
  by_cases hc : (lg_cmp (s.2.2 56 29) 43) = 0
  · rw [if_pos hc] at h
    exact FrS.tr Fr.rf (FR_X9_added2_j39_5 _ _ _ _ h)
  · rw [if_neg hc] at h
    exact FrS.tr Fr.rf (FR_X9_added2_j39_5 _ _ _ _ h)

theorem FR_X9_added2_b5 (x1 : Int32) (s : mSG) (o : (Int32 × mSG) ⊕ Int32 × mSG) (h : X9_added2_b5 x1 s = some o) : FrS W_X9_added2 (fun y : Int32 × mSG => y.2) ((fun y : Int32 × mSG => y.2)) s o := by
  unfold X9_added2_b5 at h
  by_cases hc : X9_isSign 43 s = true
  · rw [if_pos hc] at h
    exact FrS.tr Fr.rf (FR_X9_added2_j23_5 _ _ _ h)
  · rw [if_neg hc] at h
    by_cases hc : X9_isSign 45 s = true
    · rw [if_pos hc] at h
      exact FrS.tr Fr.rf (FR_X9_added2_j23_5 _ _ _ h)
    · rw [if_neg hc] at h
      obtain rfl := Option.some.inj h
      exact ⟨fun y hy => (by cases hy), fun y hy => by obtain rfl := Sum.inr.inj hy; exact Fr.rf⟩

theorem FR_X9_added2_l5 (v : Int32 × mSG) (e : Int32 × mSG) (h : X9_added2_l5 v = some e) : Fr W_X9_added2 v.2 ((fun y : Int32 × mSG => y.2) e) :=
  FrS.iter (hy := fun y : Int32 × mSG => y.2) (he := (fun y : Int32 × mSG => y.2)) (fun x o hx => FR_X9_added2_b5 x.1 x.2 o hx) mFU v e h
theorem FR_X9_added2 (s : mSG) (o : Int32 × mSG) (h : X9_added2 s = some o) : Fr W_X9_added2 s o.2 := by
  unfold X9_added2 at h
  obtain ⟨r1, hr, h⟩ := m_bind h
  have fr1 : Fr W_X9_added2 s r1.2 := Fr.tr Fr.rf (Fr.mono (FR_X9_term2 _ _ hr) rfl)
  obtain ⟨e5, hl, h⟩ := m_bind h
  have fl5 : Fr W_X9_added2 s ((fun y : Int32 × mSG => y.2) e5) := Fr.tr fr1 (FR_X9_added2_l5  _ _ hl)
  obtain rfl := Option.some.inj h
  exact fl5

def W_X9_not2 : List (Nat × Option Nat) := [(56, some 26), (56, some 27), (56, some 28), (56, some 29), (56, some 30), (56, some 31), (56, some 32)]
theorem FR_X9_not2_j93 (x1 : Int32) (p0 : Int32) (s : mSG) (o : Int32 × mSG) (h : X9_not2_j93 x1 p0 s = some o) : Fr W_X9_not2 s o.2 := by
  unfold X9_not2_j93 at h
  obtain ⟨r7, hr, h⟩ := m_bind h
  have fr7 : Fr W_X9_not2 s r7 := Fr.tr Fr.rf (Fr.mono (FR_X9_next _ _ hr) rfl)
  obtain ⟨r8, hr, h⟩ := m_bind h
  have fr8 : Fr W_X9_not2 s r8.2 := Fr.tr fr7 (Fr.mono (FR_X9_added2 _ _ hr) rfl)
  by_cases hc : p0 = 0
  · rw [if_pos hc] at h
    by_cases hc : x1 = r8.1
    · rw [if_pos hc] at h
      obtain rfl := Option.some.inj h
      exact fr8
    · rw [if_neg hc] at h
      obtain rfl := Option.some.inj h
      exact fr8
  · rw [if_neg hc] at h
    by_cases hc : r8.1 ≤ x1
    · rw [if_pos hc] at h
      obtain rfl := Option.some.inj h
      exact fr8
    · rw [if_neg hc] at h
      obtain rfl := Option.some.inj h
      exact fr8

theorem FR_X9_not2_j77 (x1 : Int32) (s : mSG) (o : Int32 × mSG) (h : X9_not2_j77 x1 s = some o) : Fr W_X9_not2 s o.2 := by
  unfold X9_not2_j77 at h
  by_cases hc : (lg_cmp (s.2.2 56 29) 60) = 0
  · rw [if_pos hc] at h
    exact Fr.tr Fr.rf (FR_X9_not2_j93 _ _ _ _ h)
  · rw [if_neg hc] at h
    exact Fr.tr Fr.rf (FR_X9_not2_j93 _ _ _ _ h)

theorem FR_X9_not2 (s : mSG) (o : Int32 × mSG) (h : X9_not2 s = some o) : Fr W_X9_not2 s o.2 := by
  unfold X9_not2 at h
  obtain ⟨r1, hr, h⟩ := m_bind h
  by_cases hc : r1 = true
  · rw [if_pos hc] at h
    obtain ⟨r3, hr, h⟩ := m_bind h
    have fr3 : Fr W_X9_not2 s r3.2 := Fr.tr Fr.rf (Fr.mono (FR_X9_opens _ _ hr) rfl)
    by_cases hc : r3.1 = true
    · rw [if_pos hc] at h
      obtain ⟨r4, hr, h⟩ := m_bind h
      have fr4 : Fr W_X9_not2 s r4.2 := Fr.tr fr3 (Fr.mono (FR_X9_not3 _ _ hr) rfl)
      by_cases hc : r4.1 = 0
      · rw [if_pos hc] at h
        obtain rfl := Option.some.inj h
        exact (Fr.wI fr4 rfl)
      · rw [if_neg hc] at h
        obtain rfl := Option.some.inj h
        exact (Fr.wI fr4 rfl)
    · rw [if_neg hc] at h
      obtain rfl := Option.some.inj h
      exact fr3
  · rw [if_neg hc] at h
    obtain ⟨r2, hr, h⟩ := m_bind h
    have fr2 : Fr W_X9_not2 s r2.2 := Fr.tr Fr.rf (Fr.mono (FR_X9_added2 _ _ hr) rfl)
    by_cases hc : X9_isSign 60 r2.2 = true
    · rw [if_pos hc] at h
      exact Fr.tr fr2 (FR_X9_not2_j77 _ _ _ h)
    · rw [if_neg hc] at h
      by_cases hc : X9_isSign 61 r2.2 = true
      · rw [if_pos hc] at h
        exact Fr.tr fr2 (FR_X9_not2_j77 _ _ _ h)
      · rw [if_neg hc] at h
        obtain rfl := Option.some.inj h
        exact fr2

def W_X9_both2 : List (Nat × Option Nat) := [(56, some 26), (56, some 27), (56, some 28), (56, some 29), (56, some 30), (56, some 31), (56, some 32)]
theorem FR_X9_both2_j45_5 (p0 : Int32) (s : mSG) (o : (Int32 × mSG) ⊕ Int32 × mSG) (h : X9_both2_j45_5 p0 s = some o) : FrS W_X9_both2 (fun y : Int32 × mSG => y.2) ((fun y : Int32 × mSG => y.2)) s o := by
  unfold X9_both2_j45_5 at h
  obtain rfl := Option.some.inj h
  exact ⟨fun y hy => by obtain rfl := Sum.inl.inj hy; exact Fr.rf, fun y hy => by cases hy⟩

theorem FR_X9_both2_j44_5 (s : mSG) (o : (Int32 × mSG) ⊕ Int32 × mSG) (h : X9_both2_j44_5 s = some o) : FrS W_X9_both2 (fun y : Int32 × mSG => y.2) ((fun y : Int32 × mSG => y.2)) s o := by
  unfold X9_both2_j44_5 at h
  exact FrS.tr Fr.rf (FR_X9_both2_j45_5 _ _ _ h)

theorem FR_X9_both2_b5 (x1 : Int32) (s : mSG) (o : (Int32 × mSG) ⊕ Int32 × mSG) (h : X9_both2_b5 x1 s = some o) : FrS W_X9_both2 (fun y : Int32 × mSG => y.2) ((fun y : Int32 × mSG => y.2)) s o := by
  unfold X9_both2_b5 at h
  obtain ⟨r2, hr, h⟩ := m_bind h
  by_cases hc : r2 = true
  · rw [if_pos hc] at h
    obtain ⟨r3, hr, h⟩ := m_bind h
    have fr3 : Fr W_X9_both2 s r3 := Fr.tr Fr.rf (Fr.mono (FR_X9_next _ _ hr) rfl)
    obtain ⟨r4, hr, h⟩ := m_bind h
    have fr4 : Fr W_X9_both2 s r4.2 := Fr.tr fr3 (Fr.mono (FR_X9_not2 _ _ hr) rfl)
    by_cases hc : x1 = 0
    · rw [if_pos hc] at h
      exact FrS.tr fr4 (FR_X9_both2_j44_5  _ _ h)
    · rw [if_neg hc] at h
      by_cases hc : r4.1 = 0
      · rw [if_pos hc] at h
        exact FrS.tr fr4 (FR_X9_both2_j44_5  _ _ h)
      · rw [if_neg hc] at h
        exact FrS.tr fr4 (FR_X9_both2_j45_5 _ _ _ h)
  · rw [if_neg hc] at h
    obtain rfl := Option.some.inj h
    exact ⟨fun y hy => (by cases hy), fun y hy => by obtain rfl := Sum.inr.inj hy; exact Fr.rf⟩

theorem FR_X9_both2_l5 (v : Int32 × mSG) (e : Int32 × mSG) (h : X9_both2_l5 v = some e) : Fr W_X9_both2 v.2 ((fun y : Int32 × mSG => y.2) e) :=
  FrS.iter (hy := fun y : Int32 × mSG => y.2) (he := (fun y : Int32 × mSG => y.2)) (fun x o hx => FR_X9_both2_b5 x.1 x.2 o hx) mFU v e h
theorem FR_X9_both2 (s : mSG) (o : Int32 × mSG) (h : X9_both2 s = some o) : Fr W_X9_both2 s o.2 := by
  unfold X9_both2 at h
  obtain ⟨r1, hr, h⟩ := m_bind h
  have fr1 : Fr W_X9_both2 s r1.2 := Fr.tr Fr.rf (Fr.mono (FR_X9_not2 _ _ hr) rfl)
  obtain ⟨e5, hl, h⟩ := m_bind h
  have fl5 : Fr W_X9_both2 s ((fun y : Int32 × mSG => y.2) e5) := Fr.tr fr1 (FR_X9_both2_l5  _ _ hl)
  obtain rfl := Option.some.inj h
  exact fl5

def W_X9_either2 : List (Nat × Option Nat) := [(56, some 26), (56, some 27), (56, some 28), (56, some 29), (56, some 30), (56, some 31), (56, some 32)]
theorem FR_X9_either2_j44_5 (p0 : Int32) (s : mSG) (o : (Int32 × mSG) ⊕ Int32 × mSG) (h : X9_either2_j44_5 p0 s = some o) : FrS W_X9_either2 (fun y : Int32 × mSG => y.2) ((fun y : Int32 × mSG => y.2)) s o := by
  unfold X9_either2_j44_5 at h
  obtain rfl := Option.some.inj h
  exact ⟨fun y hy => by obtain rfl := Sum.inl.inj hy; exact Fr.rf, fun y hy => by cases hy⟩

theorem FR_X9_either2_j39_5 (s : mSG) (o : (Int32 × mSG) ⊕ Int32 × mSG) (h : X9_either2_j39_5 s = some o) : FrS W_X9_either2 (fun y : Int32 × mSG => y.2) ((fun y : Int32 × mSG => y.2)) s o := by
  unfold X9_either2_j39_5 at h
  exact FrS.tr Fr.rf (FR_X9_either2_j44_5 _ _ _ h)

theorem FR_X9_either2_b5 (x1 : Int32) (s : mSG) (o : (Int32 × mSG) ⊕ Int32 × mSG) (h : X9_either2_b5 x1 s = some o) : FrS W_X9_either2 (fun y : Int32 × mSG => y.2) ((fun y : Int32 × mSG => y.2)) s o := by
  unfold X9_either2_b5 at h
  obtain ⟨r2, hr, h⟩ := m_bind h
  by_cases hc : r2 = true
  · rw [if_pos hc] at h
    obtain ⟨r3, hr, h⟩ := m_bind h
    have fr3 : Fr W_X9_either2 s r3 := Fr.tr Fr.rf (Fr.mono (FR_X9_next _ _ hr) rfl)
    obtain ⟨r4, hr, h⟩ := m_bind h
    have fr4 : Fr W_X9_either2 s r4.2 := Fr.tr fr3 (Fr.mono (FR_X9_both2 _ _ hr) rfl)
    by_cases hc : x1 = 0
    · rw [if_pos hc] at h
      by_cases hc : r4.1 = 0
      · rw [if_pos hc] at h
        exact FrS.tr fr4 (FR_X9_either2_j44_5 _ _ _ h)
      · rw [if_neg hc] at h
        exact FrS.tr fr4 (FR_X9_either2_j39_5  _ _ h)
    · rw [if_neg hc] at h
      exact FrS.tr fr4 (FR_X9_either2_j39_5  _ _ h)
  · rw [if_neg hc] at h
    obtain rfl := Option.some.inj h
    exact ⟨fun y hy => (by cases hy), fun y hy => by obtain rfl := Sum.inr.inj hy; exact Fr.rf⟩

theorem FR_X9_either2_l5 (v : Int32 × mSG) (e : Int32 × mSG) (h : X9_either2_l5 v = some e) : Fr W_X9_either2 v.2 ((fun y : Int32 × mSG => y.2) e) :=
  FrS.iter (hy := fun y : Int32 × mSG => y.2) (he := (fun y : Int32 × mSG => y.2)) (fun x o hx => FR_X9_either2_b5 x.1 x.2 o hx) mFU v e h
theorem FR_X9_either2 (s : mSG) (o : Int32 × mSG) (h : X9_either2 s = some o) : Fr W_X9_either2 s o.2 := by
  unfold X9_either2 at h
  obtain ⟨r1, hr, h⟩ := m_bind h
  have fr1 : Fr W_X9_either2 s r1.2 := Fr.tr Fr.rf (Fr.mono (FR_X9_both2 _ _ hr) rfl)
  obtain ⟨e5, hl, h⟩ := m_bind h
  have fl5 : Fr W_X9_either2 s ((fun y : Int32 × mSG => y.2) e5) := Fr.tr fr1 (FR_X9_either2_l5  _ _ hl)
  obtain rfl := Option.some.inj h
  exact fl5

def W_X9_atom1 : List (Nat × Option Nat) := [(56, some 26), (56, some 27), (56, some 28), (56, some 29), (56, some 30), (56, some 31), (56, some 32)]
theorem FR_X9_atom1_j71 (x1 : Int32) (s : mSG) (o : Int32 × mSG) (h : X9_atom1_j71 x1 s = some o) : Fr W_X9_atom1 s o.2 := by
  unfold X9_atom1_j71 at h
  by_cases hc : (s.1 56 31) = 0
  · rw [if_pos hc] at h
    obtain ⟨r16, hr, h⟩ := m_bind h
    have fr16 : Fr W_X9_atom1 s r16 := Fr.tr (Fr.wI Fr.rf rfl) (Fr.mono (FR_X9_next _ _ hr) rfl)
    obtain rfl := Option.some.inj h
    exact fr16
  · rw [if_neg hc] at h
    obtain rfl := Option.some.inj h
    exact (Fr.wI Fr.rf rfl)

theorem FR_X9_atom1_j157 (x1 : Int32) (s : mSG) (o : Int32 × mSG) (h : X9_atom1_j157 x1 s = some o) : Fr W_X9_atom1 s o.2 := by
  unfold X9_atom1_j157 at h
  obtain ⟨r14, hr, h⟩ := m_bind h
  have fr14 : Fr W_X9_atom1 s r14 := Fr.tr Fr.rf (Fr.mono (FR_X9_fail _ _ hr) rfl)
  obtain rfl := Option.some.inj h
  exact fr14

theorem FR_X9_atom1_j123 (x1 : Int32) (s : mSG) (o : Int32 × mSG) (h : X9_atom1_j123 x1 s = some o) : Fr W_X9_atom1 s o.2 := by
  unfold X9_atom1_j123 at h
  by_cases hc : (s.1 56 31) = 0
  · rw [if_pos hc] at h
    by_cases hc : (s.1 56 27) = 1
    · rw [if_pos hc] at h
      obtain ⟨r11, hr, h⟩ := m_bind h
      have fr11 : Fr W_X9_atom1 s r11.2 := Fr.tr Fr.rf (Fr.mono (FR_X9_name _ _ hr) rfl)
      by_cases hc : (r11.2.1 56 31) = 0
      · rw [if_pos hc] at h
        obtain ⟨r13, hr, h⟩ := m_bind h
        have fr13 : Fr W_X9_atom1 s r13 := Fr.tr fr11 (Fr.mono (FR_X9_next _ _ hr) rfl)
        obtain rfl := Option.some.inj h
        exact fr13
      · rw [if_neg hc] at h
        obtain rfl := Option.some.inj h
        exact fr11
    · rw [if_neg hc] at h
      exact Fr.tr Fr.rf (FR_X9_atom1_j157 _ _ _ h)
  · rw [if_neg hc] at h
    exact Fr.tr Fr.rf (FR_X9_atom1_j157 _ _ _ h)

theorem FR_X9_atom1 (s : mSG) (o : Int32 × mSG) (h : X9_atom1 s = some o) : Fr W_X9_atom1 s o.2 := by
  unfold X9_atom1 at h
  by_cases hc : X9_isSign 45 s = true
  · rw [if_pos hc] at h
    obtain ⟨r7, hr, h⟩ := m_bind h
    have fr7 : Fr W_X9_atom1 s r7.2 := Fr.tr Fr.rf (Fr.mono (FR_X9_opens _ _ hr) rfl)
    by_cases hc : r7.1 = true
    · rw [if_pos hc] at h
      obtain ⟨r8, hr, h⟩ := m_bind h
      have fr8 : Fr W_X9_atom1 s r8.2 := Fr.tr fr7 (Fr.mono (FR_X9_atom2 _ _ hr) rfl)
      obtain rfl := Option.some.inj h
      exact (Fr.wI fr8 rfl)
    · rw [if_neg hc] at h
      obtain rfl := Option.some.inj h
      exact fr7
  · rw [if_neg hc] at h
    by_cases hc : X9_isSign 40 s = true
    · rw [if_pos hc] at h
      obtain ⟨r4, hr, h⟩ := m_bind h
      have fr4 : Fr W_X9_atom1 s r4.2 := Fr.tr Fr.rf (Fr.mono (FR_X9_opens _ _ hr) rfl)
      by_cases hc : r4.1 = true
      · rw [if_pos hc] at h
        obtain ⟨r5, hr, h⟩ := m_bind h
        have fr5 : Fr W_X9_atom1 s r5.2 := Fr.tr fr4 (Fr.mono (FR_X9_either2 _ _ hr) rfl)
        by_cases hc : X9_isSign 41 r5.2 = true
        · rw [if_pos hc] at h
          exact Fr.tr fr5 (FR_X9_atom1_j71 _ _ _ h)
        · rw [if_neg hc] at h
          obtain ⟨r6, hr, h⟩ := m_bind h
          have fr6 : Fr W_X9_atom1 s r6 := Fr.tr fr5 (Fr.mono (FR_X9_fail _ _ hr) rfl)
          exact Fr.tr fr6 (FR_X9_atom1_j71 _ _ _ h)
      · rw [if_neg hc] at h
        obtain rfl := Option.some.inj h
        exact fr4
    · rw [if_neg hc] at h
      by_cases hc : (s.1 56 31) = 0
      · rw [if_pos hc] at h
        by_cases hc : (s.1 56 27) = 2
        · rw [if_pos hc] at h
          obtain ⟨r3, hr, h⟩ := m_bind h
          have fr3 : Fr W_X9_atom1 s r3 := Fr.tr Fr.rf (Fr.mono (FR_X9_next _ _ hr) rfl)
          obtain rfl := Option.some.inj h
          exact fr3
        · rw [if_neg hc] at h
          exact Fr.tr Fr.rf (FR_X9_atom1_j123 _ _ _ h)
      · rw [if_neg hc] at h
        exact Fr.tr Fr.rf (FR_X9_atom1_j123 _ _ _ h)

def W_X9_term1 : List (Nat × Option Nat) := [(56, some 26), (56, some 27), (56, some 28), (56, some 29), (56, some 30), (56, some 31), (56, some 32)]
theorem FR_X9_term1_b5 (x1 : Int32) (s : mSG) (o : (Int32 × mSG) ⊕ Int32 × mSG) (h : X9_term1_b5 x1 s = some o) : FrS W_X9_term1 (fun y : Int32 × mSG => y.2) ((fun y : Int32 × mSG => y.2)) s o := by
  unfold X9_term1_b5 at h
  by_cases hc : X9_isSign 42 s = true
  · rw [if_pos hc] at h
    obtain ⟨r2, hr, h⟩ := m_bind h
    have fr2 : Fr W_X9_term1 s r2 := Fr.tr Fr.rf (Fr.mono (FR_X9_next _ _ hr) rfl)
    obtain ⟨r3, hr, h⟩ := m_bind h
    have fr3 : Fr W_X9_term1 s r3.2 := Fr.tr fr2 (Fr.mono (FR_X9_atom1 _ _ hr) rfl)
    obtain rfl := Option.some.inj h
    exact ⟨fun y hy => by obtain rfl := Sum.inl.inj hy; exact fr3, fun y hy => by cases hy⟩
  · rw [if_neg hc] at h
    obtain rfl := Option.some.inj h
    exact ⟨fun y hy => (by cases hy), fun y hy => by obtain rfl := Sum.inr.inj hy; exact Fr.rf⟩

theorem FR_X9_term1_l5 (v : Int32 × mSG) (e : Int32 × mSG) (h : X9_term1_l5 v = some e) : Fr W_X9_term1 v.2 ((fun y : Int32 × mSG => y.2) e) :=
  FrS.iter (hy := fun y : Int32 × mSG => y.2) (he := (fun y : Int32 × mSG => y.2)) (fun x o hx => FR_X9_term1_b5 x.1 x.2 o hx) mFU v e h
theorem FR_X9_term1 (s : mSG) (o : Int32 × mSG) (h : X9_term1 s = some o) : Fr W_X9_term1 s o.2 := by
  unfold X9_term1 at h
  obtain ⟨r1, hr, h⟩ := m_bind h
  have fr1 : Fr W_X9_term1 s r1.2 := Fr.tr Fr.rf (Fr.mono (FR_X9_atom1 _ _ hr) rfl)
  obtain ⟨e5, hl, h⟩ := m_bind h
  have fl5 : Fr W_X9_term1 s ((fun y : Int32 × mSG => y.2) e5) := Fr.tr fr1 (FR_X9_term1_l5  _ _ hl)
  obtain rfl := Option.some.inj h
  exact fl5

def W_X9_added1 : List (Nat × Option Nat) := [(56, some 26), (56, some 27), (56, some 28), (56, some 29), (56, some 30), (56, some 31), (56, some 32)]
theorem FR_X9_added1_j62_5 (p0 : Int32) (s : mSG) (o : (Int32 × mSG) ⊕ Int32 × mSG) (h : X9_added1_j62_5 p0 s = some o) : FrS W_X9_added1 (fun y : Int32 × mSG => y.2) ((fun y : Int32 × mSG => y.2)) s o := by
  unfold X9_added1_j62_5 at h
  obtain rfl := Option.some.inj h
  exact ⟨fun y hy => by obtain rfl := Sum.inl.inj hy; exact Fr.rf, fun y hy => by cases hy⟩

theorem FR_X9_added1_j39_5 (x1 : Int32) (p0 : Int32) (s : mSG) (o : (Int32 × mSG) ⊕ Int32 × mSG) (h : X9_added1_j39_5 x1 p0 s = some o) : FrS W_X9_added1 (fun y : Int32 × mSG => y.2) ((fun y : Int32 × mSG => y.2)) s o := by
  unfold X9_added1_j39_5 at h
  obtain ⟨r3, hr, h⟩ := m_bind h
  have fr3 : Fr W_X9_added1 s r3 := Fr.tr Fr.rf (Fr.mono (FR_X9_next _ _ hr) rfl)
  obtain ⟨r4, hr, h⟩ := m_bind h
  have fr4 : Fr W_X9_added1 s r4.2 := Fr.tr fr3 (Fr.mono (FR_X9_term1 _ _ hr) rfl)
  by_cases hc : p0 = 0
  · rw [if_pos hc] at h
    exact FrS.tr fr4 (FR_X9_added1_j62_5 _ _ _ h)
  · rw [if_neg hc] at h
    exact FrS.tr fr4 (FR_X9_added1_j62_5 _ _ _ h)

theorem FR_X9_added1_j23_5 (x1 : Int32) (s : mSG) (o : (Int32 × mSG) ⊕ Int32 × mSG) (h : X9_added1_j23_5 x1 s = some o) : FrS W_X9_added1 (fun y : Int32 × mSG => y.2) ((fun y : Int32 × mSG => y.2)) s o := by
  unfold X9_added1_j23_5 at h
  by_cases hc : (lg_cmp (s.2.2 56 29) 43) = 0
  · rw [if_pos hc] at h
    exact FrS.tr Fr.rf (FR_X9_added1_j39_5 _ _ _ _ h)
  · rw [if_neg hc] at h
    exact FrS.tr Fr.rf (FR_X9_added1_j39_5 _ _ _ _ h)

theorem FR_X9_added1_b5 (x1 : Int32) (s : mSG) (o : (Int32 × mSG) ⊕ Int32 × mSG) (h : X9_added1_b5 x1 s = some o) : FrS W_X9_added1 (fun y : Int32 × mSG => y.2) ((fun y : Int32 × mSG => y.2)) s o := by
  unfold X9_added1_b5 at h
  by_cases hc : X9_isSign 43 s = true
  · rw [if_pos hc] at h
    exact FrS.tr Fr.rf (FR_X9_added1_j23_5 _ _ _ h)
  · rw [if_neg hc] at h
    by_cases hc : X9_isSign 45 s = true
    · rw [if_pos hc] at h
      exact FrS.tr Fr.rf (FR_X9_added1_j23_5 _ _ _ h)
    · rw [if_neg hc] at h
      obtain rfl := Option.some.inj h
      exact ⟨fun y hy => (by cases hy), fun y hy => by obtain rfl := Sum.inr.inj hy; exact Fr.rf⟩

theorem FR_X9_added1_l5 (v : Int32 × mSG) (e : Int32 × mSG) (h : X9_added1_l5 v = some e) : Fr W_X9_added1 v.2 ((fun y : Int32 × mSG => y.2) e) :=
  FrS.iter (hy := fun y : Int32 × mSG => y.2) (he := (fun y : Int32 × mSG => y.2)) (fun x o hx => FR_X9_added1_b5 x.1 x.2 o hx) mFU v e h
theorem FR_X9_added1 (s : mSG) (o : Int32 × mSG) (h : X9_added1 s = some o) : Fr W_X9_added1 s o.2 := by
  unfold X9_added1 at h
  obtain ⟨r1, hr, h⟩ := m_bind h
  have fr1 : Fr W_X9_added1 s r1.2 := Fr.tr Fr.rf (Fr.mono (FR_X9_term1 _ _ hr) rfl)
  obtain ⟨e5, hl, h⟩ := m_bind h
  have fl5 : Fr W_X9_added1 s ((fun y : Int32 × mSG => y.2) e5) := Fr.tr fr1 (FR_X9_added1_l5  _ _ hl)
  obtain rfl := Option.some.inj h
  exact fl5

def W_X9_not1 : List (Nat × Option Nat) := [(56, some 26), (56, some 27), (56, some 28), (56, some 29), (56, some 30), (56, some 31), (56, some 32)]
theorem FR_X9_not1_j93 (x1 : Int32) (p0 : Int32) (s : mSG) (o : Int32 × mSG) (h : X9_not1_j93 x1 p0 s = some o) : Fr W_X9_not1 s o.2 := by
  unfold X9_not1_j93 at h
  obtain ⟨r7, hr, h⟩ := m_bind h
  have fr7 : Fr W_X9_not1 s r7 := Fr.tr Fr.rf (Fr.mono (FR_X9_next _ _ hr) rfl)
  obtain ⟨r8, hr, h⟩ := m_bind h
  have fr8 : Fr W_X9_not1 s r8.2 := Fr.tr fr7 (Fr.mono (FR_X9_added1 _ _ hr) rfl)
  by_cases hc : p0 = 0
  · rw [if_pos hc] at h
    by_cases hc : x1 = r8.1
    · rw [if_pos hc] at h
      obtain rfl := Option.some.inj h
      exact fr8
    · rw [if_neg hc] at h
      obtain rfl := Option.some.inj h
      exact fr8
  · rw [if_neg hc] at h
    by_cases hc : r8.1 ≤ x1
    · rw [if_pos hc] at h
      obtain rfl := Option.some.inj h
      exact fr8
    · rw [if_neg hc] at h
      obtain rfl := Option.some.inj h
      exact fr8

theorem FR_X9_not1_j77 (x1 : Int32) (s : mSG) (o : Int32 × mSG) (h : X9_not1_j77 x1 s = some o) : Fr W_X9_not1 s o.2 := by
  unfold X9_not1_j77 at h
  by_cases hc : (lg_cmp (s.2.2 56 29) 60) = 0
  · rw [if_pos hc] at h
    exact Fr.tr Fr.rf (FR_X9_not1_j93 _ _ _ _ h)
  · rw [if_neg hc] at h
    exact Fr.tr Fr.rf (FR_X9_not1_j93 _ _ _ _ h)

theorem FR_X9_not1 (s : mSG) (o : Int32 × mSG) (h : X9_not1 s = some o) : Fr W_X9_not1 s o.2 := by
  unfold X9_not1 at h
  obtain ⟨r1, hr, h⟩ := m_bind h
  by_cases hc : r1 = true
  · rw [if_pos hc] at h
    obtain ⟨r3, hr, h⟩ := m_bind h
    have fr3 : Fr W_X9_not1 s r3.2 := Fr.tr Fr.rf (Fr.mono (FR_X9_opens _ _ hr) rfl)
    by_cases hc : r3.1 = true
    · rw [if_pos hc] at h
      obtain ⟨r4, hr, h⟩ := m_bind h
      have fr4 : Fr W_X9_not1 s r4.2 := Fr.tr fr3 (Fr.mono (FR_X9_not2 _ _ hr) rfl)
      by_cases hc : r4.1 = 0
      · rw [if_pos hc] at h
        obtain rfl := Option.some.inj h
        exact (Fr.wI fr4 rfl)
      · rw [if_neg hc] at h
        obtain rfl := Option.some.inj h
        exact (Fr.wI fr4 rfl)
    · rw [if_neg hc] at h
      obtain rfl := Option.some.inj h
      exact fr3
  · rw [if_neg hc] at h
    obtain ⟨r2, hr, h⟩ := m_bind h
    have fr2 : Fr W_X9_not1 s r2.2 := Fr.tr Fr.rf (Fr.mono (FR_X9_added1 _ _ hr) rfl)
    by_cases hc : X9_isSign 60 r2.2 = true
    · rw [if_pos hc] at h
      exact Fr.tr fr2 (FR_X9_not1_j77 _ _ _ h)
    · rw [if_neg hc] at h
      by_cases hc : X9_isSign 61 r2.2 = true
      · rw [if_pos hc] at h
        exact Fr.tr fr2 (FR_X9_not1_j77 _ _ _ h)
      · rw [if_neg hc] at h
        obtain rfl := Option.some.inj h
        exact fr2

def W_X9_both1 : List (Nat × Option Nat) := [(56, some 26), (56, some 27), (56, some 28), (56, some 29), (56, some 30), (56, some 31), (56, some 32)]
theorem FR_X9_both1_j45_5 (p0 : Int32) (s : mSG) (o : (Int32 × mSG) ⊕ Int32 × mSG) (h : X9_both1_j45_5 p0 s = some o) : FrS W_X9_both1 (fun y : Int32 × mSG => y.2) ((fun y : Int32 × mSG => y.2)) s o := by
  unfold X9_both1_j45_5 at h
  obtain rfl := Option.some.inj h
  exact ⟨fun y hy => by obtain rfl := Sum.inl.inj hy; exact Fr.rf, fun y hy => by cases hy⟩

theorem FR_X9_both1_j44_5 (s : mSG) (o : (Int32 × mSG) ⊕ Int32 × mSG) (h : X9_both1_j44_5 s = some o) : FrS W_X9_both1 (fun y : Int32 × mSG => y.2) ((fun y : Int32 × mSG => y.2)) s o := by
  unfold X9_both1_j44_5 at h
  exact FrS.tr Fr.rf (FR_X9_both1_j45_5 _ _ _ h)

theorem FR_X9_both1_b5 (x1 : Int32) (s : mSG) (o : (Int32 × mSG) ⊕ Int32 × mSG) (h : X9_both1_b5 x1 s = some o) : FrS W_X9_both1 (fun y : Int32 × mSG => y.2) ((fun y : Int32 × mSG => y.2)) s o := by
  unfold X9_both1_b5 at h
  obtain ⟨r2, hr, h⟩ := m_bind h
  by_cases hc : r2 = true
  · rw [if_pos hc] at h
    obtain ⟨r3, hr, h⟩ := m_bind h
    have fr3 : Fr W_X9_both1 s r3 := Fr.tr Fr.rf (Fr.mono (FR_X9_next _ _ hr) rfl)
    obtain ⟨r4, hr, h⟩ := m_bind h
    have fr4 : Fr W_X9_both1 s r4.2 := Fr.tr fr3 (Fr.mono (FR_X9_not1 _ _ hr) rfl)
    by_cases hc : x1 = 0
    · rw [if_pos hc] at h
      exact FrS.tr fr4 (FR_X9_both1_j44_5  _ _ h)
    · rw [if_neg hc] at h
      by_cases hc : r4.1 = 0
      · rw [if_pos hc] at h
        exact FrS.tr fr4 (FR_X9_both1_j44_5  _ _ h)
      · rw [if_neg hc] at h
        exact FrS.tr fr4 (FR_X9_both1_j45_5 _ _ _ h)
  · rw [if_neg hc] at h
    obtain rfl := Option.some.inj h
    exact ⟨fun y hy => (by cases hy), fun y hy => by obtain rfl := Sum.inr.inj hy; exact Fr.rf⟩

theorem FR_X9_both1_l5 (v : Int32 × mSG) (e : Int32 × mSG) (h : X9_both1_l5 v = some e) : Fr W_X9_both1 v.2 ((fun y : Int32 × mSG => y.2) e) :=
  FrS.iter (hy := fun y : Int32 × mSG => y.2) (he := (fun y : Int32 × mSG => y.2)) (fun x o hx => FR_X9_both1_b5 x.1 x.2 o hx) mFU v e h
theorem FR_X9_both1 (s : mSG) (o : Int32 × mSG) (h : X9_both1 s = some o) : Fr W_X9_both1 s o.2 := by
  unfold X9_both1 at h
  obtain ⟨r1, hr, h⟩ := m_bind h
  have fr1 : Fr W_X9_both1 s r1.2 := Fr.tr Fr.rf (Fr.mono (FR_X9_not1 _ _ hr) rfl)
  obtain ⟨e5, hl, h⟩ := m_bind h
  have fl5 : Fr W_X9_both1 s ((fun y : Int32 × mSG => y.2) e5) := Fr.tr fr1 (FR_X9_both1_l5  _ _ hl)
  obtain rfl := Option.some.inj h
  exact fl5

def W_X9_either1 : List (Nat × Option Nat) := [(56, some 26), (56, some 27), (56, some 28), (56, some 29), (56, some 30), (56, some 31), (56, some 32)]
theorem FR_X9_either1_j44_5 (p0 : Int32) (s : mSG) (o : (Int32 × mSG) ⊕ Int32 × mSG) (h : X9_either1_j44_5 p0 s = some o) : FrS W_X9_either1 (fun y : Int32 × mSG => y.2) ((fun y : Int32 × mSG => y.2)) s o := by
  unfold X9_either1_j44_5 at h
  obtain rfl := Option.some.inj h
  exact ⟨fun y hy => by obtain rfl := Sum.inl.inj hy; exact Fr.rf, fun y hy => by cases hy⟩

theorem FR_X9_either1_j39_5 (s : mSG) (o : (Int32 × mSG) ⊕ Int32 × mSG) (h : X9_either1_j39_5 s = some o) : FrS W_X9_either1 (fun y : Int32 × mSG => y.2) ((fun y : Int32 × mSG => y.2)) s o := by
  unfold X9_either1_j39_5 at h
  exact FrS.tr Fr.rf (FR_X9_either1_j44_5 _ _ _ h)

theorem FR_X9_either1_b5 (x1 : Int32) (s : mSG) (o : (Int32 × mSG) ⊕ Int32 × mSG) (h : X9_either1_b5 x1 s = some o) : FrS W_X9_either1 (fun y : Int32 × mSG => y.2) ((fun y : Int32 × mSG => y.2)) s o := by
  unfold X9_either1_b5 at h
  obtain ⟨r2, hr, h⟩ := m_bind h
  by_cases hc : r2 = true
  · rw [if_pos hc] at h
    obtain ⟨r3, hr, h⟩ := m_bind h
    have fr3 : Fr W_X9_either1 s r3 := Fr.tr Fr.rf (Fr.mono (FR_X9_next _ _ hr) rfl)
    obtain ⟨r4, hr, h⟩ := m_bind h
    have fr4 : Fr W_X9_either1 s r4.2 := Fr.tr fr3 (Fr.mono (FR_X9_both1 _ _ hr) rfl)
    by_cases hc : x1 = 0
    · rw [if_pos hc] at h
      by_cases hc : r4.1 = 0
      · rw [if_pos hc] at h
        exact FrS.tr fr4 (FR_X9_either1_j44_5 _ _ _ h)
      · rw [if_neg hc] at h
        exact FrS.tr fr4 (FR_X9_either1_j39_5  _ _ h)
    · rw [if_neg hc] at h
      exact FrS.tr fr4 (FR_X9_either1_j39_5  _ _ h)
  · rw [if_neg hc] at h
    obtain rfl := Option.some.inj h
    exact ⟨fun y hy => (by cases hy), fun y hy => by obtain rfl := Sum.inr.inj hy; exact Fr.rf⟩

theorem FR_X9_either1_l5 (v : Int32 × mSG) (e : Int32 × mSG) (h : X9_either1_l5 v = some e) : Fr W_X9_either1 v.2 ((fun y : Int32 × mSG => y.2) e) :=
  FrS.iter (hy := fun y : Int32 × mSG => y.2) (he := (fun y : Int32 × mSG => y.2)) (fun x o hx => FR_X9_either1_b5 x.1 x.2 o hx) mFU v e h
theorem FR_X9_either1 (s : mSG) (o : Int32 × mSG) (h : X9_either1 s = some o) : Fr W_X9_either1 s o.2 := by
  unfold X9_either1 at h
  obtain ⟨r1, hr, h⟩ := m_bind h
  have fr1 : Fr W_X9_either1 s r1.2 := Fr.tr Fr.rf (Fr.mono (FR_X9_both1 _ _ hr) rfl)
  obtain ⟨e5, hl, h⟩ := m_bind h
  have fl5 : Fr W_X9_either1 s ((fun y : Int32 × mSG => y.2) e5) := Fr.tr fr1 (FR_X9_either1_l5  _ _ hl)
  obtain rfl := Option.some.inj h
  exact fl5

def W_X9_atom0 : List (Nat × Option Nat) := [(56, some 26), (56, some 27), (56, some 28), (56, some 29), (56, some 30), (56, some 31), (56, some 32)]
theorem FR_X9_atom0_j71 (x1 : Int32) (s : mSG) (o : Int32 × mSG) (h : X9_atom0_j71 x1 s = some o) : Fr W_X9_atom0 s o.2 := by
  unfold X9_atom0_j71 at h
  by_cases hc : (s.1 56 31) = 0
  · rw [if_pos hc] at h
    obtain ⟨r16, hr, h⟩ := m_bind h
    have fr16 : Fr W_X9_atom0 s r16 := Fr.tr (Fr.wI Fr.rf rfl) (Fr.mono (FR_X9_next _ _ hr) rfl)
    obtain rfl := Option.some.inj h
    exact fr16
  · rw [if_neg hc] at h
    obtain rfl := Option.some.inj h
    exact (Fr.wI Fr.rf rfl)

theorem FR_X9_atom0_j157 (x1 : Int32) (s : mSG) (o : Int32 × mSG) (h : X9_atom0_j157 x1 s = some o) : Fr W_X9_atom0 s o.2 := by
  unfold X9_atom0_j157 at h
  obtain ⟨r14, hr, h⟩ := m_bind h
  have fr14 : Fr W_X9_atom0 s r14 := Fr.tr Fr.rf (Fr.mono (FR_X9_fail _ _ hr) rfl)
  obtain rfl := Option.some.inj h
  exact fr14

theorem FR_X9_atom0_j123 (x1 : Int32) (s : mSG) (o : Int32 × mSG) (h : X9_atom0_j123 x1 s = some o) : Fr W_X9_atom0 s o.2 := by
  unfold X9_atom0_j123 at h
  by_cases hc : (s.1 56 31) = 0
  · rw [if_pos hc] at h
    by_cases hc : (s.1 56 27) = 1
    · rw [if_pos hc] at h
      obtain ⟨r11, hr, h⟩ := m_bind h
      have fr11 : Fr W_X9_atom0 s r11.2 := Fr.tr Fr.rf (Fr.mono (FR_X9_name _ _ hr) rfl)
      by_cases hc : (r11.2.1 56 31) = 0
      · rw [if_pos hc] at h
        obtain ⟨r13, hr, h⟩ := m_bind h
        have fr13 : Fr W_X9_atom0 s r13 := Fr.tr fr11 (Fr.mono (FR_X9_next _ _ hr) rfl)
        obtain rfl := Option.some.inj h
        exact fr13
      · rw [if_neg hc] at h
        obtain rfl := Option.some.inj h
        exact fr11
    · rw [if_neg hc] at h
      exact Fr.tr Fr.rf (FR_X9_atom0_j157 _ _ _ h)
  · rw [if_neg hc] at h
    exact Fr.tr Fr.rf (FR_X9_atom0_j157 _ _ _ h)

theorem FR_X9_atom0 (s : mSG) (o : Int32 × mSG) (h : X9_atom0 s = some o) : Fr W_X9_atom0 s o.2 := by
  unfold X9_atom0 at h
  by_cases hc : X9_isSign 45 s = true
  · rw [if_pos hc] at h
    obtain ⟨r7, hr, h⟩ := m_bind h
    have fr7 : Fr W_X9_atom0 s r7.2 := Fr.tr Fr.rf (Fr.mono (FR_X9_opens _ _ hr) rfl)
    by_cases hc : r7.1 = true
    · rw [if_pos hc] at h
      obtain ⟨r8, hr, h⟩ := m_bind h
      have fr8 : Fr W_X9_atom0 s r8.2 := Fr.tr fr7 (Fr.mono (FR_X9_atom1 _ _ hr) rfl)
      obtain rfl := Option.some.inj h
      exact (Fr.wI fr8 rfl)
    · rw [if_neg hc] at h
      obtain rfl := Option.some.inj h
      exact fr7
  · rw [if_neg hc] at h
    by_cases hc : X9_isSign 40 s = true
    · rw [if_pos hc] at h
      obtain ⟨r4, hr, h⟩ := m_bind h
      have fr4 : Fr W_X9_atom0 s r4.2 := Fr.tr Fr.rf (Fr.mono (FR_X9_opens _ _ hr) rfl)
      by_cases hc : r4.1 = true
      · rw [if_pos hc] at h
        obtain ⟨r5, hr, h⟩ := m_bind h
        have fr5 : Fr W_X9_atom0 s r5.2 := Fr.tr fr4 (Fr.mono (FR_X9_either1 _ _ hr) rfl)
        by_cases hc : X9_isSign 41 r5.2 = true
        · rw [if_pos hc] at h
          exact Fr.tr fr5 (FR_X9_atom0_j71 _ _ _ h)
        · rw [if_neg hc] at h
          obtain ⟨r6, hr, h⟩ := m_bind h
          have fr6 : Fr W_X9_atom0 s r6 := Fr.tr fr5 (Fr.mono (FR_X9_fail _ _ hr) rfl)
          exact Fr.tr fr6 (FR_X9_atom0_j71 _ _ _ h)
      · rw [if_neg hc] at h
        obtain rfl := Option.some.inj h
        exact fr4
    · rw [if_neg hc] at h
      by_cases hc : (s.1 56 31) = 0
      · rw [if_pos hc] at h
        by_cases hc : (s.1 56 27) = 2
        · rw [if_pos hc] at h
          obtain ⟨r3, hr, h⟩ := m_bind h
          have fr3 : Fr W_X9_atom0 s r3 := Fr.tr Fr.rf (Fr.mono (FR_X9_next _ _ hr) rfl)
          obtain rfl := Option.some.inj h
          exact fr3
        · rw [if_neg hc] at h
          exact Fr.tr Fr.rf (FR_X9_atom0_j123 _ _ _ h)
      · rw [if_neg hc] at h
        exact Fr.tr Fr.rf (FR_X9_atom0_j123 _ _ _ h)

def W_X9_term0 : List (Nat × Option Nat) := [(56, some 26), (56, some 27), (56, some 28), (56, some 29), (56, some 30), (56, some 31), (56, some 32)]
theorem FR_X9_term0_b5 (x1 : Int32) (s : mSG) (o : (Int32 × mSG) ⊕ Int32 × mSG) (h : X9_term0_b5 x1 s = some o) : FrS W_X9_term0 (fun y : Int32 × mSG => y.2) ((fun y : Int32 × mSG => y.2)) s o := by
  unfold X9_term0_b5 at h
  by_cases hc : X9_isSign 42 s = true
  · rw [if_pos hc] at h
    obtain ⟨r2, hr, h⟩ := m_bind h
    have fr2 : Fr W_X9_term0 s r2 := Fr.tr Fr.rf (Fr.mono (FR_X9_next _ _ hr) rfl)
    obtain ⟨r3, hr, h⟩ := m_bind h
    have fr3 : Fr W_X9_term0 s r3.2 := Fr.tr fr2 (Fr.mono (FR_X9_atom0 _ _ hr) rfl)
    obtain rfl := Option.some.inj h
    exact ⟨fun y hy => by obtain rfl := Sum.inl.inj hy; exact fr3, fun y hy => by cases hy⟩
  · rw [if_neg hc] at h
    obtain rfl := Option.some.inj h
    exact ⟨fun y hy => (by cases hy), fun y hy => by obtain rfl := Sum.inr.inj hy; exact Fr.rf⟩

theorem FR_X9_term0_l5 (v : Int32 × mSG) (e : Int32 × mSG) (h : X9_term0_l5 v = some e) : Fr W_X9_term0 v.2 ((fun y : Int32 × mSG => y.2) e) :=
  FrS.iter (hy := fun y : Int32 × mSG => y.2) (he := (fun y : Int32 × mSG => y.2)) (fun x o hx => FR_X9_term0_b5 x.1 x.2 o hx) mFU v e h
theorem FR_X9_term0 (s : mSG) (o : Int32 × mSG) (h : X9_term0 s = some o) : Fr W_X9_term0 s o.2 := by
  unfold X9_term0 at h
  obtain ⟨r1, hr, h⟩ := m_bind h
  have fr1 : Fr W_X9_term0 s r1.2 := Fr.tr Fr.rf (Fr.mono (FR_X9_atom0 _ _ hr) rfl)
  obtain ⟨e5, hl, h⟩ := m_bind h
  have fl5 : Fr W_X9_term0 s ((fun y : Int32 × mSG => y.2) e5) := Fr.tr fr1 (FR_X9_term0_l5  _ _ hl)
  obtain rfl := Option.some.inj h
  exact fl5

def W_X9_added0 : List (Nat × Option Nat) := [(56, some 26), (56, some 27), (56, some 28), (56, some 29), (56, some 30), (56, some 31), (56, some 32)]
theorem FR_X9_added0_j62_5 (p0 : Int32) (s : mSG) (o : (Int32 × mSG) ⊕ Int32 × mSG) (h : X9_added0_j62_5 p0 s = some o) : FrS W_X9_added0 (fun y : Int32 × mSG => y.2) ((fun y : Int32 × mSG => y.2)) s o := by
  unfold X9_added0_j62_5 at h
  obtain rfl := Option.some.inj h
  exact ⟨fun y hy => by obtain rfl := Sum.inl.inj hy; exact Fr.rf, fun y hy => by cases hy⟩

theorem FR_X9_added0_j39_5 (x1 : Int32) (p0 : Int32) (s : mSG) (o : (Int32 × mSG) ⊕ Int32 × mSG) (h : X9_added0_j39_5 x1 p0 s = some o) : FrS W_X9_added0 (fun y : Int32 × mSG => y.2) ((fun y : Int32 × mSG => y.2)) s o := by
  unfold X9_added0_j39_5 at h
  obtain ⟨r3, hr, h⟩ := m_bind h
  have fr3 : Fr W_X9_added0 s r3 := Fr.tr Fr.rf (Fr.mono (FR_X9_next _ _ hr) rfl)
  obtain ⟨r4, hr, h⟩ := m_bind h
  have fr4 : Fr W_X9_added0 s r4.2 := Fr.tr fr3 (Fr.mono (FR_X9_term0 _ _ hr) rfl)
  by_cases hc : p0 = 0
  · rw [if_pos hc] at h
    exact FrS.tr fr4 (FR_X9_added0_j62_5 _ _ _ h)
  · rw [if_neg hc] at h
    exact FrS.tr fr4 (FR_X9_added0_j62_5 _ _ _ h)

theorem FR_X9_added0_j23_5 (x1 : Int32) (s : mSG) (o : (Int32 × mSG) ⊕ Int32 × mSG) (h : X9_added0_j23_5 x1 s = some o) : FrS W_X9_added0 (fun y : Int32 × mSG => y.2) ((fun y : Int32 × mSG => y.2)) s o := by
  unfold X9_added0_j23_5 at h
  by_cases hc : (lg_cmp (s.2.2 56 29) 43) = 0
  · rw [if_pos hc] at h
    exact FrS.tr Fr.rf (FR_X9_added0_j39_5 _ _ _ _ h)
  · rw [if_neg hc] at h
    exact FrS.tr Fr.rf (FR_X9_added0_j39_5 _ _ _ _ h)

theorem FR_X9_added0_b5 (x1 : Int32) (s : mSG) (o : (Int32 × mSG) ⊕ Int32 × mSG) (h : X9_added0_b5 x1 s = some o) : FrS W_X9_added0 (fun y : Int32 × mSG => y.2) ((fun y : Int32 × mSG => y.2)) s o := by
  unfold X9_added0_b5 at h
  by_cases hc : X9_isSign 43 s = true
  · rw [if_pos hc] at h
    exact FrS.tr Fr.rf (FR_X9_added0_j23_5 _ _ _ h)
  · rw [if_neg hc] at h
    by_cases hc : X9_isSign 45 s = true
    · rw [if_pos hc] at h
      exact FrS.tr Fr.rf (FR_X9_added0_j23_5 _ _ _ h)
    · rw [if_neg hc] at h
      obtain rfl := Option.some.inj h
      exact ⟨fun y hy => (by cases hy), fun y hy => by obtain rfl := Sum.inr.inj hy; exact Fr.rf⟩

theorem FR_X9_added0_l5 (v : Int32 × mSG) (e : Int32 × mSG) (h : X9_added0_l5 v = some e) : Fr W_X9_added0 v.2 ((fun y : Int32 × mSG => y.2) e) :=
  FrS.iter (hy := fun y : Int32 × mSG => y.2) (he := (fun y : Int32 × mSG => y.2)) (fun x o hx => FR_X9_added0_b5 x.1 x.2 o hx) mFU v e h
theorem FR_X9_added0 (s : mSG) (o : Int32 × mSG) (h : X9_added0 s = some o) : Fr W_X9_added0 s o.2 := by
  unfold X9_added0 at h
  obtain ⟨r1, hr, h⟩ := m_bind h
  have fr1 : Fr W_X9_added0 s r1.2 := Fr.tr Fr.rf (Fr.mono (FR_X9_term0 _ _ hr) rfl)
  obtain ⟨e5, hl, h⟩ := m_bind h
  have fl5 : Fr W_X9_added0 s ((fun y : Int32 × mSG => y.2) e5) := Fr.tr fr1 (FR_X9_added0_l5  _ _ hl)
  obtain rfl := Option.some.inj h
  exact fl5

def W_X9_not0 : List (Nat × Option Nat) := [(56, some 26), (56, some 27), (56, some 28), (56, some 29), (56, some 30), (56, some 31), (56, some 32)]
theorem FR_X9_not0_j93 (x1 : Int32) (p0 : Int32) (s : mSG) (o : Int32 × mSG) (h : X9_not0_j93 x1 p0 s = some o) : Fr W_X9_not0 s o.2 := by
  unfold X9_not0_j93 at h
  obtain ⟨r7, hr, h⟩ := m_bind h
  have fr7 : Fr W_X9_not0 s r7 := Fr.tr Fr.rf (Fr.mono (FR_X9_next _ _ hr) rfl)
  obtain ⟨r8, hr, h⟩ := m_bind h
  have fr8 : Fr W_X9_not0 s r8.2 := Fr.tr fr7 (Fr.mono (FR_X9_added0 _ _ hr) rfl)
  by_cases hc : p0 = 0
  · rw [if_pos hc] at h
    by_cases hc : x1 = r8.1
    · rw [if_pos hc] at h
      obtain rfl := Option.some.inj h
      exact fr8
    · rw [if_neg hc] at h
      obtain rfl := Option.some.inj h
      exact fr8
  · rw [if_neg hc] at h
    by_cases hc : r8.1 ≤ x1
    · rw [if_pos hc] at h
      obtain rfl := Option.some.inj h
      exact fr8
    · rw [if_neg hc] at h
      obtain rfl := Option.some.inj h
      exact fr8

theorem FR_X9_not0_j77 (x1 : Int32) (s : mSG) (o : Int32 × mSG) (h : X9_not0_j77 x1 s = some o) : Fr W_X9_not0 s o.2 := by
  unfold X9_not0_j77 at h
  by_cases hc : (lg_cmp (s.2.2 56 29) 60) = 0
  · rw [if_pos hc] at h
    exact Fr.tr Fr.rf (FR_X9_not0_j93 _ _ _ _ h)
  · rw [if_neg hc] at h
    exact Fr.tr Fr.rf (FR_X9_not0_j93 _ _ _ _ h)

theorem FR_X9_not0 (s : mSG) (o : Int32 × mSG) (h : X9_not0 s = some o) : Fr W_X9_not0 s o.2 := by
  unfold X9_not0 at h
  obtain ⟨r1, hr, h⟩ := m_bind h
  by_cases hc : r1 = true
  · rw [if_pos hc] at h
    obtain ⟨r3, hr, h⟩ := m_bind h
    have fr3 : Fr W_X9_not0 s r3.2 := Fr.tr Fr.rf (Fr.mono (FR_X9_opens _ _ hr) rfl)
    by_cases hc : r3.1 = true
    · rw [if_pos hc] at h
      obtain ⟨r4, hr, h⟩ := m_bind h
      have fr4 : Fr W_X9_not0 s r4.2 := Fr.tr fr3 (Fr.mono (FR_X9_not1 _ _ hr) rfl)
      by_cases hc : r4.1 = 0
      · rw [if_pos hc] at h
        obtain rfl := Option.some.inj h
        exact (Fr.wI fr4 rfl)
      · rw [if_neg hc] at h
        obtain rfl := Option.some.inj h
        exact (Fr.wI fr4 rfl)
    · rw [if_neg hc] at h
      obtain rfl := Option.some.inj h
      exact fr3
  · rw [if_neg hc] at h
    obtain ⟨r2, hr, h⟩ := m_bind h
    have fr2 : Fr W_X9_not0 s r2.2 := Fr.tr Fr.rf (Fr.mono (FR_X9_added0 _ _ hr) rfl)
    by_cases hc : X9_isSign 60 r2.2 = true
    · rw [if_pos hc] at h
      exact Fr.tr fr2 (FR_X9_not0_j77 _ _ _ h)
    · rw [if_neg hc] at h
      by_cases hc : X9_isSign 61 r2.2 = true
      · rw [if_pos hc] at h
        exact Fr.tr fr2 (FR_X9_not0_j77 _ _ _ h)
      · rw [if_neg hc] at h
        obtain rfl := Option.some.inj h
        exact fr2

def W_X9_both0 : List (Nat × Option Nat) := [(56, some 26), (56, some 27), (56, some 28), (56, some 29), (56, some 30), (56, some 31), (56, some 32)]
theorem FR_X9_both0_j45_5 (p0 : Int32) (s : mSG) (o : (Int32 × mSG) ⊕ Int32 × mSG) (h : X9_both0_j45_5 p0 s = some o) : FrS W_X9_both0 (fun y : Int32 × mSG => y.2) ((fun y : Int32 × mSG => y.2)) s o := by
  unfold X9_both0_j45_5 at h
  obtain rfl := Option.some.inj h
  exact ⟨fun y hy => by obtain rfl := Sum.inl.inj hy; exact Fr.rf, fun y hy => by cases hy⟩

theorem FR_X9_both0_j44_5 (s : mSG) (o : (Int32 × mSG) ⊕ Int32 × mSG) (h : X9_both0_j44_5 s = some o) : FrS W_X9_both0 (fun y : Int32 × mSG => y.2) ((fun y : Int32 × mSG => y.2)) s o := by
  unfold X9_both0_j44_5 at h
  exact FrS.tr Fr.rf (FR_X9_both0_j45_5 _ _ _ h)

theorem FR_X9_both0_b5 (x1 : Int32) (s : mSG) (o : (Int32 × mSG) ⊕ Int32 × mSG) (h : X9_both0_b5 x1 s = some o) : FrS W_X9_both0 (fun y : Int32 × mSG => y.2) ((fun y : Int32 × mSG => y.2)) s o := by
  unfold X9_both0_b5 at h
  obtain ⟨r2, hr, h⟩ := m_bind h
  by_cases hc : r2 = true
  · rw [if_pos hc] at h
    obtain ⟨r3, hr, h⟩ := m_bind h
    have fr3 : Fr W_X9_both0 s r3 := Fr.tr Fr.rf (Fr.mono (FR_X9_next _ _ hr) rfl)
    obtain ⟨r4, hr, h⟩ := m_bind h
    have fr4 : Fr W_X9_both0 s r4.2 := Fr.tr fr3 (Fr.mono (FR_X9_not0 _ _ hr) rfl)
    by_cases hc : x1 = 0
    · rw [if_pos hc] at h
      exact FrS.tr fr4 (FR_X9_both0_j44_5  _ _ h)
    · rw [if_neg hc] at h
      by_cases hc : r4.1 = 0
      · rw [if_pos hc] at h
        exact FrS.tr fr4 (FR_X9_both0_j44_5  _ _ h)
      · rw [if_neg hc] at h
        exact FrS.tr fr4 (FR_X9_both0_j45_5 _ _ _ h)
  · rw [if_neg hc] at h
    obtain rfl := Option.some.inj h
    exact ⟨fun y hy => (by cases hy), fun y hy => by obtain rfl := Sum.inr.inj hy; exact Fr.rf⟩

theorem FR_X9_both0_l5 (v : Int32 × mSG) (e : Int32 × mSG) (h : X9_both0_l5 v = some e) : Fr W_X9_both0 v.2 ((fun y : Int32 × mSG => y.2) e) :=
  FrS.iter (hy := fun y : Int32 × mSG => y.2) (he := (fun y : Int32 × mSG => y.2)) (fun x o hx => FR_X9_both0_b5 x.1 x.2 o hx) mFU v e h
theorem FR_X9_both0 (s : mSG) (o : Int32 × mSG) (h : X9_both0 s = some o) : Fr W_X9_both0 s o.2 := by
  unfold X9_both0 at h
  obtain ⟨r1, hr, h⟩ := m_bind h
  have fr1 : Fr W_X9_both0 s r1.2 := Fr.tr Fr.rf (Fr.mono (FR_X9_not0 _ _ hr) rfl)
  obtain ⟨e5, hl, h⟩ := m_bind h
  have fl5 : Fr W_X9_both0 s ((fun y : Int32 × mSG => y.2) e5) := Fr.tr fr1 (FR_X9_both0_l5  _ _ hl)
  obtain rfl := Option.some.inj h
  exact fl5

def W_X9_either0 : List (Nat × Option Nat) := [(56, some 26), (56, some 27), (56, some 28), (56, some 29), (56, some 30), (56, some 31), (56, some 32)]
theorem FR_X9_either0_j44_5 (p0 : Int32) (s : mSG) (o : (Int32 × mSG) ⊕ Int32 × mSG) (h : X9_either0_j44_5 p0 s = some o) : FrS W_X9_either0 (fun y : Int32 × mSG => y.2) ((fun y : Int32 × mSG => y.2)) s o := by
  unfold X9_either0_j44_5 at h
  obtain rfl := Option.some.inj h
  exact ⟨fun y hy => by obtain rfl := Sum.inl.inj hy; exact Fr.rf, fun y hy => by cases hy⟩

theorem FR_X9_either0_j39_5 (s : mSG) (o : (Int32 × mSG) ⊕ Int32 × mSG) (h : X9_either0_j39_5 s = some o) : FrS W_X9_either0 (fun y : Int32 × mSG => y.2) ((fun y : Int32 × mSG => y.2)) s o := by
  unfold X9_either0_j39_5 at h
  exact FrS.tr Fr.rf (FR_X9_either0_j44_5 _ _ _ h)

theorem FR_X9_either0_b5 (x1 : Int32) (s : mSG) (o : (Int32 × mSG) ⊕ Int32 × mSG) (h : X9_either0_b5 x1 s = some o) : FrS W_X9_either0 (fun y : Int32 × mSG => y.2) ((fun y : Int32 × mSG => y.2)) s o := by
  unfold X9_either0_b5 at h
  obtain ⟨r2, hr, h⟩ := m_bind h
  by_cases hc : r2 = true
  · rw [if_pos hc] at h
    obtain ⟨r3, hr, h⟩ := m_bind h
    have fr3 : Fr W_X9_either0 s r3 := Fr.tr Fr.rf (Fr.mono (FR_X9_next _ _ hr) rfl)
    obtain ⟨r4, hr, h⟩ := m_bind h
    have fr4 : Fr W_X9_either0 s r4.2 := Fr.tr fr3 (Fr.mono (FR_X9_both0 _ _ hr) rfl)
    by_cases hc : x1 = 0
    · rw [if_pos hc] at h
      by_cases hc : r4.1 = 0
      · rw [if_pos hc] at h
        exact FrS.tr fr4 (FR_X9_either0_j44_5 _ _ _ h)
      · rw [if_neg hc] at h
        exact FrS.tr fr4 (FR_X9_either0_j39_5  _ _ h)
    · rw [if_neg hc] at h
      exact FrS.tr fr4 (FR_X9_either0_j39_5  _ _ h)
  · rw [if_neg hc] at h
    obtain rfl := Option.some.inj h
    exact ⟨fun y hy => (by cases hy), fun y hy => by obtain rfl := Sum.inr.inj hy; exact Fr.rf⟩

theorem FR_X9_either0_l5 (v : Int32 × mSG) (e : Int32 × mSG) (h : X9_either0_l5 v = some e) : Fr W_X9_either0 v.2 ((fun y : Int32 × mSG => y.2) e) :=
  FrS.iter (hy := fun y : Int32 × mSG => y.2) (he := (fun y : Int32 × mSG => y.2)) (fun x o hx => FR_X9_either0_b5 x.1 x.2 o hx) mFU v e h
theorem FR_X9_either0 (s : mSG) (o : Int32 × mSG) (h : X9_either0 s = some o) : Fr W_X9_either0 s o.2 := by
  unfold X9_either0 at h
  obtain ⟨r1, hr, h⟩ := m_bind h
  have fr1 : Fr W_X9_either0 s r1.2 := Fr.tr Fr.rf (Fr.mono (FR_X9_both0 _ _ hr) rfl)
  obtain ⟨e5, hl, h⟩ := m_bind h
  have fl5 : Fr W_X9_either0 s ((fun y : Int32 × mSG => y.2) e5) := Fr.tr fr1 (FR_X9_either0_l5  _ _ hl)
  obtain rfl := Option.some.inj h
  exact fl5

def W_X9_part : List (Nat × Option Nat) := [(56, some 26), (56, some 27), (56, some 28), (56, some 29), (56, some 30), (56, some 31), (56, some 32)]
theorem FR_X9_part_j48 (x2 : Int32) (s : mSG) (o : Int32 × mSG) (h : X9_part_j48 x2 s = some o) : Fr W_X9_part s o.2 := by
  unfold X9_part_j48 at h
  by_cases hc : (s.1 56 31) = 0
  · rw [if_pos hc] at h
    obtain ⟨r9, hr, h⟩ := m_bind h
    have fr9 : Fr W_X9_part s r9 := Fr.tr Fr.rf (Fr.mono (FR_X9_next _ _ hr) rfl)
    obtain rfl := Option.some.inj h
    exact fr9
  · rw [if_neg hc] at h
    obtain rfl := Option.some.inj h
    exact Fr.rf

theorem FR_X9_part_j34 (p0 : Int32) (s : mSG) (o : Int32 × mSG) (h : X9_part_j34 p0 s = some o) : Fr W_X9_part s o.2 := by
  unfold X9_part_j34 at h
  by_cases hc : X9_isSign 59 s = true
  · rw [if_pos hc] at h
    exact Fr.tr Fr.rf (FR_X9_part_j48 _ _ _ h)
  · rw [if_neg hc] at h
    obtain ⟨r7, hr, h⟩ := m_bind h
    have fr7 : Fr W_X9_part s r7 := Fr.tr Fr.rf (Fr.mono (FR_X9_fail _ _ hr) rfl)
    exact Fr.tr fr7 (FR_X9_part_j48 _ _ _ h)

theorem FR_X9_part_j19 (s : mSG) (o : Int32 × mSG) (h : X9_part_j19 s = some o) : Fr W_X9_part s o.2 := by
  unfold X9_part_j19 at h
  by_cases hc : (s.1 56 31) = 0
  · rw [if_pos hc] at h
    obtain ⟨r6, hr, h⟩ := m_bind h
    have fr6 : Fr W_X9_part s r6.2 := Fr.tr Fr.rf (Fr.mono (FR_X9_either0 _ _ hr) rfl)
    exact Fr.tr fr6 (FR_X9_part_j34 _ _ _ h)
  · rw [if_neg hc] at h
    exact Fr.tr Fr.rf (FR_X9_part_j34 _ _ _ h)

theorem FR_X9_part_j8 (s : mSG) (o : Int32 × mSG) (h : X9_part_j8 s = some o) : Fr W_X9_part s o.2 := by
  unfold X9_part_j8 at h
  by_cases hc : (s.1 56 31) = 0
  · rw [if_pos hc] at h
    obtain ⟨r4, hr, h⟩ := m_bind h
    have fr4 : Fr W_X9_part s r4 := Fr.tr Fr.rf (Fr.mono (FR_X9_next _ _ hr) rfl)
    exact Fr.tr fr4 (FR_X9_part_j19  _ _ h)
  · rw [if_neg hc] at h
    exact Fr.tr Fr.rf (FR_X9_part_j19  _ _ h)

theorem FR_X9_part (x1 : Int32) (s : mSG) (o : Int32 × mSG) (h : X9_part x1 s = some o) : Fr W_X9_part s o.2 := by
  unfold X9_part at h
  by_cases hc : x1 = 0
  · rw [if_pos hc] at h
    obtain ⟨r2, hr, h⟩ := m_bind h
    have fr2 : Fr W_X9_part s r2 := Fr.tr Fr.rf (Fr.mono (FR_X9_fail _ _ hr) rfl)
    exact Fr.tr fr2 (FR_X9_part_j8  _ _ h)
  · rw [if_neg hc] at h
    exact Fr.tr Fr.rf (FR_X9_part_j8  _ _ h)

def W_X9_read : List (Nat × Option Nat) := [(56, some 24), (56, some 25), (56, some 26), (56, some 27), (56, some 28), (56, some 29), (56, some 30), (56, some 31), (56, some 32)]
theorem FR_X9_read_j146 (x2 : Int32) (x3 : Int32) (x4 : Int32) (x5 : Int32) (s : mSG) (o : Int32 × mSG) (h : X9_read_j146 x2 x3 x4 x5 s = some o) : Fr W_X9_read s o.2 := by
  unfold X9_read_j146 at h
  by_cases hc : x2 = 0
  · rw [if_pos hc] at h
    obtain rfl := Option.some.inj h
    exact Fr.rf
  · rw [if_neg hc] at h
    by_cases hc : x2 = 1
    · rw [if_pos hc] at h
      obtain rfl := Option.some.inj h
      exact Fr.rf
    · rw [if_neg hc] at h
      obtain rfl := Option.some.inj h
      exact Fr.rf

theorem FR_X9_read_j126 (x2 : Int32) (x3 : Int32) (x4 : Int32) (p0 : Int32) (s : mSG) (o : Int32 × mSG) (h : X9_read_j126 x2 x3 x4 p0 s = some o) : Fr W_X9_read s o.2 := by
  unfold X9_read_j126 at h
  by_cases hc : (s.1 56 31) = 0
  · rw [if_pos hc] at h
    by_cases hc : (s.1 56 27) = 0
    · rw [if_pos hc] at h
      exact Fr.tr Fr.rf (FR_X9_read_j146 _ _ _ _ _ _ h)
    · rw [if_neg hc] at h
      obtain ⟨r13, hr, h⟩ := m_bind h
      have fr13 : Fr W_X9_read s r13 := Fr.tr Fr.rf (Fr.mono (FR_X9_fail _ _ hr) rfl)
      exact Fr.tr fr13 (FR_X9_read_j146 _ _ _ _ _ _ h)
  · rw [if_neg hc] at h
    exact Fr.tr Fr.rf (FR_X9_read_j146 _ _ _ _ _ _ h)

theorem FR_X9_read_j92 (x2 : Int32) (x3 : Int32) (p0 : Int32) (s : mSG) (o : Int32 × mSG) (h : X9_read_j92 x2 x3 p0 s = some o) : Fr W_X9_read s o.2 := by
  unfold X9_read_j92 at h
  by_cases hc : (s.1 56 31) = 0
  · rw [if_pos hc] at h
    obtain ⟨r9, hr, h⟩ := m_bind h
    obtain ⟨r10, hr, h⟩ := m_bind h
    have fr10 : Fr W_X9_read s r10.2 := Fr.tr Fr.rf (Fr.mono (FR_X9_part _ _ _ hr) rfl)
    exact Fr.tr fr10 (FR_X9_read_j126 _ _ _ _ _ _ h)
  · rw [if_neg hc] at h
    exact Fr.tr Fr.rf (FR_X9_read_j126 _ _ _ _ _ _ h)

theorem FR_X9_read (x1 : Int32) (x2 : Int32) (s : mSG) (o : Int32 × mSG) (h : X9_read x1 x2 s = some o) : Fr W_X9_read s o.2 := by
  unfold X9_read at h
  obtain ⟨-, h⟩ := m_ite h
  obtain ⟨r2, hr, h⟩ := m_bind h
  have fr2 : Fr W_X9_read s r2 := Fr.tr (Fr.wI (Fr.wI (Fr.wI (Fr.wI (Fr.wI Fr.rf rfl) rfl) rfl) rfl) rfl) (Fr.mono (FR_X9_next _ _ hr) rfl)
  obtain ⟨r3, hr, h⟩ := m_bind h
  obtain ⟨r4, hr, h⟩ := m_bind h
  have fr4 : Fr W_X9_read s r4.2 := Fr.tr fr2 (Fr.mono (FR_X9_part _ _ _ hr) rfl)
  by_cases hc : (r4.2.1 56 31) = 0
  · rw [if_pos hc] at h
    obtain ⟨r6, hr, h⟩ := m_bind h
    obtain ⟨r7, hr, h⟩ := m_bind h
    have fr7 : Fr W_X9_read s r7.2 := Fr.tr fr4 (Fr.mono (FR_X9_part _ _ _ hr) rfl)
    exact Fr.tr fr7 (FR_X9_read_j92 _ _ _ _ _ h)
  · rw [if_neg hc] at h
    exact Fr.tr fr4 (FR_X9_read_j92 _ _ _ _ _ h)

def W_X9_text : List (Nat × Option Nat) := [(56, some 3), (56, some 6), (56, some 24), (56, some 25), (56, some 26), (56, some 27), (56, some 28), (56, some 29), (56, some 30), (56, some 31), (56, some 32), (57, none), (58, none)]
theorem FR_X9_text_b14 (x1 : Int32) (s : mSG) (o : (Int32 × mSG) ⊕ mSG) (h : X9_text_b14 x1 s = some o) : FrS W_X9_text (fun y : Int32 × mSG => y.2) ((fun y : mSG => y)) s o := by
  unfold X9_text_b14 at h
  by_cases hc : (s.1 56 6) ≤ x1
  · rw [if_pos hc] at h
    obtain rfl := Option.some.inj h
    exact ⟨fun y hy => (by cases hy), fun y hy => by obtain rfl := Sum.inr.inj hy; exact Fr.rf⟩
  · rw [if_neg hc] at h
    obtain ⟨-, h⟩ := m_ite h
    obtain ⟨-, h⟩ := m_ite h
    obtain rfl := Option.some.inj h
    exact ⟨fun y hy => by obtain rfl := Sum.inl.inj hy; exact (Fr.wI Fr.rf rfl), fun y hy => by cases hy⟩

theorem FR_X9_text_l14 (v : Int32 × mSG) (e : mSG) (h : X9_text_l14 v = some e) : Fr W_X9_text v.2 ((fun y : mSG => y) e) :=
  FrS.iter (hy := fun y : Int32 × mSG => y.2) (he := (fun y : mSG => y)) (fun x o hx => FR_X9_text_b14 x.1 x.2 o hx) mFU v e h
theorem FR_X9_text (s : mSG) (o : Int32 × mSG) (h : X9_text s = some o) : Fr W_X9_text s o.2 := by
  unfold X9_text at h
  by_cases hc : (s.1 56 3) = 6
  · rw [if_pos hc] at h
    obtain rfl := Option.some.inj h
    exact Fr.rf
  · rw [if_neg hc] at h
    obtain ⟨e14, hl, h⟩ := m_bind h
    have fl14 : Fr W_X9_text s ((fun y : mSG => y) e14) := Fr.tr Fr.rf (FR_X9_text_l14  _ _ hl)
    obtain ⟨-, h⟩ := m_ite h
    obtain ⟨r6, hr, h⟩ := m_bind h
    have fr6 : Fr W_X9_text s r6.2 := Fr.tr (Fr.wI (Fr.wI fl14 rfl) rfl) (Fr.mono (FR_X9_read _ _ _ _ hr) rfl)
    by_cases hc : (r6.2.1 56 31) = 0
    · rw [if_pos hc] at h
      obtain rfl := Option.some.inj h
      exact (Fr.wI fr6 rfl)
    · rw [if_neg hc] at h
      obtain rfl := Option.some.inj h
      exact fr6

def W_X9_force : List (Nat × Option Nat) := [(56, some 4)]
theorem FR_X9_force (x1 : Int32) (s : mSG) (o : Int32 × mSG) (h : X9_force x1 s = some o) : Fr W_X9_force s o.2 := by
  unfold X9_force at h
  by_cases hc : X9_in x1.toInt64 0 (((s.1 56 3) - 1).toInt64) = true
  · rw [if_pos hc] at h
    obtain rfl := Option.some.inj h
    exact (Fr.wI Fr.rf rfl)
  · rw [if_neg hc] at h
    obtain rfl := Option.some.inj h
    exact Fr.rf

def W_X9_says : List (Nat × Option Nat) := [(56, some 18), (56, some 19), (56, some 20), (56, some 21), (56, some 22), (56, some 23), (56, some 24), (56, some 25), (56, some 26), (56, some 27), (56, some 28), (56, some 29), (56, some 30), (56, some 31), (56, some 32)]
theorem FR_X9_says_j23 (x1 : Int32) (x2 : Int32) (x3 : Int32) (x4 : Int32) (x5 : Int32) (x6 : Int32) (p1 : Int32) (s : mSG) (o : Int32 × mSG) (h : X9_says_j23 x1 x2 x3 x4 x5 x6 p1 s = some o) : Fr W_X9_says s o.2 := by
  unfold X9_says_j23 at h
  obtain ⟨-, h⟩ := m_ite h
  obtain ⟨r4, hr, h⟩ := m_bind h
  have fr4 : Fr W_X9_says s r4.2 := Fr.tr (Fr.wI (Fr.wI (Fr.wI (Fr.wI (Fr.wI (Fr.wI Fr.rf rfl) rfl) rfl) rfl) rfl) rfl) (Fr.mono (FR_X9_read _ _ _ _ hr) rfl)
  obtain rfl := Option.some.inj h
  exact fr4

theorem FR_X9_says (x1 : Int32) (x2 : Int32) (x3 : Int32) (x4 : Int32) (x5 : Int32) (x6 : Int32) (s : mSG) (o : Int32 × mSG) (h : X9_says x1 x2 x3 x4 x5 x6 s = some o) : Fr W_X9_says s o.2 := by
  unfold X9_says at h
  by_cases hc : x1 = 2
  · rw [if_pos hc] at h
    exact Fr.tr Fr.rf (FR_X9_says_j23 _ _ _ _ _ _ _ _ _ h)
  · rw [if_neg hc] at h
    obtain ⟨-, h⟩ := m_ite h
    exact Fr.tr Fr.rf (FR_X9_says_j23 _ _ _ _ _ _ _ _ _ h)

def W_X9_canGo : List (Nat × Option Nat) := [(56, some 18), (56, some 19), (56, some 20), (56, some 21), (56, some 22), (56, some 23), (56, some 24), (56, some 25), (56, some 26), (56, some 27), (56, some 28), (56, some 29), (56, some 30), (56, some 31), (56, some 32)]
theorem FR_X9_canGo (x1 : Int32) (x2 : Int32) (x3 : Int32) (x4 : Int32) (x5 : Int32) (s : mSG) (o : Bool × mSG) (h : X9_canGo x1 x2 x3 x4 x5 s = some o) : Fr W_X9_canGo s o.2 := by
  unfold X9_canGo at h
  obtain ⟨-, h⟩ := m_ite h
  by_cases hc : x4 = x5
  · rw [if_pos hc] at h
    obtain rfl := Option.some.inj h
    exact Fr.rf
  · rw [if_neg hc] at h
    by_cases hc : (s.1 60 ((8 * x4) + x5).toNatClampNeg) ≤ 0
    · rw [if_pos hc] at h
      obtain rfl := Option.some.inj h
      exact Fr.rf
    · rw [if_neg hc] at h
      obtain ⟨r4, hr, h⟩ := m_bind h
      obtain ⟨r5, hr, h⟩ := m_bind h
      have fr5 : Fr W_X9_canGo s r5.2 := Fr.tr Fr.rf (Fr.mono (FR_X9_says _ _ _ _ _ _ _ _ hr) rfl)
      by_cases hc : r4 < ((s.1 60 ((8 * x4) + x5).toNatClampNeg) + r5.1)
      · rw [if_pos hc] at h
        obtain rfl := Option.some.inj h
        exact fr5
      · rw [if_neg hc] at h
        obtain rfl := Option.some.inj h
        exact fr5

def W_X9_hoursOf : List (Nat × Option Nat) := [(56, some 18), (56, some 19), (56, some 20), (56, some 21), (56, some 22), (56, some 23), (56, some 24), (56, some 25), (56, some 26), (56, some 27), (56, some 28), (56, some 29), (56, some 30), (56, some 31), (56, some 32)]
theorem FR_X9_hoursOf (x1 : Int32) (x2 : Int32) (x3 : Int32) (x4 : Int32) (x5 : Int32) (s : mSG) (o : Int32 × mSG) (h : X9_hoursOf x1 x2 x3 x4 x5 s = some o) : Fr W_X9_hoursOf s o.2 := by
  unfold X9_hoursOf at h
  obtain ⟨-, h⟩ := m_ite h
  obtain ⟨r2, hr, h⟩ := m_bind h
  obtain ⟨r3, hr, h⟩ := m_bind h
  have fr3 : Fr W_X9_hoursOf s r3.2 := Fr.tr Fr.rf (Fr.mono (FR_X9_says _ _ _ _ _ _ _ _ hr) rfl)
  obtain rfl := Option.some.inj h
  exact fr3

def W_X9_can : List (Nat × Option Nat) := [(56, some 18), (56, some 19), (56, some 20), (56, some 21), (56, some 22), (56, some 23), (56, some 24), (56, some 25), (56, some 26), (56, some 27), (56, some 28), (56, some 29), (56, some 30), (56, some 31), (56, some 32)]
theorem FR_X9_can (x1 : Int32) (x2 : Int32) (x3 : Int32) (s : mSG) (o : Int32 × mSG) (h : X9_can x1 x2 x3 s = some o) : Fr W_X9_can s o.2 := by
  unfold X9_can at h
  by_cases hc : X9_isOne x1 s = true
  · rw [if_pos hc] at h
    by_cases hc : X9_isStone x2 = true
    · rw [if_pos hc] at h
      by_cases hc : X9_in x3.toInt64 0 1 = true
      · rw [if_pos hc] at h
        obtain ⟨-, h⟩ := m_ite h
        obtain ⟨r2, hr, h⟩ := m_bind h
        obtain ⟨r3, hr, h⟩ := m_bind h
        have fr3 : Fr W_X9_can s r3.2 := Fr.tr Fr.rf (Fr.mono (FR_X9_canGo _ _ _ _ _ _ _ hr) rfl)
        by_cases hc : x3 = 0
        · rw [if_pos hc] at h
          by_cases hc : (b2i r3.1) = 0
          · rw [if_pos hc] at h
            obtain rfl := Option.some.inj h
            exact fr3
          · rw [if_neg hc] at h
            obtain rfl := Option.some.inj h
            exact fr3
        · rw [if_neg hc] at h
          by_cases hc : (b2i r3.1) = 0
          · rw [if_pos hc] at h
            obtain rfl := Option.some.inj h
            exact fr3
          · rw [if_neg hc] at h
            obtain ⟨r7, hr, h⟩ := m_bind h
            obtain ⟨r8, hr, h⟩ := m_bind h
            have fr8 : Fr W_X9_can s r8.2 := Fr.tr fr3 (Fr.mono (FR_X9_hoursOf _ _ _ _ _ _ _ hr) rfl)
            obtain rfl := Option.some.inj h
            exact fr8
      · rw [if_neg hc] at h
        obtain rfl := Option.some.inj h
        exact Fr.rf
    · rw [if_neg hc] at h
      obtain rfl := Option.some.inj h
      exact Fr.rf
  · rw [if_neg hc] at h
    obtain rfl := Option.some.inj h
    exact Fr.rf

def W_X9_goes : List (Nat × Option Nat) := [(56, some 16), (56, some 18), (56, some 19), (56, some 20), (56, some 21), (56, some 22), (56, some 23), (56, some 24), (56, some 25), (56, some 26), (56, some 27), (56, some 28), (56, some 29), (56, some 30), (56, some 31), (56, some 32), (65, none), (66, none)]
theorem FR_X9_goes (x1 : Int32) (x2 : Int32) (s : mSG) (o : Bool × mSG) (h : X9_goes x1 x2 s = some o) : Fr W_X9_goes s o.2 := by
  unfold X9_goes at h
  obtain ⟨r1, hr, h⟩ := m_bind h
  obtain ⟨-, h⟩ := m_ite h
  obtain ⟨r3, hr, h⟩ := m_bind h
  have fr3 : Fr W_X9_goes s r3.2 := Fr.tr Fr.rf (Fr.mono (FR_X9_canGo _ _ _ _ _ _ _ hr) rfl)
  by_cases hc : r3.1 = true
  · rw [if_pos hc] at h
    obtain ⟨r4, hr, h⟩ := m_bind h
    have fr4 : Fr W_X9_goes s r4.2 := Fr.tr fr3 (Fr.mono (FR_X9_hoursOf _ _ _ _ _ _ _ hr) rfl)
    obtain ⟨r5, hr, h⟩ := m_bind h
    by_cases hc : 9999 ≤ ((r3.2.1 56 16) + r4.1)
    · rw [if_pos hc] at h
      obtain rfl := Option.some.inj h
      exact (Fr.wI (Fr.wI (Fr.wI fr4 rfl) rfl) rfl)
    · rw [if_neg hc] at h
      obtain rfl := Option.some.inj h
      exact (Fr.wI (Fr.wI (Fr.wI fr4 rfl) rfl) rfl)
  · rw [if_neg hc] at h
    obtain rfl := Option.some.inj h
    exact fr3

def W_X9_go : List (Nat × Option Nat) := [(56, some 16), (56, some 18), (56, some 19), (56, some 20), (56, some 21), (56, some 22), (56, some 23), (56, some 24), (56, some 25), (56, some 26), (56, some 27), (56, some 28), (56, some 29), (56, some 30), (56, some 31), (56, some 32), (65, none), (66, none)]
theorem FR_X9_go (x1 : Int32) (x2 : Int32) (s : mSG) (o : Int32 × mSG) (h : X9_go x1 x2 s = some o) : Fr W_X9_go s o.2 := by
  unfold X9_go at h
  by_cases hc : X9_isOne x1 s = true
  · rw [if_pos hc] at h
    by_cases hc : X9_isStone x2 = true
    · rw [if_pos hc] at h
      obtain ⟨r1, hr, h⟩ := m_bind h
      have fr1 : Fr W_X9_go s r1.2 := Fr.tr Fr.rf (Fr.mono (FR_X9_goes _ _ _ _ hr) rfl)
      by_cases hc : r1.1 = true
      · rw [if_pos hc] at h
        obtain rfl := Option.some.inj h
        exact fr1
      · rw [if_neg hc] at h
        obtain rfl := Option.some.inj h
        exact fr1
    · rw [if_neg hc] at h
      obtain rfl := Option.some.inj h
      exact Fr.rf
  · rw [if_neg hc] at h
    obtain rfl := Option.some.inj h
    exact Fr.rf

def W_X9_leaves : List (Nat × Option Nat) := [(56, some 18), (56, some 19), (56, some 20), (56, some 21), (56, some 22), (56, some 23), (56, some 24), (56, some 25), (56, some 26), (56, some 27), (56, some 28), (56, some 29), (56, some 30), (56, some 31), (56, some 32), (69, none), (70, none)]
theorem FR_X9_leaves_j150_15 (x1 : Int32) (x2 : Int32) (x3 : Int32) (x4 : Int32) (x5 : Int32) (x6 : Int32) (s : mSG) (o : (Int32 × mSG) ⊕ mSG) (h : X9_leaves_j150_15 x1 x2 x3 x4 x5 x6 s = some o) : FrS W_X9_leaves (fun y : Int32 × mSG => y.2) ((fun y : mSG => y)) s o := by
  unfold X9_leaves_j150_15 at h
  obtain rfl := Option.some.inj h
  exact ⟨fun y hy => by obtain rfl := Sum.inl.inj hy; exact Fr.rf, fun y hy => by cases hy⟩

theorem FR_X9_leaves_j132_15 (x1 : Int32) (x2 : Int32) (x3 : Int32) (x4 : Int32) (x5 : Int32) (x6 : Int32) (x7 : Int32) (x8 : Int32) (x9 : Int32) (s : mSG) (o : (Int32 × mSG) ⊕ mSG) (h : X9_leaves_j132_15 x1 x2 x3 x4 x5 x6 x7 x8 x9 s = some o) : FrS W_X9_leaves (fun y : Int32 × mSG => y.2) ((fun y : mSG => y)) s o := by
  unfold X9_leaves_j132_15 at h
  obtain ⟨-, h⟩ := m_ite h
  exact FrS.tr (Fr.wI (Fr.wI Fr.rf rfl) rfl) (FR_X9_leaves_j150_15 _ _ _ _ _ _ _ _ h)

theorem FR_X9_leaves_j94_15 (x1 : Int32) (x2 : Int32) (x3 : Int32) (x4 : Int32) (x5 : Int32) (x6 : Int32) (x7 : Int32) (x8 : Int32) (p0 : Int32) (s : mSG) (o : (Int32 × mSG) ⊕ mSG) (h : X9_leaves_j94_15 x1 x2 x3 x4 x5 x6 x7 x8 p0 s = some o) : FrS W_X9_leaves (fun y : Int32 × mSG => y.2) ((fun y : mSG => y)) s o := by
  unfold X9_leaves_j94_15 at h
  obtain ⟨-, h⟩ := m_ite h
  by_cases hc : x7 < (s.1 69 x8.toNatClampNeg)
  · rw [if_pos hc] at h
    exact FrS.tr Fr.rf (FR_X9_leaves_j132_15 _ _ _ _ _ _ _ _ _ _ _ h)
  · rw [if_neg hc] at h
    by_cases hc : x7 = (s.1 69 x8.toNatClampNeg)
    · rw [if_pos hc] at h
      by_cases hc : (s.1 70 x8.toNatClampNeg) ≤ p0
      · rw [if_pos hc] at h
        exact FrS.tr Fr.rf (FR_X9_leaves_j150_15 _ _ _ _ _ _ _ _ h)
      · rw [if_neg hc] at h
        exact FrS.tr Fr.rf (FR_X9_leaves_j132_15 _ _ _ _ _ _ _ _ _ _ _ h)
    · rw [if_neg hc] at h
      exact FrS.tr Fr.rf (FR_X9_leaves_j150_15 _ _ _ _ _ _ _ _ h)

theorem FR_X9_leaves_b15 (x1 : Int32) (x2 : Int32) (x3 : Int32) (x4 : Int32) (x5 : Int32) (x6 : Int32) (s : mSG) (o : (Int32 × mSG) ⊕ mSG) (h : X9_leaves_b15 x1 x2 x3 x4 x5 x6 s = some o) : FrS W_X9_leaves (fun y : Int32 × mSG => y.2) ((fun y : mSG => y)) s o := by
  unfold X9_leaves_b15 at h
  by_cases hc : 8 ≤ x6
  · rw [if_pos hc] at h
    obtain rfl := Option.some.inj h
    exact ⟨fun y hy => (by cases hy), fun y hy => by obtain rfl := Sum.inr.inj hy; exact Fr.rf⟩
  · rw [if_neg hc] at h
    obtain ⟨r2, hr, h⟩ := m_bind h
    have fr2 : Fr W_X9_leaves s r2.2 := Fr.tr Fr.rf (Fr.mono (FR_X9_canGo _ _ _ _ _ _ _ hr) rfl)
    by_cases hc : r2.1 = true
    · rw [if_pos hc] at h
      obtain ⟨-, h⟩ := m_ite h
      obtain ⟨r4, hr, h⟩ := m_bind h
      have fr4 : Fr W_X9_leaves s r4.2 := Fr.tr fr2 (Fr.mono (FR_X9_hoursOf _ _ _ _ _ _ _ hr) rfl)
      obtain ⟨r5, hr, h⟩ := m_bind h
      by_cases hc : (r4.2.1 69 x2.toNatClampNeg) = 0
      · rw [if_pos hc] at h
        exact FrS.tr fr4 (FR_X9_leaves_j94_15 _ _ _ _ _ _ _ _ _ _ _ h)
      · rw [if_neg hc] at h
        exact FrS.tr fr4 (FR_X9_leaves_j94_15 _ _ _ _ _ _ _ _ _ _ _ h)
    · rw [if_neg hc] at h
      exact FrS.tr fr2 (FR_X9_leaves_j150_15 _ _ _ _ _ _ _ _ h)

theorem FR_X9_leaves_l15 (x1 : Int32) (x2 : Int32) (x3 : Int32) (x4 : Int32) (x5 : Int32) (v : Int32 × mSG) (e : mSG) (h : X9_leaves_l15 x1 x2 x3 x4 x5 v = some e) : Fr W_X9_leaves v.2 ((fun y : mSG => y) e) :=
  FrS.iter (hy := fun y : Int32 × mSG => y.2) (he := (fun y : mSG => y)) (fun x o hx => FR_X9_leaves_b15 x1 x2 x3 x4 x5 x.1 x.2 o hx) mFU v e h
theorem FR_X9_leaves (x1 : Int32) (x2 : Int32) (x3 : Int32) (s : mSG) (o : mSG) (h : X9_leaves x1 x2 x3 s = some o) : Fr W_X9_leaves s o := by
  unfold X9_leaves at h
  obtain ⟨e15, hl, h⟩ := m_bind h
  have fl15 : Fr W_X9_leaves s ((fun y : mSG => y) e15) := Fr.tr Fr.rf (FR_X9_leaves_l15 _ _ _ _ _ _ _ hl)
  obtain rfl := Option.some.inj h
  exact fl15

def W_X9_seeks : List (Nat × Option Nat) := [(56, some 18), (56, some 19), (56, some 20), (56, some 21), (56, some 22), (56, some 23), (56, some 24), (56, some 25), (56, some 26), (56, some 27), (56, some 28), (56, some 29), (56, some 30), (56, some 31), (56, some 32), (56, some 36), (56, some 37), (69, none), (70, none), (71, none)]
theorem FR_X9_seeks_b3 (x1 : Int32) (x2 : Int32) (x3 : Int32) (x4 : Int32) (s : mSG) (o : (Int32 × mSG) ⊕ mSG) (h : X9_seeks_b3 x1 x2 x3 x4 s = some o) : FrS W_X9_seeks (fun y : Int32 × mSG => y.2) ((fun y : mSG => y)) s o := by
  unfold X9_seeks_b3 at h
  by_cases hc : 80 ≤ x4
  · rw [if_pos hc] at h
    obtain rfl := Option.some.inj h
    exact ⟨fun y hy => (by cases hy), fun y hy => by obtain rfl := Sum.inr.inj hy; exact Fr.rf⟩
  · rw [if_neg hc] at h
    obtain ⟨-, h⟩ := m_ite h
    obtain rfl := Option.some.inj h
    exact ⟨fun y hy => by obtain rfl := Sum.inl.inj hy; exact (Fr.wI (Fr.wI (Fr.wI Fr.rf rfl) rfl) rfl), fun y hy => by cases hy⟩

theorem FR_X9_seeks_l3 (x1 : Int32) (x2 : Int32) (x3 : Int32) (v : Int32 × mSG) (e : mSG) (h : X9_seeks_l3 x1 x2 x3 v = some e) : Fr W_X9_seeks v.2 ((fun y : mSG => y) e) :=
  FrS.iter (hy := fun y : Int32 × mSG => y.2) (he := (fun y : mSG => y)) (fun x o hx => FR_X9_seeks_b3 x1 x2 x3 x.1 x.2 o hx) mFU v e h
theorem FR_X9_seeks_j175_67 (x1 : Int32) (x2 : Int32) (x3 : Int32) (x4 : Int32) (s : mSG) (o : (Int32 × mSG) ⊕ mSG) (h : X9_seeks_j175_67 x1 x2 x3 x4 s = some o) : FrS W_X9_seeks (fun y : Int32 × mSG => y.2) ((fun y : mSG => y)) s o := by
  unfold X9_seeks_j175_67 at h
  obtain rfl := Option.some.inj h
  exact ⟨fun y hy => by obtain rfl := Sum.inl.inj hy; exact Fr.rf, fun y hy => by cases hy⟩

theorem FR_X9_seeks_j152_67 (x1 : Int32) (x2 : Int32) (x3 : Int32) (x5 : Int32) (p0 : Int32) (s : mSG) (o : (Int32 × mSG) ⊕ mSG) (h : X9_seeks_j152_67 x1 x2 x3 x5 p0 s = some o) : FrS W_X9_seeks (fun y : Int32 × mSG => y.2) ((fun y : mSG => y)) s o := by
  unfold X9_seeks_j152_67 at h
  by_cases hc : p0 = 0
  · rw [if_pos hc] at h
    exact FrS.tr Fr.rf (FR_X9_seeks_j175_67 _ _ _ _ _ _ h)
  · rw [if_neg hc] at h
    obtain ⟨-, h⟩ := m_ite h
    obtain ⟨r16, hr, h⟩ := m_bind h
    have fr16 : Fr W_X9_seeks s r16 := Fr.tr (Fr.wI Fr.rf rfl) (Fr.mono (FR_X9_leaves _ _ _ _ _ hr) rfl)
    exact FrS.tr fr16 (FR_X9_seeks_j175_67 _ _ _ _ _ _ h)

theorem FR_X9_seeks_b67 (x1 : Int32) (x2 : Int32) (x3 : Int32) (x4 : Int32) (s : mSG) (o : (Int32 × mSG) ⊕ mSG) (h : X9_seeks_b67 x1 x2 x3 x4 s = some o) : FrS W_X9_seeks (fun y : Int32 × mSG => y.2) ((fun y : mSG => y)) s o := by
  unfold X9_seeks_b67 at h
  by_cases hc : x4 = 0
  · rw [if_pos hc] at h
    obtain rfl := Option.some.inj h
    exact ⟨fun y hy => (by cases hy), fun y hy => by obtain rfl := Sum.inr.inj hy; exact Fr.rf⟩
  · rw [if_neg hc] at h
    obtain ⟨e78, hl, h⟩ := m_bind h
    by_cases hc : e78 = (-1)
    · rw [if_pos hc] at h
      exact FrS.tr Fr.rf (FR_X9_seeks_j152_67 _ _ _ _ _ _ _ h)
    · rw [if_neg hc] at h
      exact FrS.tr Fr.rf (FR_X9_seeks_j152_67 _ _ _ _ _ _ _ h)

theorem FR_X9_seeks_l67 (x1 : Int32) (x2 : Int32) (x3 : Int32) (v : Int32 × mSG) (e : mSG) (h : X9_seeks_l67 x1 x2 x3 v = some e) : Fr W_X9_seeks v.2 ((fun y : mSG => y) e) :=
  FrS.iter (hy := fun y : Int32 × mSG => y.2) (he := (fun y : mSG => y)) (fun x o hx => FR_X9_seeks_b67 x1 x2 x3 x.1 x.2 o hx) mFU v e h
theorem FR_X9_seeks_j291_194 (x2 : Int32) (x5 : Int32) (s : mSG) (o : (Int32 × mSG) ⊕ mSG) (h : X9_seeks_j291_194 x2 x5 s = some o) : FrS W_X9_seeks (fun y : Int32 × mSG => y.2) ((fun y : mSG => y)) s o := by
  unfold X9_seeks_j291_194 at h
  obtain rfl := Option.some.inj h
  exact ⟨fun y hy => by obtain rfl := Sum.inl.inj hy; exact Fr.rf, fun y hy => by cases hy⟩

theorem FR_X9_seeks_j269_194 (x2 : Int32) (x5 : Int32) (s : mSG) (o : (Int32 × mSG) ⊕ mSG) (h : X9_seeks_j269_194 x2 x5 s = some o) : FrS W_X9_seeks (fun y : Int32 × mSG => y.2) ((fun y : mSG => y)) s o := by
  unfold X9_seeks_j269_194 at h
  obtain ⟨-, h⟩ := m_ite h
  exact FrS.tr (Fr.wI (Fr.wI Fr.rf rfl) rfl) (FR_X9_seeks_j291_194 _ _ _ _ h)

theorem FR_X9_seeks_b194 (x2 : Int32) (x5 : Int32) (s : mSG) (o : (Int32 × mSG) ⊕ mSG) (h : X9_seeks_b194 x2 x5 s = some o) : FrS W_X9_seeks (fun y : Int32 × mSG => y.2) ((fun y : mSG => y)) s o := by
  unfold X9_seeks_b194 at h
  by_cases hc : ((10 * x2) + 10) ≤ x5
  · rw [if_pos hc] at h
    obtain rfl := Option.some.inj h
    exact ⟨fun y hy => (by cases hy), fun y hy => by obtain rfl := Sum.inr.inj hy; exact Fr.rf⟩
  · rw [if_neg hc] at h
    obtain ⟨-, h⟩ := m_ite h
    by_cases hc : 99999999 ≤ (s.1 69 x5.toNatClampNeg)
    · rw [if_pos hc] at h
      exact FrS.tr Fr.rf (FR_X9_seeks_j291_194 _ _ _ _ h)
    · rw [if_neg hc] at h
      by_cases hc : (s.1 56 36) = (-1)
      · rw [if_pos hc] at h
        exact FrS.tr Fr.rf (FR_X9_seeks_j269_194 _ _ _ _ h)
      · rw [if_neg hc] at h
        by_cases hc : (s.1 69 x5.toNatClampNeg) < (s.1 56 36)
        · rw [if_pos hc] at h
          exact FrS.tr Fr.rf (FR_X9_seeks_j269_194 _ _ _ _ h)
        · rw [if_neg hc] at h
          by_cases hc : (s.1 69 x5.toNatClampNeg) = (s.1 56 36)
          · rw [if_pos hc] at h
            by_cases hc : (s.1 56 37) ≤ (s.1 70 x5.toNatClampNeg)
            · rw [if_pos hc] at h
              exact FrS.tr Fr.rf (FR_X9_seeks_j291_194 _ _ _ _ h)
            · rw [if_neg hc] at h
              exact FrS.tr Fr.rf (FR_X9_seeks_j269_194 _ _ _ _ h)
          · rw [if_neg hc] at h
            exact FrS.tr Fr.rf (FR_X9_seeks_j291_194 _ _ _ _ h)

theorem FR_X9_seeks_l194 (x2 : Int32) (v : Int32 × mSG) (e : mSG) (h : X9_seeks_l194 x2 v = some e) : Fr W_X9_seeks v.2 ((fun y : mSG => y) e) :=
  FrS.iter (hy := fun y : Int32 × mSG => y.2) (he := (fun y : mSG => y)) (fun x o hx => FR_X9_seeks_b194 x2 x.1 x.2 o hx) mFU v e h
theorem FR_X9_seeks (x1 : Int32) (x2 : Int32) (x3 : Int32) (s : mSG) (o : mSG) (h : X9_seeks x1 x2 x3 s = some o) : Fr W_X9_seeks s o := by
  unfold X9_seeks at h
  obtain ⟨e3, hl, h⟩ := m_bind h
  have fl3 : Fr W_X9_seeks s ((fun y : mSG => y) e3) := Fr.tr Fr.rf (FR_X9_seeks_l3 _ _ _ _ _ hl)
  obtain ⟨-, h⟩ := m_ite h
  obtain ⟨-, h⟩ := m_ite h
  obtain ⟨e67, hl, h⟩ := m_bind h
  have fl67 : Fr W_X9_seeks s ((fun y : mSG => y) e67) := Fr.tr (Fr.wI fl3 rfl) (FR_X9_seeks_l67 _ _ _ _ _ hl)
  obtain ⟨e194, hl, h⟩ := m_bind h
  have fl194 : Fr W_X9_seeks s ((fun y : mSG => y) e194) := Fr.tr (Fr.wI (Fr.wI fl67 rfl) rfl) (FR_X9_seeks_l194 _ _ _ hl)
  obtain rfl := Option.some.inj h
  exact fl194

def W_X9_soonest : List (Nat × Option Nat) := [(56, some 18), (56, some 19), (56, some 20), (56, some 21), (56, some 22), (56, some 23), (56, some 24), (56, some 25), (56, some 26), (56, some 27), (56, some 28), (56, some 29), (56, some 30), (56, some 31), (56, some 32), (56, some 36), (56, some 37), (69, none), (70, none), (71, none)]
theorem FR_X9_soonest (x1 : Int32) (x2 : Int32) (x3 : Int32) (s : mSG) (o : Int32 × mSG) (h : X9_soonest x1 x2 x3 s = some o) : Fr W_X9_soonest s o.2 := by
  unfold X9_soonest at h
  by_cases hc : X9_isOne x1 s = true
  · rw [if_pos hc] at h
    by_cases hc : X9_isStone x2 = true
    · rw [if_pos hc] at h
      by_cases hc : X9_in x3.toInt64 0 1 = true
      · rw [if_pos hc] at h
        obtain ⟨r1, hr, h⟩ := m_bind h
        obtain ⟨r2, hr, h⟩ := m_bind h
        have fr2 : Fr W_X9_soonest s r2 := Fr.tr Fr.rf (Fr.mono (FR_X9_seeks _ _ _ _ _ hr) rfl)
        by_cases hc : x3 = 0
        · rw [if_pos hc] at h
          obtain rfl := Option.some.inj h
          exact fr2
        · rw [if_neg hc] at h
          obtain rfl := Option.some.inj h
          exact fr2
      · rw [if_neg hc] at h
        obtain rfl := Option.some.inj h
        exact Fr.rf
    · rw [if_neg hc] at h
      obtain rfl := Option.some.inj h
      exact Fr.rf
  · rw [if_neg hc] at h
    obtain rfl := Option.some.inj h
    exact Fr.rf

def W_X9_together : List (Nat × Option Nat) := [(56, some 18), (56, some 19), (56, some 20), (56, some 21), (56, some 22), (56, some 23), (56, some 24), (56, some 25), (56, some 26), (56, some 27), (56, some 28), (56, some 29), (56, some 30), (56, some 31), (56, some 32), (72, none)]
theorem FR_X9_together_b87 (x1 : Int32) (x2 : Int32) (x3 : Int32) (x4 : Int32) (x5 : Int32) (x6 : Int32) (s : mSG) (o : (Int32 × mSG) ⊕ mSG) (h : X9_together_b87 x1 x2 x3 x4 x5 x6 s = some o) : FrS W_X9_together (fun y : Int32 × mSG => y.2) ((fun y : mSG => y)) s o := by
  unfold X9_together_b87 at h
  by_cases hc : 8 ≤ x6
  · rw [if_pos hc] at h
    obtain rfl := Option.some.inj h
    exact ⟨fun y hy => (by cases hy), fun y hy => by obtain rfl := Sum.inr.inj hy; exact Fr.rf⟩
  · rw [if_neg hc] at h
    obtain ⟨-, h⟩ := m_ite h
    obtain rfl := Option.some.inj h
    exact ⟨fun y hy => by obtain rfl := Sum.inl.inj hy; exact (Fr.wI Fr.rf rfl), fun y hy => by cases hy⟩

theorem FR_X9_together_l87 (x1 : Int32) (x2 : Int32) (x3 : Int32) (x4 : Int32) (x5 : Int32) (v : Int32 × mSG) (e : mSG) (h : X9_together_l87 x1 x2 x3 x4 x5 v = some e) : Fr W_X9_together v.2 ((fun y : mSG => y) e) :=
  FrS.iter (hy := fun y : Int32 × mSG => y.2) (he := (fun y : mSG => y)) (fun x o hx => FR_X9_together_b87 x1 x2 x3 x4 x5 x.1 x.2 o hx) mFU v e h
theorem FR_X9_together_j260_143 (x1 : Int32) (x2 : Int32) (x3 : Int32) (x4 : Int32) (x5 : Int32) (x6 : Int32) (x7 : Int32) (x8 : Int32) (s : mSG) (o : (Int32 × mSG) ⊕ mSG) (h : X9_together_j260_143 x1 x2 x3 x4 x5 x6 x7 x8 s = some o) : FrS W_X9_together (fun y : Int32 × mSG => y.2) ((fun y : mSG => y)) s o := by
  unfold X9_together_j260_143 at h
  obtain rfl := Option.some.inj h
  exact ⟨fun y hy => by obtain rfl := Sum.inl.inj hy; exact Fr.rf, fun y hy => by cases hy⟩

theorem FR_X9_together_b143 (x1 : Int32) (x2 : Int32) (x3 : Int32) (x4 : Int32) (x5 : Int32) (x6 : Int32) (x7 : Int32) (x8 : Int32) (s : mSG) (o : (Int32 × mSG) ⊕ mSG) (h : X9_together_b143 x1 x2 x3 x4 x5 x6 x7 x8 s = some o) : FrS W_X9_together (fun y : Int32 × mSG => y.2) ((fun y : mSG => y)) s o := by
  unfold X9_together_b143 at h
  by_cases hc : 8 ≤ x8
  · rw [if_pos hc] at h
    obtain rfl := Option.some.inj h
    exact ⟨fun y hy => (by cases hy), fun y hy => by obtain rfl := Sum.inr.inj hy; exact Fr.rf⟩
  · rw [if_neg hc] at h
    obtain ⟨-, h⟩ := m_ite h
    by_cases hc : (s.1 72 x7.toNatClampNeg) = x6
    · rw [if_pos hc] at h
      obtain ⟨-, h⟩ := m_ite h
      by_cases hc : x7 = x8
      · rw [if_pos hc] at h
        exact FrS.tr Fr.rf (FR_X9_together_j260_143 _ _ _ _ _ _ _ _ _ _ h)
      · rw [if_neg hc] at h
        by_cases hc : (s.1 60 ((8 * x7) + x8).toNatClampNeg) ≤ 0
        · rw [if_pos hc] at h
          exact FrS.tr Fr.rf (FR_X9_together_j260_143 _ _ _ _ _ _ _ _ _ _ h)
        · rw [if_neg hc] at h
          obtain ⟨-, h⟩ := m_ite h
          by_cases hc : (s.1 72 x8.toNatClampNeg) = (-1)
          · rw [if_pos hc] at h
            obtain ⟨-, h⟩ := m_ite h
            obtain ⟨r22, hr, h⟩ := m_bind h
            have fr22 : Fr W_X9_together s r22.2 := Fr.tr Fr.rf (Fr.mono (FR_X9_says _ _ _ _ _ _ _ _ hr) rfl)
            obtain ⟨-, h⟩ := m_ite h
            obtain ⟨r24, hr, h⟩ := m_bind h
            have fr24 : Fr W_X9_together s r24.2 := Fr.tr fr22 (Fr.mono (FR_X9_says _ _ _ _ _ _ _ _ hr) rfl)
            by_cases hc : x5 < (((s.1 60 ((8 * x7) + x8).toNatClampNeg) + r22.1) + r24.1)
            · rw [if_pos hc] at h
              exact FrS.tr fr24 (FR_X9_together_j260_143 _ _ _ _ _ _ _ _ _ _ h)
            · rw [if_neg hc] at h
              exact FrS.tr (Fr.wI fr24 rfl) (FR_X9_together_j260_143 _ _ _ _ _ _ _ _ _ _ h)
          · rw [if_neg hc] at h
            exact FrS.tr Fr.rf (FR_X9_together_j260_143 _ _ _ _ _ _ _ _ _ _ h)
    · rw [if_neg hc] at h
      obtain rfl := Option.some.inj h
      exact ⟨fun y hy => (by cases hy), fun y hy => by obtain rfl := Sum.inr.inj hy; exact Fr.rf⟩

theorem FR_X9_together_l143 (x1 : Int32) (x2 : Int32) (x3 : Int32) (x4 : Int32) (x5 : Int32) (x6 : Int32) (x7 : Int32) (v : Int32 × mSG) (e : mSG) (h : X9_together_l143 x1 x2 x3 x4 x5 x6 x7 v = some e) : Fr W_X9_together v.2 ((fun y : mSG => y) e) :=
  FrS.iter (hy := fun y : Int32 × mSG => y.2) (he := (fun y : mSG => y)) (fun x o hx => FR_X9_together_b143 x1 x2 x3 x4 x5 x6 x7 x.1 x.2 o hx) mFU v e h
theorem FR_X9_together_j266_133 (x1 : Int32) (x2 : Int32) (x3 : Int32) (x4 : Int32) (x5 : Int32) (x6 : Int32) (x7 : Int32) (s : mSG) (o : (Int32 × mSG) ⊕ mSG) (h : X9_together_j266_133 x1 x2 x3 x4 x5 x6 x7 s = some o) : FrS W_X9_together (fun y : Int32 × mSG => y.2) ((fun y : mSG => y)) s o := by
  unfold X9_together_j266_133 at h
  obtain rfl := Option.some.inj h
  exact ⟨fun y hy => by obtain rfl := Sum.inl.inj hy; exact Fr.rf, fun y hy => by cases hy⟩

theorem FR_X9_together_b133 (x1 : Int32) (x2 : Int32) (x3 : Int32) (x4 : Int32) (x5 : Int32) (x6 : Int32) (x7 : Int32) (s : mSG) (o : (Int32 × mSG) ⊕ mSG) (h : X9_together_b133 x1 x2 x3 x4 x5 x6 x7 s = some o) : FrS W_X9_together (fun y : Int32 × mSG => y.2) ((fun y : mSG => y)) s o := by
  unfold X9_together_b133 at h
  by_cases hc : 8 ≤ x7
  · rw [if_pos hc] at h
    obtain rfl := Option.some.inj h
    exact ⟨fun y hy => (by cases hy), fun y hy => by obtain rfl := Sum.inr.inj hy; exact Fr.rf⟩
  · rw [if_neg hc] at h
    obtain ⟨e143, hl, h⟩ := m_bind h
    have fl143 : Fr W_X9_together s ((fun y : mSG => y) e143) := Fr.tr Fr.rf (FR_X9_together_l143 _ _ _ _ _ _ _ _ _ hl)
    exact FrS.tr fl143 (FR_X9_together_j266_133 _ _ _ _ _ _ _ _ _ h)

theorem FR_X9_together_l133 (x1 : Int32) (x2 : Int32) (x3 : Int32) (x4 : Int32) (x5 : Int32) (x6 : Int32) (v : Int32 × mSG) (e : mSG) (h : X9_together_l133 x1 x2 x3 x4 x5 x6 v = some e) : Fr W_X9_together v.2 ((fun y : mSG => y) e) :=
  FrS.iter (hy := fun y : Int32 × mSG => y.2) (he := (fun y : mSG => y)) (fun x o hx => FR_X9_together_b133 x1 x2 x3 x4 x5 x6 x.1 x.2 o hx) mFU v e h
theorem FR_X9_together_b123 (x1 : Int32) (x2 : Int32) (x3 : Int32) (x4 : Int32) (x5 : Int32) (x6 : Int32) (s : mSG) (o : (Int32 × mSG) ⊕ mSG) (h : X9_together_b123 x1 x2 x3 x4 x5 x6 s = some o) : FrS W_X9_together (fun y : Int32 × mSG => y.2) ((fun y : mSG => y)) s o := by
  unfold X9_together_b123 at h
  by_cases hc : 8 ≤ x6
  · rw [if_pos hc] at h
    obtain rfl := Option.some.inj h
    exact ⟨fun y hy => (by cases hy), fun y hy => by obtain rfl := Sum.inr.inj hy; exact Fr.rf⟩
  · rw [if_neg hc] at h
    obtain ⟨e133, hl, h⟩ := m_bind h
    have fl133 : Fr W_X9_together s ((fun y : mSG => y) e133) := Fr.tr Fr.rf (FR_X9_together_l133 _ _ _ _ _ _ _ _ hl)
    obtain rfl := Option.some.inj h
    exact ⟨fun y hy => by obtain rfl := Sum.inl.inj hy; exact fl133, fun y hy => by cases hy⟩

theorem FR_X9_together_l123 (x1 : Int32) (x2 : Int32) (x3 : Int32) (x4 : Int32) (x5 : Int32) (v : Int32 × mSG) (e : mSG) (h : X9_together_l123 x1 x2 x3 x4 x5 v = some e) : Fr W_X9_together v.2 ((fun y : mSG => y) e) :=
  FrS.iter (hy := fun y : Int32 × mSG => y.2) (he := (fun y : mSG => y)) (fun x o hx => FR_X9_together_b123 x1 x2 x3 x4 x5 x.1 x.2 o hx) mFU v e h
theorem FR_X9_together (x1 : Int32) (x2 : Int32) (x3 : Int32) (s : mSG) (o : Int32 × mSG) (h : X9_together x1 x2 x3 s = some o) : Fr W_X9_together s o.2 := by
  unfold X9_together at h
  by_cases hc : X9_isOne x1 s = true
  · rw [if_pos hc] at h
    by_cases hc : X9_isOne x2 s = true
    · rw [if_pos hc] at h
      by_cases hc : x1 = x2
      · rw [if_pos hc] at h
        obtain rfl := Option.some.inj h
        exact Fr.rf
      · rw [if_neg hc] at h
        by_cases hc : X9_isStone x3 = true
        · rw [if_pos hc] at h
          obtain ⟨-, h⟩ := m_ite h
          obtain ⟨-, h⟩ := m_ite h
          by_cases hc : (s.1 65 x1.toNatClampNeg) = (s.1 65 x2.toNatClampNeg)
          · rw [if_pos hc] at h
            obtain ⟨r5, hr, h⟩ := m_bind h
            obtain ⟨r6, hr, h⟩ := m_bind h
            obtain ⟨r7, hr, h⟩ := m_bind h
            obtain ⟨e87, hl, h⟩ := m_bind h
            have fl87 : Fr W_X9_together s ((fun y : mSG => y) e87) := Fr.tr Fr.rf (FR_X9_together_l87 _ _ _ _ _ _ _ hl)
            obtain ⟨-, h⟩ := m_ite h
            obtain ⟨e123, hl, h⟩ := m_bind h
            have fl123 : Fr W_X9_together s ((fun y : mSG => y) e123) := Fr.tr (Fr.wI fl87 rfl) (FR_X9_together_l123 _ _ _ _ _ _ _ hl)
            obtain ⟨-, h⟩ := m_ite h
            obtain rfl := Option.some.inj h
            exact fl123
          · rw [if_neg hc] at h
            obtain rfl := Option.some.inj h
            exact Fr.rf
        · rw [if_neg hc] at h
          obtain rfl := Option.some.inj h
          exact Fr.rf
    · rw [if_neg hc] at h
      obtain rfl := Option.some.inj h
      exact Fr.rf
  · rw [if_neg hc] at h
    obtain rfl := Option.some.inj h
    exact Fr.rf

def W_X9_lend : List (Nat × Option Nat) := [(56, some 18), (56, some 19), (56, some 20), (56, some 21), (56, some 22), (56, some 23), (56, some 24), (56, some 25), (56, some 26), (56, some 27), (56, some 28), (56, some 29), (56, some 30), (56, some 31), (56, some 32), (63, none), (67, none)]
theorem FR_X9_lend (x1 : Int32) (x2 : Int32) (x3 : Int32) (s : mSG) (o : Int32 × mSG) (h : X9_lend x1 x2 x3 s = some o) : Fr W_X9_lend s o.2 := by
  unfold X9_lend at h
  by_cases hc : X9_isOne x1 s = true
  · rw [if_pos hc] at h
    by_cases hc : X9_isOne x2 s = true
    · rw [if_pos hc] at h
      by_cases hc : x1 = x2
      · rw [if_pos hc] at h
        obtain rfl := Option.some.inj h
        exact Fr.rf
      · rw [if_neg hc] at h
        by_cases hc : X9_in x3.toInt64 1 99 = true
        · rw [if_pos hc] at h
          obtain ⟨-, h⟩ := m_ite h
          obtain ⟨-, h⟩ := m_ite h
          by_cases hc : (s.1 65 x1.toNatClampNeg) = (s.1 65 x2.toNatClampNeg)
          · rw [if_pos hc] at h
            by_cases hc : (s.1 63 x1.toNatClampNeg) < x3
            · rw [if_pos hc] at h
              obtain rfl := Option.some.inj h
              exact Fr.rf
            · rw [if_neg hc] at h
              by_cases hc : 99 < ((s.1 63 x2.toNatClampNeg) + x3)
              · rw [if_pos hc] at h
                obtain rfl := Option.some.inj h
                exact Fr.rf
              · rw [if_neg hc] at h
                obtain ⟨-, h⟩ := m_ite h
                by_cases hc : ((s.1 67 ((5 * x2) + x1).toNatClampNeg) + x3) ≤ 99
                · rw [if_pos hc] at h
                  obtain ⟨r9, hr, h⟩ := m_bind h
                  obtain ⟨r10, hr, h⟩ := m_bind h
                  have fr10 : Fr W_X9_lend s r10.2 := Fr.tr Fr.rf (Fr.mono (FR_X9_says _ _ _ _ _ _ _ _ hr) rfl)
                  obtain rfl := Option.some.inj h
                  exact (Fr.wI (Fr.wI (Fr.wI fr10 rfl) rfl) rfl)
                · rw [if_neg hc] at h
                  obtain rfl := Option.some.inj h
                  exact Fr.rf
          · rw [if_neg hc] at h
            obtain rfl := Option.some.inj h
            exact Fr.rf
        · rw [if_neg hc] at h
          obtain rfl := Option.some.inj h
          exact Fr.rf
    · rw [if_neg hc] at h
      obtain rfl := Option.some.inj h
      exact Fr.rf
  · rw [if_neg hc] at h
    obtain rfl := Option.some.inj h
    exact Fr.rf

def W_X9_takesRing : List (Nat × Option Nat) := [(67, none)]
theorem FR_X9_takesRing_j81 (x4 : Int32) (x5 : Int32) (x6 : Int32) (p0 : Int32) (s : mSG) (o : Int32 × mSG) (h : X9_takesRing_j81 x4 x5 x6 p0 s = some o) : Fr W_X9_takesRing s o.2 := by
  unfold X9_takesRing_j81 at h
  obtain ⟨-, h⟩ := m_ite h
  obtain ⟨-, h⟩ := m_ite h
  obtain ⟨-, h⟩ := m_ite h
  obtain rfl := Option.some.inj h
  exact (Fr.wI (Fr.wI (Fr.wI Fr.rf rfl) rfl) rfl)

theorem FR_X9_takesRing_j55 (x4 : Int32) (x5 : Int32) (x6 : Int32) (p0 : Int32) (s : mSG) (o : Int32 × mSG) (h : X9_takesRing_j55 x4 x5 x6 p0 s = some o) : Fr W_X9_takesRing s o.2 := by
  unfold X9_takesRing_j55 at h
  obtain ⟨-, h⟩ := m_ite h
  by_cases hc : p0 ≤ (s.1 67 x6.toNatClampNeg)
  · rw [if_pos hc] at h
    exact Fr.tr Fr.rf (FR_X9_takesRing_j81 _ _ _ _ _ _ h)
  · rw [if_neg hc] at h
    exact Fr.tr Fr.rf (FR_X9_takesRing_j81 _ _ _ _ _ _ h)

theorem FR_X9_takesRing (x1 : Int32) (x2 : Int32) (x3 : Int32) (s : mSG) (o : Int32 × mSG) (h : X9_takesRing x1 x2 x3 s = some o) : Fr W_X9_takesRing s o.2 := by
  unfold X9_takesRing at h
  obtain ⟨-, h⟩ := m_ite h
  obtain ⟨-, h⟩ := m_ite h
  by_cases hc : (s.1 67 ((5 * x2) + x3).toNatClampNeg) ≤ (s.1 67 ((5 * x1) + x2).toNatClampNeg)
  · rw [if_pos hc] at h
    exact Fr.tr Fr.rf (FR_X9_takesRing_j55 _ _ _ _ _ _ h)
  · rw [if_neg hc] at h
    exact Fr.tr Fr.rf (FR_X9_takesRing_j55 _ _ _ _ _ _ h)

def W_X9_rings : List (Nat × Option Nat) := [(67, none)]
theorem FR_X9_rings_j72_16 (x1 : Int32) (x2 : Int32) (x3 : Int32) (x4 : Int32) (x5 : Int32) (p0 : Int32) (s : mSG) (o : (Int32 × Int32 × mSG) ⊕ Int32 × mSG) (h : X9_rings_j72_16 x1 x2 x3 x4 x5 p0 s = some o) : FrS W_X9_rings (fun y : Int32 × Int32 × mSG => y.2.2) ((fun y : Int32 × mSG => y.2)) s o := by
  unfold X9_rings_j72_16 at h
  obtain ⟨-, h⟩ := m_ite h
  obtain ⟨-, h⟩ := m_ite h
  obtain rfl := Option.some.inj h
  exact ⟨fun y hy => by obtain rfl := Sum.inl.inj hy; exact (Fr.wI (Fr.wI Fr.rf rfl) rfl), fun y hy => by cases hy⟩

theorem FR_X9_rings_b16 (x2 : Int32) (x1 : Int32) (x3 : Int32) (s : mSG) (o : (Int32 × Int32 × mSG) ⊕ Int32 × mSG) (h : X9_rings_b16 x2 x1 x3 s = some o) : FrS W_X9_rings (fun y : Int32 × Int32 × mSG => y.2.2) ((fun y : Int32 × mSG => y.2)) s o := by
  unfold X9_rings_b16 at h
  by_cases hc : (s.1 56 15) ≤ x3
  · rw [if_pos hc] at h
    obtain rfl := Option.some.inj h
    exact ⟨fun y hy => (by cases hy), fun y hy => by obtain rfl := Sum.inr.inj hy; exact Fr.rf⟩
  · rw [if_neg hc] at h
    obtain ⟨-, h⟩ := m_ite h
    obtain ⟨-, h⟩ := m_ite h
    by_cases hc : (s.1 67 ((5 * x3) + x2).toNatClampNeg) ≤ (s.1 67 ((5 * x2) + x3).toNatClampNeg)
    · rw [if_pos hc] at h
      exact FrS.tr Fr.rf (FR_X9_rings_j72_16 _ _ _ _ _ _ _ _ h)
    · rw [if_neg hc] at h
      exact FrS.tr Fr.rf (FR_X9_rings_j72_16 _ _ _ _ _ _ _ _ h)

theorem FR_X9_rings_l16 (x2 : Int32) (v : Int32 × Int32 × mSG) (e : Int32 × mSG) (h : X9_rings_l16 x2 v = some e) : Fr W_X9_rings v.2.2 ((fun y : Int32 × mSG => y.2) e) :=
  FrS.iter (hy := fun y : Int32 × Int32 × mSG => y.2.2) (he := (fun y : Int32 × mSG => y.2)) (fun x o hx => FR_X9_rings_b16 x2 x.1 x.2.1 x.2.2 o hx) mFU v e h
theorem FR_X9_rings_b4 (x1 : Int32) (x2 : Int32) (s : mSG) (o : (Int32 × Int32 × mSG) ⊕ Int32 × mSG) (h : X9_rings_b4 x1 x2 s = some o) : FrS W_X9_rings (fun y : Int32 × Int32 × mSG => y.2.2) ((fun y : Int32 × mSG => y.2)) s o := by
  unfold X9_rings_b4 at h
  by_cases hc : (s.1 56 15) ≤ x2
  · rw [if_pos hc] at h
    obtain rfl := Option.some.inj h
    exact ⟨fun y hy => (by cases hy), fun y hy => by obtain rfl := Sum.inr.inj hy; exact Fr.rf⟩
  · rw [if_neg hc] at h
    obtain ⟨e16, hl, h⟩ := m_bind h
    have fl16 : Fr W_X9_rings s ((fun y : Int32 × mSG => y.2) e16) := Fr.tr Fr.rf (FR_X9_rings_l16 _ _ _ hl)
    obtain rfl := Option.some.inj h
    exact ⟨fun y hy => by obtain rfl := Sum.inl.inj hy; exact fl16, fun y hy => by cases hy⟩

theorem FR_X9_rings_l4 (v : Int32 × Int32 × mSG) (e : Int32 × mSG) (h : X9_rings_l4 v = some e) : Fr W_X9_rings v.2.2 ((fun y : Int32 × mSG => y.2) e) :=
  FrS.iter (hy := fun y : Int32 × Int32 × mSG => y.2.2) (he := (fun y : Int32 × mSG => y.2)) (fun x o hx => FR_X9_rings_b4 x.1 x.2.1 x.2.2 o hx) mFU v e h
theorem FR_X9_rings_b142 (x2 : Int32) (x3 : Int32) (x1 : Int32) (x4 : Int32) (s : mSG) (o : (Int32 × Int32 × mSG) ⊕ Int32 × mSG) (h : X9_rings_b142 x2 x3 x1 x4 s = some o) : FrS W_X9_rings (fun y : Int32 × Int32 × mSG => y.2.2) ((fun y : Int32 × mSG => y.2)) s o := by
  unfold X9_rings_b142 at h
  by_cases hc : (s.1 56 15) ≤ x4
  · rw [if_pos hc] at h
    obtain rfl := Option.some.inj h
    exact ⟨fun y hy => (by cases hy), fun y hy => by obtain rfl := Sum.inr.inj hy; exact Fr.rf⟩
  · rw [if_neg hc] at h
    obtain ⟨r11, hr, h⟩ := m_bind h
    have fr11 : Fr W_X9_rings s r11.2 := Fr.tr Fr.rf (Fr.mono (FR_X9_takesRing _ _ _ _ _ hr) rfl)
    obtain ⟨r12, hr, h⟩ := m_bind h
    have fr12 : Fr W_X9_rings s r12.2 := Fr.tr fr11 (Fr.mono (FR_X9_takesRing _ _ _ _ _ hr) rfl)
    obtain rfl := Option.some.inj h
    exact ⟨fun y hy => by obtain rfl := Sum.inl.inj hy; exact fr12, fun y hy => by cases hy⟩

theorem FR_X9_rings_l142 (x2 : Int32) (x3 : Int32) (v : Int32 × Int32 × mSG) (e : Int32 × mSG) (h : X9_rings_l142 x2 x3 v = some e) : Fr W_X9_rings v.2.2 ((fun y : Int32 × mSG => y.2) e) :=
  FrS.iter (hy := fun y : Int32 × Int32 × mSG => y.2.2) (he := (fun y : Int32 × mSG => y.2)) (fun x o hx => FR_X9_rings_b142 x2 x3 x.1 x.2.1 x.2.2 o hx) mFU v e h
theorem FR_X9_rings_b129 (x2 : Int32) (x1 : Int32) (x3 : Int32) (s : mSG) (o : (Int32 × Int32 × mSG) ⊕ Int32 × mSG) (h : X9_rings_b129 x2 x1 x3 s = some o) : FrS W_X9_rings (fun y : Int32 × Int32 × mSG => y.2.2) ((fun y : Int32 × mSG => y.2)) s o := by
  unfold X9_rings_b129 at h
  by_cases hc : (s.1 56 15) ≤ x3
  · rw [if_pos hc] at h
    obtain rfl := Option.some.inj h
    exact ⟨fun y hy => (by cases hy), fun y hy => by obtain rfl := Sum.inr.inj hy; exact Fr.rf⟩
  · rw [if_neg hc] at h
    obtain ⟨e142, hl, h⟩ := m_bind h
    have fl142 : Fr W_X9_rings s ((fun y : Int32 × mSG => y.2) e142) := Fr.tr Fr.rf (FR_X9_rings_l142 _ _ _ _ hl)
    obtain rfl := Option.some.inj h
    exact ⟨fun y hy => by obtain rfl := Sum.inl.inj hy; exact fl142, fun y hy => by cases hy⟩

theorem FR_X9_rings_l129 (x2 : Int32) (v : Int32 × Int32 × mSG) (e : Int32 × mSG) (h : X9_rings_l129 x2 v = some e) : Fr W_X9_rings v.2.2 ((fun y : Int32 × mSG => y.2) e) :=
  FrS.iter (hy := fun y : Int32 × Int32 × mSG => y.2.2) (he := (fun y : Int32 × mSG => y.2)) (fun x o hx => FR_X9_rings_b129 x2 x.1 x.2.1 x.2.2 o hx) mFU v e h
theorem FR_X9_rings_b117 (x1 : Int32) (x2 : Int32) (s : mSG) (o : (Int32 × Int32 × mSG) ⊕ Int32 × mSG) (h : X9_rings_b117 x1 x2 s = some o) : FrS W_X9_rings (fun y : Int32 × Int32 × mSG => y.2.2) ((fun y : Int32 × mSG => y.2)) s o := by
  unfold X9_rings_b117 at h
  by_cases hc : (s.1 56 15) ≤ x2
  · rw [if_pos hc] at h
    obtain rfl := Option.some.inj h
    exact ⟨fun y hy => (by cases hy), fun y hy => by obtain rfl := Sum.inr.inj hy; exact Fr.rf⟩
  · rw [if_neg hc] at h
    obtain ⟨e129, hl, h⟩ := m_bind h
    have fl129 : Fr W_X9_rings s ((fun y : Int32 × mSG => y.2) e129) := Fr.tr Fr.rf (FR_X9_rings_l129 _ _ _ hl)
    obtain rfl := Option.some.inj h
    exact ⟨fun y hy => by obtain rfl := Sum.inl.inj hy; exact fl129, fun y hy => by cases hy⟩

theorem FR_X9_rings_l117 (v : Int32 × Int32 × mSG) (e : Int32 × mSG) (h : X9_rings_l117 v = some e) : Fr W_X9_rings v.2.2 ((fun y : Int32 × mSG => y.2) e) :=
  FrS.iter (hy := fun y : Int32 × Int32 × mSG => y.2.2) (he := (fun y : Int32 × mSG => y.2)) (fun x o hx => FR_X9_rings_b117 x.1 x.2.1 x.2.2 o hx) mFU v e h
theorem FR_X9_rings (s : mSG) (o : Int32 × mSG) (h : X9_rings s = some o) : Fr W_X9_rings s o.2 := by
  unfold X9_rings at h
  obtain ⟨e4, hl, h⟩ := m_bind h
  have fl4 : Fr W_X9_rings s ((fun y : Int32 × mSG => y.2) e4) := Fr.tr Fr.rf (FR_X9_rings_l4  _ _ hl)
  obtain ⟨e117, hl, h⟩ := m_bind h
  have fl117 : Fr W_X9_rings s ((fun y : Int32 × mSG => y.2) e117) := Fr.tr fl4 (FR_X9_rings_l117  _ _ hl)
  obtain rfl := Option.some.inj h
  exact fl117

def W_X9_shaken : List (Nat × Option Nat) := [(56, some 18), (56, some 19), (56, some 20), (56, some 21), (56, some 22), (56, some 23), (56, some 24), (56, some 25), (56, some 26), (56, some 27), (56, some 28), (56, some 29), (56, some 30), (56, some 31), (56, some 32), (73, none)]
theorem FR_X9_shaken_b54 (x1 : Int32) (x2 : Int32) (x3 : Int32) (x4 : Int32) (s : mSG) (o : (Int32 × mSG) ⊕ mSG) (h : X9_shaken_b54 x1 x2 x3 x4 s = some o) : FrS W_X9_shaken (fun y : Int32 × mSG => y.2) ((fun y : mSG => y)) s o := by
  unfold X9_shaken_b54 at h
  by_cases hc : 800 ≤ x4
  · rw [if_pos hc] at h
    obtain rfl := Option.some.inj h
    exact ⟨fun y hy => (by cases hy), fun y hy => by obtain rfl := Sum.inr.inj hy; exact Fr.rf⟩
  · rw [if_neg hc] at h
    obtain ⟨-, h⟩ := m_ite h
    obtain rfl := Option.some.inj h
    exact ⟨fun y hy => by obtain rfl := Sum.inl.inj hy; exact (Fr.wI Fr.rf rfl), fun y hy => by cases hy⟩

theorem FR_X9_shaken_l54 (x1 : Int32) (x2 : Int32) (x3 : Int32) (v : Int32 × mSG) (e : mSG) (h : X9_shaken_l54 x1 x2 x3 v = some e) : Fr W_X9_shaken v.2 ((fun y : mSG => y) e) :=
  FrS.iter (hy := fun y : Int32 × mSG => y.2) (he := (fun y : mSG => y)) (fun x o hx => FR_X9_shaken_b54 x1 x2 x3 x.1 x.2 o hx) mFU v e h
theorem FR_X9_shaken_j269_132 (x1 : Int32) (x2 : Int32) (x3 : Int32) (x4 : Int32) (x5 : Int32) (x6 : Int32) (s : mSG) (o : (Int32 × mSG) ⊕ (mSG ⊕ mSG)) (h : X9_shaken_j269_132 x1 x2 x3 x4 x5 x6 s = some o) : FrS W_X9_shaken (fun y : Int32 × mSG => y.2) ((Sum.elim (fun y : mSG => y) (fun y : mSG => y))) s o := by
  unfold X9_shaken_j269_132 at h
  obtain rfl := Option.some.inj h
  exact ⟨fun y hy => by obtain rfl := Sum.inl.inj hy; exact Fr.rf, fun y hy => by cases hy⟩

theorem FR_X9_shaken_j268_132 (x1 : Int32) (x2 : Int32) (x3 : Int32) (x4 : Int32) (x5 : Int32) (x6 : Int32) (p1 : Int32) (p2 : Int32) (s : mSG) (o : (Int32 × mSG) ⊕ (mSG ⊕ mSG)) (h : X9_shaken_j268_132 x1 x2 x3 x4 x5 x6 p1 p2 s = some o) : FrS W_X9_shaken (fun y : Int32 × mSG => y.2) ((Sum.elim (fun y : mSG => y) (fun y : mSG => y))) s o := by
  unfold X9_shaken_j268_132 at h
  obtain ⟨-, h⟩ := m_ite h
  exact FrS.tr (Fr.wI Fr.rf rfl) (FR_X9_shaken_j269_132 _ _ _ _ _ _ _ _ h)

theorem FR_X9_shaken_b132 (x1 : Int32) (x2 : Int32) (x3 : Int32) (x4 : Int32) (x5 : Int32) (x6 : Int32) (s : mSG) (o : (Int32 × mSG) ⊕ (mSG ⊕ mSG)) (h : X9_shaken_b132 x1 x2 x3 x4 x5 x6 s = some o) : FrS W_X9_shaken (fun y : Int32 × mSG => y.2) ((Sum.elim (fun y : mSG => y) (fun y : mSG => y))) s o := by
  unfold X9_shaken_b132 at h
  by_cases hc : 8 ≤ x6
  · rw [if_pos hc] at h
    obtain rfl := Option.some.inj h
    exact ⟨fun y hy => (by cases hy), fun y hy => by obtain rfl := Sum.inr.inj hy; exact Fr.rf⟩
  · rw [if_neg hc] at h
    obtain ⟨-, h⟩ := m_ite h
    by_cases hc : (s.1 73 x5.toNatClampNeg) = x4
    · rw [if_pos hc] at h
      obtain ⟨r14, hr, h⟩ := m_bind h
      have fr14 : Fr W_X9_shaken s r14.2 := Fr.tr Fr.rf (Fr.mono (FR_X9_canGo _ _ _ _ _ _ _ hr) rfl)
      by_cases hc : r14.1 = true
      · rw [if_pos hc] at h
        obtain ⟨r15, hr, h⟩ := m_bind h
        have fr15 : Fr W_X9_shaken s r15.2 := Fr.tr fr14 (Fr.mono (FR_X9_canGo _ _ _ _ _ _ _ hr) rfl)
        by_cases hc : r15.1 = true
        · rw [if_pos hc] at h
          obtain ⟨r16, hr, h⟩ := m_bind h
          obtain ⟨r17, hr, h⟩ := m_bind h
          obtain ⟨-, h⟩ := m_ite h
          by_cases hc : (r15.2.1 73 (((100 * x6) + (10 * r16)) + r17).toNatClampNeg) = (-1)
          · rw [if_pos hc] at h
            exact FrS.tr fr15 (FR_X9_shaken_j268_132 _ _ _ _ _ _ _ _ _ _ h)
          · rw [if_neg hc] at h
            exact FrS.tr fr15 (FR_X9_shaken_j268_132 _ _ _ _ _ _ _ _ _ _ h)
        · rw [if_neg hc] at h
          obtain rfl := Option.some.inj h
          exact ⟨fun y hy => (by cases hy), fun y hy => by obtain rfl := Sum.inr.inj hy; exact fr15⟩
      · rw [if_neg hc] at h
        exact FrS.tr fr14 (FR_X9_shaken_j269_132 _ _ _ _ _ _ _ _ h)
    · rw [if_neg hc] at h
      obtain rfl := Option.some.inj h
      exact ⟨fun y hy => (by cases hy), fun y hy => by obtain rfl := Sum.inr.inj hy; exact Fr.rf⟩

theorem FR_X9_shaken_l132 (x1 : Int32) (x2 : Int32) (x3 : Int32) (x4 : Int32) (x5 : Int32) (v : Int32 × mSG) (e : (mSG ⊕ mSG)) (h : X9_shaken_l132 x1 x2 x3 x4 x5 v = some e) : Fr W_X9_shaken v.2 ((Sum.elim (fun y : mSG => y) (fun y : mSG => y)) e) :=
  FrS.iter (hy := fun y : Int32 × mSG => y.2) (he := (Sum.elim (fun y : mSG => y) (fun y : mSG => y))) (fun x o hx => FR_X9_shaken_b132 x1 x2 x3 x4 x5 x.1 x.2 o hx) mFU v e h
theorem FR_X9_shaken_j275_121 (x1 : Int32) (x2 : Int32) (x3 : Int32) (x4 : Int32) (x5 : Int32) (s : mSG) (o : (Int32 × mSG) ⊕ (mSG ⊕ mSG)) (h : X9_shaken_j275_121 x1 x2 x3 x4 x5 s = some o) : FrS W_X9_shaken (fun y : Int32 × mSG => y.2) ((Sum.elim (fun y : mSG => y) (fun y : mSG => y))) s o := by
  unfold X9_shaken_j275_121 at h
  obtain rfl := Option.some.inj h
  exact ⟨fun y hy => by obtain rfl := Sum.inl.inj hy; exact Fr.rf, fun y hy => by cases hy⟩

theorem FR_X9_shaken_b121 (x1 : Int32) (x2 : Int32) (x3 : Int32) (x4 : Int32) (x5 : Int32) (s : mSG) (o : (Int32 × mSG) ⊕ (mSG ⊕ mSG)) (h : X9_shaken_b121 x1 x2 x3 x4 x5 s = some o) : FrS W_X9_shaken (fun y : Int32 × mSG => y.2) ((Sum.elim (fun y : mSG => y) (fun y : mSG => y))) s o := by
  unfold X9_shaken_b121 at h
  by_cases hc : 800 ≤ x5
  · rw [if_pos hc] at h
    obtain rfl := Option.some.inj h
    exact ⟨fun y hy => (by cases hy), fun y hy => by obtain rfl := Sum.inr.inj hy; exact Fr.rf⟩
  · rw [if_neg hc] at h
    obtain ⟨e132, hl, h⟩ := m_bind h
    have fl132 : Fr W_X9_shaken s ((Sum.elim (fun y : mSG => y) (fun y : mSG => y)) e132) := Fr.tr Fr.rf (FR_X9_shaken_l132 _ _ _ _ _ _ _ hl)
    cases e132 with
    | inl e132_0 =>
      simp only [Sum.elim_inl] at h
      obtain rfl := Option.some.inj h
      exact ⟨fun y hy => (by cases hy), fun y hy => by obtain rfl := Sum.inr.inj hy; exact fl132⟩
    | inr e132_1 =>
      simp only [Sum.elim_inr] at h
      exact FrS.tr fl132 (FR_X9_shaken_j275_121 _ _ _ _ _ _ _ h)

theorem FR_X9_shaken_l121 (x1 : Int32) (x2 : Int32) (x3 : Int32) (x4 : Int32) (v : Int32 × mSG) (e : (mSG ⊕ mSG)) (h : X9_shaken_l121 x1 x2 x3 x4 v = some e) : Fr W_X9_shaken v.2 ((Sum.elim (fun y : mSG => y) (fun y : mSG => y)) e) :=
  FrS.iter (hy := fun y : Int32 × mSG => y.2) (he := (Sum.elim (fun y : mSG => y) (fun y : mSG => y))) (fun x o hx => FR_X9_shaken_b121 x1 x2 x3 x4 x.1 x.2 o hx) mFU v e h
theorem FR_X9_shaken_b111 (x1 : Int32) (x2 : Int32) (x3 : Int32) (x4 : Int32) (s : mSG) (o : (Int32 × mSG) ⊕ ((Int32 × mSG) ⊕ mSG)) (h : X9_shaken_b111 x1 x2 x3 x4 s = some o) : FrS W_X9_shaken (fun y : Int32 × mSG => y.2) ((Sum.elim (fun y : Int32 × mSG => y.2) (fun y : mSG => y))) s o := by
  unfold X9_shaken_b111 at h
  by_cases hc : 8 ≤ x4
  · rw [if_pos hc] at h
    obtain rfl := Option.some.inj h
    exact ⟨fun y hy => (by cases hy), fun y hy => by obtain rfl := Sum.inr.inj hy; exact Fr.rf⟩
  · rw [if_neg hc] at h
    obtain ⟨e121, hl, h⟩ := m_bind h
    have fl121 : Fr W_X9_shaken s ((Sum.elim (fun y : mSG => y) (fun y : mSG => y)) e121) := Fr.tr Fr.rf (FR_X9_shaken_l121 _ _ _ _ _ _ hl)
    cases e121 with
    | inl e121_0 =>
      simp only [Sum.elim_inl] at h
      obtain rfl := Option.some.inj h
      exact ⟨fun y hy => (by cases hy), fun y hy => by obtain rfl := Sum.inr.inj hy; exact fl121⟩
    | inr e121_1 =>
      simp only [Sum.elim_inr] at h
      obtain rfl := Option.some.inj h
      exact ⟨fun y hy => by obtain rfl := Sum.inl.inj hy; exact fl121, fun y hy => by cases hy⟩

theorem FR_X9_shaken_l111 (x1 : Int32) (x2 : Int32) (x3 : Int32) (v : Int32 × mSG) (e : ((Int32 × mSG) ⊕ mSG)) (h : X9_shaken_l111 x1 x2 x3 v = some e) : Fr W_X9_shaken v.2 ((Sum.elim (fun y : Int32 × mSG => y.2) (fun y : mSG => y)) e) :=
  FrS.iter (hy := fun y : Int32 × mSG => y.2) (he := (Sum.elim (fun y : Int32 × mSG => y.2) (fun y : mSG => y))) (fun x o hx => FR_X9_shaken_b111 x1 x2 x3 x.1 x.2 o hx) mFU v e h
theorem FR_X9_shaken (x1 : Int32) (x2 : Int32) (s : mSG) (o : Int32 × mSG) (h : X9_shaken x1 x2 s = some o) : Fr W_X9_shaken s o.2 := by
  unfold X9_shaken at h
  by_cases hc : X9_isOne x1 s = true
  · rw [if_pos hc] at h
    by_cases hc : X9_isOne x2 s = true
    · rw [if_pos hc] at h
      by_cases hc : x1 = x2
      · rw [if_pos hc] at h
        obtain rfl := Option.some.inj h
        exact Fr.rf
      · rw [if_neg hc] at h
        obtain ⟨-, h⟩ := m_ite h
        obtain ⟨-, h⟩ := m_ite h
        by_cases hc : (s.1 65 x1.toNatClampNeg) = (s.1 65 x2.toNatClampNeg)
        · rw [if_pos hc] at h
          obtain ⟨r5, hr, h⟩ := m_bind h
          obtain ⟨e54, hl, h⟩ := m_bind h
          have fl54 : Fr W_X9_shaken s ((fun y : mSG => y) e54) := Fr.tr Fr.rf (FR_X9_shaken_l54 _ _ _ _ _ hl)
          obtain ⟨-, h⟩ := m_ite h
          obtain ⟨e111, hl, h⟩ := m_bind h
          have fl111 : Fr W_X9_shaken s ((Sum.elim (fun y : Int32 × mSG => y.2) (fun y : mSG => y)) e111) := Fr.tr (Fr.wI fl54 rfl) (FR_X9_shaken_l111 _ _ _ _ _ hl)
          cases e111 with
          | inl e111_0 =>
            simp only [Sum.elim_inl] at h
            obtain rfl := Option.some.inj h
            exact fl111
          | inr e111_1 =>
            simp only [Sum.elim_inr] at h
            obtain rfl := Option.some.inj h
            exact fl111
        · rw [if_neg hc] at h
          obtain rfl := Option.some.inj h
          exact Fr.rf
    · rw [if_neg hc] at h
      obtain rfl := Option.some.inj h
      exact Fr.rf
  · rw [if_neg hc] at h
    obtain rfl := Option.some.inj h
    exact Fr.rf

def W_X9_prints : List (Nat × Option Nat) := [(56, some 18), (56, some 19), (56, some 20), (56, some 21), (56, some 22), (56, some 23), (56, some 24), (56, some 25), (56, some 26), (56, some 27), (56, some 28), (56, some 29), (56, some 30), (56, some 31), (56, some 32)]
theorem FR_X9_prints_j170_111 (x1 : Int32) (x2 : Int32) (x3 : Int32) (x4 : Int32) (x5 : Int32) (x7 : Int32) (p0 : Int32) (s : mSG) (o : (Int32 × Int32 × Int32 × mSG) ⊕ Int32 × mSG) (h : X9_prints_j170_111 x1 x2 x3 x4 x5 x7 p0 s = some o) : FrS W_X9_prints (fun y : Int32 × Int32 × Int32 × mSG => y.2.2.2) ((fun y : Int32 × mSG => y.2)) s o := by
  unfold X9_prints_j170_111 at h
  obtain ⟨r16, hr, h⟩ := m_bind h
  obtain rfl := Option.some.inj h
  exact ⟨fun y hy => by obtain rfl := Sum.inl.inj hy; exact Fr.rf, fun y hy => by cases hy⟩

theorem FR_X9_prints_j169_111 (x1 : Int32) (x2 : Int32) (x3 : Int32) (x4 : Int32) (x5 : Int32) (x7 : Int32) (s : mSG) (o : (Int32 × Int32 × Int32 × mSG) ⊕ Int32 × mSG) (h : X9_prints_j169_111 x1 x2 x3 x4 x5 x7 s = some o) : FrS W_X9_prints (fun y : Int32 × Int32 × Int32 × mSG => y.2.2.2) ((fun y : Int32 × mSG => y.2)) s o := by
  unfold X9_prints_j169_111 at h
  exact FrS.tr Fr.rf (FR_X9_prints_j170_111 _ _ _ _ _ _ _ _ _ h)

theorem FR_X9_prints_b111 (x1 : Int32) (x2 : Int32) (x3 : Int32) (x4 : Int32) (x5 : Int32) (x6 : Int32) (x7 : Int32) (s : mSG) (o : (Int32 × Int32 × Int32 × mSG) ⊕ Int32 × mSG) (h : X9_prints_b111 x1 x2 x3 x4 x5 x6 x7 s = some o) : FrS W_X9_prints (fun y : Int32 × Int32 × Int32 × mSG => y.2.2.2) ((fun y : Int32 × mSG => y.2)) s o := by
  unfold X9_prints_b111 at h
  obtain ⟨-, h⟩ := m_ite h
  by_cases hc : (s.1 82 x1.toNatClampNeg) ≤ x7
  · rw [if_pos hc] at h
    obtain rfl := Option.some.inj h
    exact ⟨fun y hy => (by cases hy), fun y hy => by obtain rfl := Sum.inr.inj hy; exact Fr.rf⟩
  · rw [if_neg hc] at h
    by_cases hc : x6 = 0
    · rw [if_pos hc] at h
      exact FrS.tr Fr.rf (FR_X9_prints_j169_111 _ _ _ _ _ _ _ _ h)
    · rw [if_neg hc] at h
      obtain ⟨-, h⟩ := m_ite h
      obtain ⟨-, h⟩ := m_ite h
      obtain ⟨r15, hr, h⟩ := m_bind h
      have fr15 : Fr W_X9_prints s r15.2 := Fr.tr Fr.rf (Fr.mono (FR_X9_canGo _ _ _ _ _ _ _ hr) rfl)
      by_cases hc : r15.1 = true
      · rw [if_pos hc] at h
        exact FrS.tr fr15 (FR_X9_prints_j170_111 _ _ _ _ _ _ _ _ _ h)
      · rw [if_neg hc] at h
        exact FrS.tr fr15 (FR_X9_prints_j169_111 _ _ _ _ _ _ _ _ h)

theorem FR_X9_prints_l111 (x1 : Int32) (x2 : Int32) (x3 : Int32) (x4 : Int32) (v : Int32 × Int32 × Int32 × mSG) (e : Int32 × mSG) (h : X9_prints_l111 x1 x2 x3 x4 v = some e) : Fr W_X9_prints v.2.2.2 ((fun y : Int32 × mSG => y.2) e) :=
  FrS.iter (hy := fun y : Int32 × Int32 × Int32 × mSG => y.2.2.2) (he := (fun y : Int32 × mSG => y.2)) (fun x o hx => FR_X9_prints_b111 x1 x2 x3 x4 x.1 x.2.1 x.2.2.1 x.2.2.2 o hx) mFU v e h
theorem FR_X9_prints_j200_87 (x1 : Int32) (x2 : Int32) (x4 : Int32) (p0 : Int32) (p1 : Int32) (s : mSG) (o : (Int32 × Int32 × mSG) ⊕ Int32 × mSG) (h : X9_prints_j200_87 x1 x2 x4 p0 p1 s = some o) : FrS W_X9_prints (fun y : Int32 × Int32 × mSG => y.2.2) ((fun y : Int32 × mSG => y.2)) s o := by
  unfold X9_prints_j200_87 at h
  obtain rfl := Option.some.inj h
  exact ⟨fun y hy => by obtain rfl := Sum.inl.inj hy; exact Fr.rf, fun y hy => by cases hy⟩

theorem FR_X9_prints_b87 (x1 : Int32) (x2 : Int32) (x3 : Int32) (x4 : Int32) (s : mSG) (o : (Int32 × Int32 × mSG) ⊕ Int32 × mSG) (h : X9_prints_b87 x1 x2 x3 x4 s = some o) : FrS W_X9_prints (fun y : Int32 × Int32 × mSG => y.2.2) ((fun y : Int32 × mSG => y.2)) s o := by
  unfold X9_prints_b87 at h
  by_cases hc : (s.1 56 15) ≤ x4
  · rw [if_pos hc] at h
    obtain rfl := Option.some.inj h
    exact ⟨fun y hy => (by cases hy), fun y hy => by obtain rfl := Sum.inr.inj hy; exact Fr.rf⟩
  · rw [if_neg hc] at h
    obtain ⟨-, h⟩ := m_ite h
    obtain ⟨e111, hl, h⟩ := m_bind h
    have fl111 : Fr W_X9_prints s ((fun y : Int32 × mSG => y.2) e111) := Fr.tr Fr.rf (FR_X9_prints_l111 _ _ _ _ _ _ hl)
    by_cases hc : e111.1 = 0
    · rw [if_pos hc] at h
      exact FrS.tr fl111 (FR_X9_prints_j200_87 _ _ _ _ _ _ _ h)
    · rw [if_neg hc] at h
      exact FrS.tr fl111 (FR_X9_prints_j200_87 _ _ _ _ _ _ _ h)

theorem FR_X9_prints_l87 (x1 : Int32) (x2 : Int32) (v : Int32 × Int32 × mSG) (e : Int32 × mSG) (h : X9_prints_l87 x1 x2 v = some e) : Fr W_X9_prints v.2.2 ((fun y : Int32 × mSG => y.2) e) :=
  FrS.iter (hy := fun y : Int32 × Int32 × mSG => y.2.2) (he := (fun y : Int32 × mSG => y.2)) (fun x o hx => FR_X9_prints_b87 x1 x2 x.1 x.2.1 x.2.2 o hx) mFU v e h
theorem FR_X9_prints (x1 : Int32) (s : mSG) (o : Int32 × mSG) (h : X9_prints x1 s = some o) : Fr W_X9_prints s o.2 := by
  unfold X9_prints at h
  by_cases hc : X9_isSheet x1 = true
  · rw [if_pos hc] at h
    obtain ⟨-, h⟩ := m_ite h
    by_cases hc : (s.1 80 x1.toNatClampNeg) = 0
    · rw [if_pos hc] at h
      obtain rfl := Option.some.inj h
      exact Fr.rf
    · rw [if_neg hc] at h
      obtain ⟨e24, hl, h⟩ := m_bind h
      cases e24 with
      | inl e24_0 =>
        simp only [Sum.elim_inl] at h
        obtain rfl := Option.some.inj h
        exact Fr.rf
      | inr e24_1 =>
        simp only [Sum.elim_inr] at h
        by_cases hc : 2 ≤ (s.1 82 x1.toNatClampNeg)
        · rw [if_pos hc] at h
          obtain ⟨r7, hr, h⟩ := m_bind h
          obtain ⟨e87, hl, h⟩ := m_bind h
          have fl87 : Fr W_X9_prints s ((fun y : Int32 × mSG => y.2) e87) := Fr.tr Fr.rf (FR_X9_prints_l87 _ _ _ _ hl)
          obtain rfl := Option.some.inj h
          exact fl87
        · rw [if_neg hc] at h
          obtain rfl := Option.some.inj h
          exact Fr.rf
  · rw [if_neg hc] at h
    obtain rfl := Option.some.inj h
    exact Fr.rf

def W_X9_out : List (Nat × Option Nat) := [(56, some 18), (56, some 19), (56, some 20), (56, some 21), (56, some 22), (56, some 23), (56, some 24), (56, some 25), (56, some 26), (56, some 27), (56, some 28), (56, some 29), (56, some 30), (56, some 31), (56, some 32), (56, some 36), (56, some 37), (69, none), (70, none), (71, none)]
theorem FR_X9_out_j100_37 (x1 : Int32) (x2 : Int32) (x3 : Int32) (x4 : Int32) (x5 : Int32) (x6 : Int32) (s : mSG) (o : (Int32 × Int32 × Int32 × mSG) ⊕ Int32 × Int32 × mSG) (h : X9_out_j100_37 x1 x2 x3 x4 x5 x6 s = some o) : FrS W_X9_out (fun y : Int32 × Int32 × Int32 × mSG => y.2.2.2) ((fun y : Int32 × Int32 × mSG => y.2.2)) s o := by
  unfold X9_out_j100_37 at h
  obtain rfl := Option.some.inj h
  exact ⟨fun y hy => by obtain rfl := Sum.inl.inj hy; exact Fr.rf, fun y hy => by cases hy⟩

theorem FR_X9_out_j87_37 (x1 : Int32) (x2 : Int32) (x3 : Int32) (x6 : Int32) (s : mSG) (o : (Int32 × Int32 × Int32 × mSG) ⊕ Int32 × Int32 × mSG) (h : X9_out_j87_37 x1 x2 x3 x6 s = some o) : FrS W_X9_out (fun y : Int32 × Int32 × Int32 × mSG => y.2.2.2) ((fun y : Int32 × Int32 × mSG => y.2.2)) s o := by
  unfold X9_out_j87_37 at h
  exact FrS.tr Fr.rf (FR_X9_out_j100_37 _ _ _ _ _ _ _ _ h)

theorem FR_X9_out_b37 (x1 : Int32) (x2 : Int32) (x3 : Int32) (x4 : Int32) (x5 : Int32) (x6 : Int32) (s : mSG) (o : (Int32 × Int32 × Int32 × mSG) ⊕ Int32 × Int32 × mSG) (h : X9_out_b37 x1 x2 x3 x4 x5 x6 s = some o) : FrS W_X9_out (fun y : Int32 × Int32 × Int32 × mSG => y.2.2.2) ((fun y : Int32 × Int32 × mSG => y.2.2)) s o := by
  unfold X9_out_b37 at h
  by_cases hc : 24 ≤ x6
  · rw [if_pos hc] at h
    obtain rfl := Option.some.inj h
    exact ⟨fun y hy => (by cases hy), fun y hy => by obtain rfl := Sum.inr.inj hy; exact Fr.rf⟩
  · rw [if_neg hc] at h
    obtain ⟨r2, hr, h⟩ := m_bind h
    obtain ⟨r3, hr, h⟩ := m_bind h
    have fr3 : Fr W_X9_out s r3 := Fr.tr Fr.rf (Fr.mono (FR_X9_seeks _ _ _ _ _ hr) rfl)
    by_cases hc : (r3.1 56 36) = (-1)
    · rw [if_pos hc] at h
      exact FrS.tr fr3 (FR_X9_out_j100_37 _ _ _ _ _ _ _ _ h)
    · rw [if_neg hc] at h
      by_cases hc : x4 = (-1)
      · rw [if_pos hc] at h
        exact FrS.tr fr3 (FR_X9_out_j87_37 _ _ _ _ _ _ h)
      · rw [if_neg hc] at h
        by_cases hc : x5 ≤ (x6 + (r3.1 56 36))
        · rw [if_pos hc] at h
          exact FrS.tr fr3 (FR_X9_out_j100_37 _ _ _ _ _ _ _ _ h)
        · rw [if_neg hc] at h
          exact FrS.tr fr3 (FR_X9_out_j87_37 _ _ _ _ _ _ h)

theorem FR_X9_out_l37 (x1 : Int32) (x2 : Int32) (x3 : Int32) (v : Int32 × Int32 × Int32 × mSG) (e : Int32 × Int32 × mSG) (h : X9_out_l37 x1 x2 x3 v = some e) : Fr W_X9_out v.2.2.2 ((fun y : Int32 × Int32 × mSG => y.2.2) e) :=
  FrS.iter (hy := fun y : Int32 × Int32 × Int32 × mSG => y.2.2.2) (he := (fun y : Int32 × Int32 × mSG => y.2.2)) (fun x o hx => FR_X9_out_b37 x1 x2 x3 x.1 x.2.1 x.2.2.1 x.2.2.2 o hx) mFU v e h
theorem FR_X9_out (x1 : Int32) (x2 : Int32) (x3 : Int32) (s : mSG) (o : Int32 × mSG) (h : X9_out x1 x2 x3 s = some o) : Fr W_X9_out s o.2 := by
  unfold X9_out at h
  by_cases hc : X9_isOne x1 s = true
  · rw [if_pos hc] at h
    by_cases hc : X9_isStone x2 = true
    · rw [if_pos hc] at h
      by_cases hc : X9_in x3.toInt64 0 1 = true
      · rw [if_pos hc] at h
        obtain ⟨e37, hl, h⟩ := m_bind h
        have fl37 : Fr W_X9_out s ((fun y : Int32 × Int32 × mSG => y.2.2) e37) := Fr.tr Fr.rf (FR_X9_out_l37 _ _ _ _ _ hl)
        by_cases hc : x3 = 0
        · rw [if_pos hc] at h
          obtain rfl := Option.some.inj h
          exact fl37
        · rw [if_neg hc] at h
          obtain rfl := Option.some.inj h
          exact fl37
      · rw [if_neg hc] at h
        obtain rfl := Option.some.inj h
        exact Fr.rf
    · rw [if_neg hc] at h
      obtain rfl := Option.some.inj h
      exact Fr.rf
  · rw [if_neg hc] at h
    obtain rfl := Option.some.inj h
    exact Fr.rf

def W_X9_road : List (Nat × Option Nat) := [(56, some 18), (56, some 19), (56, some 20), (56, some 21), (56, some 22), (56, some 23), (56, some 24), (56, some 25), (56, some 26), (56, some 27), (56, some 28), (56, some 29), (56, some 30), (56, some 31), (56, some 32), (56, some 36), (56, some 37), (60, none), (69, none), (70, none), (71, none)]
theorem FR_X9_road_j146_86 (x1 : Int32) (x2 : Int32) (x3 : Int32) (x4 : Int32) (x5 : Int32) (x6 : Int32) (x7 : Int32) (x8 : Int32) (x9 : Int32) (x11 : Int32) (p0 : Int32) (p1 : Int32) (s : mSG) (o : (Int32 × Int32 × Int32 × mSG) ⊕ Int32 × Int32 × mSG) (h : X9_road_j146_86 x1 x2 x3 x4 x5 x6 x7 x8 x9 x11 p0 p1 s = some o) : FrS W_X9_road (fun y : Int32 × Int32 × Int32 × mSG => y.2.2.2) ((fun y : Int32 × Int32 × mSG => y.2.2)) s o := by
  unfold X9_road_j146_86 at h
  obtain rfl := Option.some.inj h
  exact ⟨fun y hy => by obtain rfl := Sum.inl.inj hy; exact Fr.rf, fun y hy => by cases hy⟩

theorem FR_X9_road_j125_86 (x1 : Int32) (x2 : Int32) (x3 : Int32) (x4 : Int32) (x5 : Int32) (x6 : Int32) (x7 : Int32) (x8 : Int32) (x10 : Int32) (x11 : Int32) (p0 : Int32) (p1 : Int32) (s : mSG) (o : (Int32 × Int32 × Int32 × mSG) ⊕ Int32 × Int32 × mSG) (h : X9_road_j125_86 x1 x2 x3 x4 x5 x6 x7 x8 x10 x11 p0 p1 s = some o) : FrS W_X9_road (fun y : Int32 × Int32 × Int32 × mSG => y.2.2.2) ((fun y : Int32 × Int32 × mSG => y.2.2)) s o := by
  unfold X9_road_j125_86 at h
  by_cases hc : (s.1 56 36) = (-1)
  · rw [if_pos hc] at h
    exact FrS.tr Fr.rf (FR_X9_road_j146_86 _ _ _ _ _ _ _ _ _ _ _ _ _ _ h)
  · rw [if_neg hc] at h
    exact FrS.tr Fr.rf (FR_X9_road_j146_86 _ _ _ _ _ _ _ _ _ _ _ _ _ _ h)

theorem FR_X9_road_b86 (x1 : Int32) (x2 : Int32) (x3 : Int32) (x4 : Int32) (x5 : Int32) (x6 : Int32) (x7 : Int32) (x8 : Int32) (x9 : Int32) (x10 : Int32) (x11 : Int32) (s : mSG) (o : (Int32 × Int32 × Int32 × mSG) ⊕ Int32 × Int32 × mSG) (h : X9_road_b86 x1 x2 x3 x4 x5 x6 x7 x8 x9 x10 x11 s = some o) : FrS W_X9_road (fun y : Int32 × Int32 × Int32 × mSG => y.2.2.2) ((fun y : Int32 × Int32 × mSG => y.2.2)) s o := by
  unfold X9_road_b86 at h
  by_cases hc : (s.1 56 15) ≤ x11
  · rw [if_pos hc] at h
    obtain rfl := Option.some.inj h
    exact ⟨fun y hy => (by cases hy), fun y hy => by obtain rfl := Sum.inr.inj hy; exact Fr.rf⟩
  · rw [if_neg hc] at h
    obtain ⟨r6, hr, h⟩ := m_bind h
    obtain ⟨r7, hr, h⟩ := m_bind h
    have fr7 : Fr W_X9_road s r7 := Fr.tr Fr.rf (Fr.mono (FR_X9_seeks _ _ _ _ _ hr) rfl)
    by_cases hc : (r7.1 56 36) = (-1)
    · rw [if_pos hc] at h
      exact FrS.tr fr7 (FR_X9_road_j125_86 _ _ _ _ _ _ _ _ _ _ _ _ _ _ h)
    · rw [if_neg hc] at h
      exact FrS.tr fr7 (FR_X9_road_j125_86 _ _ _ _ _ _ _ _ _ _ _ _ _ _ h)

theorem FR_X9_road_l86 (x1 : Int32) (x2 : Int32) (x3 : Int32) (x4 : Int32) (x5 : Int32) (x6 : Int32) (x7 : Int32) (x8 : Int32) (v : Int32 × Int32 × Int32 × mSG) (e : Int32 × Int32 × mSG) (h : X9_road_l86 x1 x2 x3 x4 x5 x6 x7 x8 v = some e) : Fr W_X9_road v.2.2.2 ((fun y : Int32 × Int32 × mSG => y.2.2) e) :=
  FrS.iter (hy := fun y : Int32 × Int32 × Int32 × mSG => y.2.2.2) (he := (fun y : Int32 × Int32 × mSG => y.2.2)) (fun x o hx => FR_X9_road_b86 x1 x2 x3 x4 x5 x6 x7 x8 x.1 x.2.1 x.2.2.1 x.2.2.2 o hx) mFU v e h
theorem FR_X9_road_j203_46 (x1 : Int32) (x2 : Int32) (x3 : Int32) (x4 : Int32) (x5 : Int32) (x6 : Int32) (x7 : Int32) (s : mSG) (o : (Int32 × Int32 × Int32 × Int32 × mSG) ⊕ Int32 × Int32 × Int32 × mSG) (h : X9_road_j203_46 x1 x2 x3 x4 x5 x6 x7 s = some o) : FrS W_X9_road (fun y : Int32 × Int32 × Int32 × Int32 × mSG => y.2.2.2.2) ((fun y : Int32 × Int32 × Int32 × mSG => y.2.2.2)) s o := by
  unfold X9_road_j203_46 at h
  obtain rfl := Option.some.inj h
  exact ⟨fun y hy => by obtain rfl := Sum.inl.inj hy; exact Fr.rf, fun y hy => by cases hy⟩

theorem FR_X9_road_j186_46 (x1 : Int32) (x2 : Int32) (x6 : Int32) (x7 : Int32) (x9 : Int32) (x10 : Int32) (s : mSG) (o : (Int32 × Int32 × Int32 × Int32 × mSG) ⊕ Int32 × Int32 × Int32 × mSG) (h : X9_road_j186_46 x1 x2 x6 x7 x9 x10 s = some o) : FrS W_X9_road (fun y : Int32 × Int32 × Int32 × Int32 × mSG => y.2.2.2.2) ((fun y : Int32 × Int32 × Int32 × mSG => y.2.2.2)) s o := by
  unfold X9_road_j186_46 at h
  exact FrS.tr Fr.rf (FR_X9_road_j203_46 _ _ _ _ _ _ _ _ _ h)

theorem FR_X9_road_b46 (x1 : Int32) (x2 : Int32) (x6 : Int32) (x3 : Int32) (x4 : Int32) (x5 : Int32) (x7 : Int32) (s : mSG) (o : (Int32 × Int32 × Int32 × Int32 × mSG) ⊕ Int32 × Int32 × Int32 × mSG) (h : X9_road_b46 x1 x2 x6 x3 x4 x5 x7 s = some o) : FrS W_X9_road (fun y : Int32 × Int32 × Int32 × Int32 × mSG => y.2.2.2.2) ((fun y : Int32 × Int32 × Int32 × mSG => y.2.2.2)) s o := by
  unfold X9_road_b46 at h
  by_cases hc : 8 ≤ x7
  · rw [if_pos hc] at h
    obtain rfl := Option.some.inj h
    exact ⟨fun y hy => (by cases hy), fun y hy => by obtain rfl := Sum.inr.inj hy; exact Fr.rf⟩
  · rw [if_neg hc] at h
    obtain ⟨-, h⟩ := m_ite h
    obtain ⟨r4, hr, h⟩ := m_bind h
    have fr4 : Fr W_X9_road s r4 := Fr.tr Fr.rf (Fr.mono (FR_X9_muddy _ _ _ _ _ hr) rfl)
    obtain ⟨e86, hl, h⟩ := m_bind h
    have fl86 : Fr W_X9_road s ((fun y : Int32 × Int32 × mSG => y.2.2) e86) := Fr.tr fr4 (FR_X9_road_l86 _ _ _ _ _ _ _ _ _ _ hl)
    obtain ⟨r18, hr, h⟩ := m_bind h
    have fr18 : Fr W_X9_road s r18 := Fr.tr fl86 (Fr.mono (FR_X9_muddy _ _ _ _ _ hr) rfl)
    by_cases hc : x4 < e86.1
    · rw [if_pos hc] at h
      exact FrS.tr fr18 (FR_X9_road_j186_46 _ _ _ _ _ _ _ _ h)
    · rw [if_neg hc] at h
      by_cases hc : e86.1 = x4
      · rw [if_pos hc] at h
        by_cases hc : x5 ≤ e86.2.1
        · rw [if_pos hc] at h
          exact FrS.tr fr18 (FR_X9_road_j203_46 _ _ _ _ _ _ _ _ _ h)
        · rw [if_neg hc] at h
          exact FrS.tr fr18 (FR_X9_road_j186_46 _ _ _ _ _ _ _ _ h)
      · rw [if_neg hc] at h
        exact FrS.tr fr18 (FR_X9_road_j203_46 _ _ _ _ _ _ _ _ _ h)

theorem FR_X9_road_l46 (x1 : Int32) (x2 : Int32) (x6 : Int32) (v : Int32 × Int32 × Int32 × Int32 × mSG) (e : Int32 × Int32 × Int32 × mSG) (h : X9_road_l46 x1 x2 x6 v = some e) : Fr W_X9_road v.2.2.2.2 ((fun y : Int32 × Int32 × Int32 × mSG => y.2.2.2) e) :=
  FrS.iter (hy := fun y : Int32 × Int32 × Int32 × Int32 × mSG => y.2.2.2.2) (he := (fun y : Int32 × Int32 × Int32 × mSG => y.2.2.2)) (fun x o hx => FR_X9_road_b46 x1 x2 x6 x.1 x.2.1 x.2.2.1 x.2.2.2.1 x.2.2.2.2 o hx) mFU v e h
theorem FR_X9_road_b33 (x1 : Int32) (x2 : Int32) (x3 : Int32) (x4 : Int32) (x5 : Int32) (x6 : Int32) (s : mSG) (o : (Int32 × Int32 × Int32 × Int32 × mSG) ⊕ Int32 × Int32 × Int32 × mSG) (h : X9_road_b33 x1 x2 x3 x4 x5 x6 s = some o) : FrS W_X9_road (fun y : Int32 × Int32 × Int32 × Int32 × mSG => y.2.2.2.2) ((fun y : Int32 × Int32 × Int32 × mSG => y.2.2.2)) s o := by
  unfold X9_road_b33 at h
  by_cases hc : 8 ≤ x6
  · rw [if_pos hc] at h
    obtain rfl := Option.some.inj h
    exact ⟨fun y hy => (by cases hy), fun y hy => by obtain rfl := Sum.inr.inj hy; exact Fr.rf⟩
  · rw [if_neg hc] at h
    obtain ⟨e46, hl, h⟩ := m_bind h
    have fl46 : Fr W_X9_road s ((fun y : Int32 × Int32 × Int32 × mSG => y.2.2.2) e46) := Fr.tr Fr.rf (FR_X9_road_l46 _ _ _ _ _ hl)
    obtain rfl := Option.some.inj h
    exact ⟨fun y hy => by obtain rfl := Sum.inl.inj hy; exact fl46, fun y hy => by cases hy⟩

theorem FR_X9_road_l33 (x1 : Int32) (x2 : Int32) (v : Int32 × Int32 × Int32 × Int32 × mSG) (e : Int32 × Int32 × Int32 × mSG) (h : X9_road_l33 x1 x2 v = some e) : Fr W_X9_road v.2.2.2.2 ((fun y : Int32 × Int32 × Int32 × mSG => y.2.2.2) e) :=
  FrS.iter (hy := fun y : Int32 × Int32 × Int32 × Int32 × mSG => y.2.2.2.2) (he := (fun y : Int32 × Int32 × Int32 × mSG => y.2.2.2)) (fun x o hx => FR_X9_road_b33 x1 x2 x.1 x.2.1 x.2.2.1 x.2.2.2.1 x.2.2.2.2 o hx) mFU v e h
theorem FR_X9_road (x1 : Int32) (x2 : Int32) (s : mSG) (o : Int32 × mSG) (h : X9_road x1 x2 s = some o) : Fr W_X9_road s o.2 := by
  unfold X9_road at h
  by_cases hc : X9_isStone x1 = true
  · rw [if_pos hc] at h
    by_cases hc : X9_in x2.toInt64 0 2 = true
    · rw [if_pos hc] at h
      obtain ⟨e33, hl, h⟩ := m_bind h
      have fl33 : Fr W_X9_road s ((fun y : Int32 × Int32 × Int32 × mSG => y.2.2.2) e33) := Fr.tr Fr.rf (FR_X9_road_l33 _ _ _ _ hl)
      by_cases hc : x2 = 0
      · rw [if_pos hc] at h
        obtain rfl := Option.some.inj h
        exact fl33
      · rw [if_neg hc] at h
        by_cases hc : x2 = 1
        · rw [if_pos hc] at h
          obtain rfl := Option.some.inj h
          exact fl33
        · rw [if_neg hc] at h
          obtain rfl := Option.some.inj h
          exact fl33
    · rw [if_neg hc] at h
      obtain rfl := Option.some.inj h
      exact Fr.rf
  · rw [if_neg hc] at h
    obtain rfl := Option.some.inj h
    exact Fr.rf

def W_X9_laysAside : List (Nat × Option Nat) := [(56, some 42), (74, none), (75, none)]
theorem FR_X9_laysAside_b2 (x1 : Int32) (s : mSG) (o : (Int32 × mSG) ⊕ mSG) (h : X9_laysAside_b2 x1 s = some o) : FrS W_X9_laysAside (fun y : Int32 × mSG => y.2) ((fun y : mSG => y)) s o := by
  unfold X9_laysAside_b2 at h
  by_cases hc : 5 ≤ x1
  · rw [if_pos hc] at h
    obtain rfl := Option.some.inj h
    exact ⟨fun y hy => (by cases hy), fun y hy => by obtain rfl := Sum.inr.inj hy; exact Fr.rf⟩
  · rw [if_neg hc] at h
    obtain ⟨-, h⟩ := m_ite h
    obtain rfl := Option.some.inj h
    exact ⟨fun y hy => by obtain rfl := Sum.inl.inj hy; exact (Fr.wI (Fr.wI Fr.rf rfl) rfl), fun y hy => by cases hy⟩

theorem FR_X9_laysAside_l2 (v : Int32 × mSG) (e : mSG) (h : X9_laysAside_l2 v = some e) : Fr W_X9_laysAside v.2 ((fun y : mSG => y) e) :=
  FrS.iter (hy := fun y : Int32 × mSG => y.2) (he := (fun y : mSG => y)) (fun x o hx => FR_X9_laysAside_b2 x.1 x.2 o hx) mFU v e h
theorem FR_X9_laysAside (s : mSG) (o : mSG) (h : X9_laysAside s = some o) : Fr W_X9_laysAside s o := by
  unfold X9_laysAside at h
  obtain ⟨e2, hl, h⟩ := m_bind h
  have fl2 : Fr W_X9_laysAside s ((fun y : mSG => y) e2) := Fr.tr Fr.rf (FR_X9_laysAside_l2  _ _ hl)
  obtain rfl := Option.some.inj h
  exact (Fr.wI fl2 rfl)

def W_X9_laysBack : List (Nat × Option Nat) := [(56, some 16), (65, none), (66, none)]
theorem FR_X9_laysBack_b2 (x1 : Int32) (s : mSG) (o : (Int32 × mSG) ⊕ mSG) (h : X9_laysBack_b2 x1 s = some o) : FrS W_X9_laysBack (fun y : Int32 × mSG => y.2) ((fun y : mSG => y)) s o := by
  unfold X9_laysBack_b2 at h
  by_cases hc : 5 ≤ x1
  · rw [if_pos hc] at h
    obtain rfl := Option.some.inj h
    exact ⟨fun y hy => (by cases hy), fun y hy => by obtain rfl := Sum.inr.inj hy; exact Fr.rf⟩
  · rw [if_neg hc] at h
    obtain ⟨-, h⟩ := m_ite h
    obtain rfl := Option.some.inj h
    exact ⟨fun y hy => by obtain rfl := Sum.inl.inj hy; exact (Fr.wI (Fr.wI Fr.rf rfl) rfl), fun y hy => by cases hy⟩

theorem FR_X9_laysBack_l2 (v : Int32 × mSG) (e : mSG) (h : X9_laysBack_l2 v = some e) : Fr W_X9_laysBack v.2 ((fun y : mSG => y) e) :=
  FrS.iter (hy := fun y : Int32 × mSG => y.2) (he := (fun y : mSG => y)) (fun x o hx => FR_X9_laysBack_b2 x.1 x.2 o hx) mFU v e h
theorem FR_X9_laysBack (s : mSG) (o : mSG) (h : X9_laysBack s = some o) : Fr W_X9_laysBack s o := by
  unfold X9_laysBack at h
  obtain ⟨e2, hl, h⟩ := m_bind h
  have fl2 : Fr W_X9_laysBack s ((fun y : mSG => y) e2) := Fr.tr Fr.rf (FR_X9_laysBack_l2  _ _ hl)
  obtain rfl := Option.some.inj h
  exact (Fr.wI fl2 rfl)

def W_X9_judge : List (Nat × Option Nat) := [(56, some 16), (56, some 18), (56, some 19), (56, some 20), (56, some 21), (56, some 22), (56, some 23), (56, some 24), (56, some 25), (56, some 26), (56, some 27), (56, some 28), (56, some 29), (56, some 30), (56, some 31), (56, some 32), (56, some 42), (65, none), (66, none), (74, none), (75, none)]
theorem FR_X9_judge_j124_45 (x1 : Int32) (x2 : Int32) (x3 : Int32) (s : mSG) (o : (Int32 × Int32 × mSG) ⊕ Int32 × mSG) (h : X9_judge_j124_45 x1 x2 x3 s = some o) : FrS W_X9_judge (fun y : Int32 × Int32 × mSG => y.2.2) ((fun y : Int32 × mSG => y.2)) s o := by
  unfold X9_judge_j124_45 at h
  obtain rfl := Option.some.inj h
  exact ⟨fun y hy => by obtain rfl := Sum.inl.inj hy; exact Fr.rf, fun y hy => by cases hy⟩

theorem FR_X9_judge_j122_45 (x1 : Int32) (x3 : Int32) (s : mSG) (o : (Int32 × Int32 × mSG) ⊕ Int32 × mSG) (h : X9_judge_j122_45 x1 x3 s = some o) : FrS W_X9_judge (fun y : Int32 × Int32 × mSG => y.2.2) ((fun y : Int32 × mSG => y.2)) s o := by
  unfold X9_judge_j122_45 at h
  exact FrS.tr Fr.rf (FR_X9_judge_j124_45 _ _ _ _ _ h)

theorem FR_X9_judge_b45 (x1 : Int32) (x2 : Int32) (x3 : Int32) (s : mSG) (o : (Int32 × Int32 × mSG) ⊕ Int32 × mSG) (h : X9_judge_b45 x1 x2 x3 s = some o) : FrS W_X9_judge (fun y : Int32 × Int32 × mSG => y.2.2) ((fun y : Int32 × mSG => y.2)) s o := by
  unfold X9_judge_b45 at h
  obtain ⟨-, h⟩ := m_ite h
  by_cases hc : ((s.1 82 x1.toNatClampNeg) / 2) ≤ x3
  · rw [if_pos hc] at h
    obtain rfl := Option.some.inj h
    exact ⟨fun y hy => (by cases hy), fun y hy => by obtain rfl := Sum.inr.inj hy; exact Fr.rf⟩
  · rw [if_neg hc] at h
    by_cases hc : x2 = (-1)
    · rw [if_pos hc] at h
      obtain ⟨-, h⟩ := m_ite h
      obtain ⟨-, h⟩ := m_ite h
      by_cases hc : X9_isOne (s.1 83 ((40 * x1) + (2 * x3)).toNatClampNeg) s = true
      · rw [if_pos hc] at h
        by_cases hc : X9_isStone (s.1 83 (((40 * x1) + (2 * x3)) + 1).toNatClampNeg) = true
        · rw [if_pos hc] at h
          obtain ⟨r10, hr, h⟩ := m_bind h
          have fr10 : Fr W_X9_judge s r10.2 := Fr.tr Fr.rf (Fr.mono (FR_X9_goes _ _ _ _ hr) rfl)
          by_cases hc : r10.1 = true
          · rw [if_pos hc] at h
            exact FrS.tr fr10 (FR_X9_judge_j124_45 _ _ _ _ _ h)
          · rw [if_neg hc] at h
            exact FrS.tr fr10 (FR_X9_judge_j122_45 _ _ _ _ h)
        · rw [if_neg hc] at h
          exact FrS.tr Fr.rf (FR_X9_judge_j122_45 _ _ _ _ h)
      · rw [if_neg hc] at h
        exact FrS.tr Fr.rf (FR_X9_judge_j122_45 _ _ _ _ h)
    · rw [if_neg hc] at h
      obtain rfl := Option.some.inj h
      exact ⟨fun y hy => (by cases hy), fun y hy => by obtain rfl := Sum.inr.inj hy; exact Fr.rf⟩

theorem FR_X9_judge_l45 (x1 : Int32) (v : Int32 × Int32 × mSG) (e : Int32 × mSG) (h : X9_judge_l45 x1 v = some e) : Fr W_X9_judge v.2.2 ((fun y : Int32 × mSG => y.2) e) :=
  FrS.iter (hy := fun y : Int32 × Int32 × mSG => y.2.2) (he := (fun y : Int32 × mSG => y.2)) (fun x o hx => FR_X9_judge_b45 x1 x.1 x.2.1 x.2.2 o hx) mFU v e h
theorem FR_X9_judge_j130 (x2 : Int32) (s : mSG) (o : Int32 × mSG) (h : X9_judge_j130 x2 s = some o) : Fr W_X9_judge s o.2 := by
  unfold X9_judge_j130 at h
  obtain ⟨r11, hr, h⟩ := m_bind h
  have fr11 : Fr W_X9_judge s r11 := Fr.tr Fr.rf (Fr.mono (FR_X9_laysBack _ _ hr) rfl)
  obtain rfl := Option.some.inj h
  exact fr11

theorem FR_X9_judge (x1 : Int32) (s : mSG) (o : Int32 × mSG) (h : X9_judge x1 s = some o) : Fr W_X9_judge s o.2 := by
  unfold X9_judge at h
  by_cases hc : X9_isSheet x1 = true
  · rw [if_pos hc] at h
    obtain ⟨-, h⟩ := m_ite h
    by_cases hc : (s.1 80 x1.toNatClampNeg) = 0
    · rw [if_pos hc] at h
      obtain rfl := Option.some.inj h
      exact Fr.rf
    · rw [if_neg hc] at h
      by_cases hc : ((s.1 82 x1.toNatClampNeg) - (s.1 82 x1.toNatClampNeg) / 2 * 2) = 1
      · rw [if_pos hc] at h
        obtain rfl := Option.some.inj h
        exact Fr.rf
      · rw [if_neg hc] at h
        obtain ⟨r4, hr, h⟩ := m_bind h
        have fr4 : Fr W_X9_judge s r4 := Fr.tr Fr.rf (Fr.mono (FR_X9_laysAside _ _ hr) rfl)
        obtain ⟨e45, hl, h⟩ := m_bind h
        have fl45 : Fr W_X9_judge s ((fun y : Int32 × mSG => y.2) e45) := Fr.tr fr4 (FR_X9_judge_l45 _ _ _ hl)
        exact Fr.tr fl45 (FR_X9_judge_j130 _ _ _ h)
  · rw [if_neg hc] at h
    obtain rfl := Option.some.inj h
    exact Fr.rf

def W_X9_draws : List (Nat × Option Nat) := [(56, some 16), (56, some 18), (56, some 19), (56, some 20), (56, some 21), (56, some 22), (56, some 23), (56, some 24), (56, some 25), (56, some 26), (56, some 27), (56, some 28), (56, some 29), (56, some 30), (56, some 31), (56, some 32), (56, some 42), (65, none), (66, none), (74, none), (75, none)]
theorem FR_X9_draws_b19 (x2 : Int32) (x3 : Int32) (x5 : Int32) (x4 : Int32) (x6 : Int32) (s : mSG) (o : (Int32 × Int32 × mSG) ⊕ Int32 × mSG) (h : X9_draws_b19 x2 x3 x5 x4 x6 s = some o) : FrS W_X9_draws (fun y : Int32 × Int32 × mSG => y.2.2) ((fun y : Int32 × mSG => y.2)) s o := by
  unfold X9_draws_b19 at h
  by_cases hc : (s.1 56 15) ≤ x6
  · rw [if_pos hc] at h
    obtain rfl := Option.some.inj h
    exact ⟨fun y hy => (by cases hy), fun y hy => by obtain rfl := Sum.inr.inj hy; exact Fr.rf⟩
  · rw [if_neg hc] at h
    obtain ⟨r4, hr, h⟩ := m_bind h
    have fr4 : Fr W_X9_draws s r4.2 := Fr.tr Fr.rf (Fr.mono (FR_X9_goes _ _ _ _ hr) rfl)
    obtain rfl := Option.some.inj h
    exact ⟨fun y hy => by obtain rfl := Sum.inl.inj hy; exact fr4, fun y hy => by cases hy⟩

theorem FR_X9_draws_l19 (x2 : Int32) (x3 : Int32) (x5 : Int32) (v : Int32 × Int32 × mSG) (e : Int32 × mSG) (h : X9_draws_l19 x2 x3 x5 v = some e) : Fr W_X9_draws v.2.2 ((fun y : Int32 × mSG => y.2) e) :=
  FrS.iter (hy := fun y : Int32 × Int32 × mSG => y.2.2) (he := (fun y : Int32 × mSG => y.2)) (fun x o hx => FR_X9_draws_b19 x2 x3 x5 x.1 x.2.1 x.2.2 o hx) mFU v e h
theorem FR_X9_draws_b10 (x2 : Int32) (x3 : Int32) (x4 : Int32) (x5 : Int32) (s : mSG) (o : (Int32 × Int32 × mSG) ⊕ mSG) (h : X9_draws_b10 x2 x3 x4 x5 s = some o) : FrS W_X9_draws (fun y : Int32 × Int32 × mSG => y.2.2) ((fun y : mSG => y)) s o := by
  unfold X9_draws_b10 at h
  by_cases hc : x2 ≤ x5
  · rw [if_pos hc] at h
    obtain rfl := Option.some.inj h
    exact ⟨fun y hy => (by cases hy), fun y hy => by obtain rfl := Sum.inr.inj hy; exact Fr.rf⟩
  · rw [if_neg hc] at h
    obtain ⟨e19, hl, h⟩ := m_bind h
    have fl19 : Fr W_X9_draws s ((fun y : Int32 × mSG => y.2) e19) := Fr.tr Fr.rf (FR_X9_draws_l19 _ _ _ _ _ hl)
    obtain rfl := Option.some.inj h
    exact ⟨fun y hy => by obtain rfl := Sum.inl.inj hy; exact fl19, fun y hy => by cases hy⟩

theorem FR_X9_draws_l10 (x2 : Int32) (x3 : Int32) (v : Int32 × Int32 × mSG) (e : mSG) (h : X9_draws_l10 x2 x3 v = some e) : Fr W_X9_draws v.2.2 ((fun y : mSG => y) e) :=
  FrS.iter (hy := fun y : Int32 × Int32 × mSG => y.2.2) (he := (fun y : mSG => y)) (fun x o hx => FR_X9_draws_b10 x2 x3 x.1 x.2.1 x.2.2 o hx) mFU v e h
theorem FR_X9_draws (x1 : Int32) (x2 : Int32) (x3 : Int32) (s : mSG) (o : Int32 × mSG) (h : X9_draws x1 x2 x3 s = some o) : Fr W_X9_draws s o.2 := by
  unfold X9_draws at h
  obtain ⟨r1, hr, h⟩ := m_bind h
  have fr1 : Fr W_X9_draws s r1 := Fr.tr Fr.rf (Fr.mono (FR_X9_laysAside _ _ hr) rfl)
  obtain ⟨e10, hl, h⟩ := m_bind h
  have fl10 : Fr W_X9_draws s ((fun y : mSG => y) e10) := Fr.tr fr1 (FR_X9_draws_l10 _ _ _ _ hl)
  obtain ⟨e73, hl, h⟩ := m_bind h
  obtain ⟨r5, hr, h⟩ := m_bind h
  have fr5 : Fr W_X9_draws s r5 := Fr.tr fl10 (Fr.mono (FR_X9_laysBack _ _ hr) rfl)
  obtain rfl := Option.some.inj h
  exact fr5

def W_X9_drawn : List (Nat × Option Nat) := [(56, some 16), (56, some 18), (56, some 19), (56, some 20), (56, some 21), (56, some 22), (56, some 23), (56, some 24), (56, some 25), (56, some 26), (56, some 27), (56, some 28), (56, some 29), (56, some 30), (56, some 31), (56, some 32), (56, some 42), (65, none), (66, none), (74, none), (75, none)]
theorem FR_X9_drawn (x1 : Int32) (x2 : Int32) (x3 : Int32) (s : mSG) (o : Int32 × mSG) (h : X9_drawn x1 x2 x3 s = some o) : Fr W_X9_drawn s o.2 := by
  unfold X9_drawn at h
  by_cases hc : X9_in x2.toInt64 0 30 = true
  · rw [if_pos hc] at h
    by_cases hc : X9_isStone x3 = true
    · rw [if_pos hc] at h
      obtain ⟨r1, hr, h⟩ := m_bind h
      have fr1 : Fr W_X9_drawn s r1.2 := Fr.tr Fr.rf (Fr.mono (FR_X9_draws _ _ _ _ _ hr) rfl)
      obtain rfl := Option.some.inj h
      exact fr1
    · rw [if_neg hc] at h
      obtain rfl := Option.some.inj h
      exact Fr.rf
  · rw [if_neg hc] at h
    obtain rfl := Option.some.inj h
    exact Fr.rf

def W_X9_chance : List (Nat × Option Nat) := [(56, some 16), (56, some 18), (56, some 19), (56, some 20), (56, some 21), (56, some 22), (56, some 23), (56, some 24), (56, some 25), (56, some 26), (56, some 27), (56, some 28), (56, some 29), (56, some 30), (56, some 31), (56, some 32), (56, some 42), (65, none), (66, none), (74, none), (75, none)]
theorem FR_X9_chance_j80_53 (x1 : Int32) (x2 : Int32) (x3 : Int32) (x4 : Int32) (x5 : Int32) (x8 : Int32) (pj0 : Int64) (pj1 : Int64) (s : mSG) (o : (Int64 × Int32 × mSG) ⊕ Int64 × mSG) (h : X9_chance_j80_53 x1 x2 x3 x4 x5 x8 pj0 pj1 s = some o) : FrS W_X9_chance (fun y : Int64 × Int32 × mSG => y.2.2) ((fun y : Int64 × mSG => y.2)) s o := by
  unfold X9_chance_j80_53 at h
  obtain rfl := Option.some.inj h
  exact ⟨fun y hy => by obtain rfl := Sum.inl.inj hy; exact Fr.rf, fun y hy => by cases hy⟩

theorem FR_X9_chance_b53 (x1 : Int32) (x2 : Int32) (x3 : Int32) (x4 : Int32) (x5 : Int32) (j6 : Int64) (x8 : Int32) (s : mSG) (o : (Int64 × Int32 × mSG) ⊕ Int64 × mSG) (h : X9_chance_b53 x1 x2 x3 x4 x5 j6 x8 s = some o) : FrS W_X9_chance (fun y : Int64 × Int32 × mSG => y.2.2) ((fun y : Int64 × mSG => y.2)) s o := by
  unfold X9_chance_b53 at h
  by_cases hc : x2 ≤ x8
  · rw [if_pos hc] at h
    obtain rfl := Option.some.inj h
    exact ⟨fun y hy => (by cases hy), fun y hy => by obtain rfl := Sum.inr.inj hy; exact Fr.rf⟩
  · rw [if_neg hc] at h
    obtain ⟨r2, hr, h⟩ := m_bind h
    have fr2 : Fr W_X9_chance s r2.2 := Fr.tr Fr.rf (Fr.mono (FR_X9_draws _ _ _ _ _ hr) rfl)
    by_cases hc : r2.1 ≤ 0
    · rw [if_pos hc] at h
      exact FrS.tr fr2 (FR_X9_chance_j80_53 _ _ _ _ _ _ _ _ _ _ h)
    · rw [if_neg hc] at h
      exact FrS.tr fr2 (FR_X9_chance_j80_53 _ _ _ _ _ _ _ _ _ _ h)

theorem FR_X9_chance_l53 (x1 : Int32) (x2 : Int32) (x3 : Int32) (x4 : Int32) (x5 : Int32) (v : Int64 × Int32 × mSG) (e : Int64 × mSG) (h : X9_chance_l53 x1 x2 x3 x4 x5 v = some e) : Fr W_X9_chance v.2.2 ((fun y : Int64 × mSG => y.2) e) :=
  FrS.iter (hy := fun y : Int64 × Int32 × mSG => y.2.2) (he := (fun y : Int64 × mSG => y.2)) (fun x o hx => FR_X9_chance_b53 x1 x2 x3 x4 x5 x.1 x.2.1 x.2.2 o hx) mFU v e h
theorem FR_X9_chance (x1 : Int32) (x2 : Int32) (x3 : Int32) (x4 : Int32) (x5 : Int32) (s : mSG) (o : Int64 × mSG) (h : X9_chance x1 x2 x3 x4 x5 s = some o) : Fr W_X9_chance s o.2 := by
  unfold X9_chance at h
  by_cases hc : X9_in x2.toInt64 1 20 = true
  · rw [if_pos hc] at h
    by_cases hc : X9_in x3.toInt64 0 30 = true
    · rw [if_pos hc] at h
      by_cases hc : X9_isStone x4 = true
      · rw [if_pos hc] at h
        by_cases hc : X9_in x5.toInt64 0 1 = true
        · rw [if_pos hc] at h
          obtain ⟨e53, hl, h⟩ := m_bind h
          have fl53 : Fr W_X9_chance s ((fun y : Int64 × mSG => y.2) e53) := Fr.tr Fr.rf (FR_X9_chance_l53 _ _ _ _ _ _ _ hl)
          obtain ⟨e97, hl, h⟩ := m_bind h
          by_cases hc : x5 = 0
          · rw [if_pos hc] at h
            obtain ⟨-, h⟩ := m_ite h
            obtain rfl := Option.some.inj h
            exact fl53
          · rw [if_neg hc] at h
            obtain ⟨-, h⟩ := m_ite h
            obtain rfl := Option.some.inj h
            exact fl53
        · rw [if_neg hc] at h
          obtain rfl := Option.some.inj h
          exact Fr.rf
      · rw [if_neg hc] at h
        obtain rfl := Option.some.inj h
        exact Fr.rf
    · rw [if_neg hc] at h
      obtain rfl := Option.some.inj h
      exact Fr.rf
  · rw [if_neg hc] at h
    obtain rfl := Option.some.inj h
    exact Fr.rf

def W_X9_image : List (Nat × Option Nat) := [(56, some 47), (56, some 48), (56, some 49), (76, none), (77, none), (78, none), (79, none)]
theorem FR_X9_image_b2 (x1 : Int32) (s : mSG) (o : (Int32 × mSG) ⊕ mSG) (h : X9_image_b2 x1 s = some o) : FrS W_X9_image (fun y : Int32 × mSG => y.2) ((fun y : mSG => y)) s o := by
  unfold X9_image_b2 at h
  by_cases hc : 64 ≤ x1
  · rw [if_pos hc] at h
    obtain rfl := Option.some.inj h
    exact ⟨fun y hy => (by cases hy), fun y hy => by obtain rfl := Sum.inr.inj hy; exact Fr.rf⟩
  · rw [if_neg hc] at h
    obtain ⟨-, h⟩ := m_ite h
    obtain rfl := Option.some.inj h
    exact ⟨fun y hy => by obtain rfl := Sum.inl.inj hy; exact (Fr.wI Fr.rf rfl), fun y hy => by cases hy⟩

theorem FR_X9_image_l2 (v : Int32 × mSG) (e : mSG) (h : X9_image_l2 v = some e) : Fr W_X9_image v.2 ((fun y : mSG => y) e) :=
  FrS.iter (hy := fun y : Int32 × mSG => y.2) (he := (fun y : mSG => y)) (fun x o hx => FR_X9_image_b2 x.1 x.2 o hx) mFU v e h
theorem FR_X9_image_b28 (x1 : Int32) (s : mSG) (o : (Int32 × mSG) ⊕ mSG) (h : X9_image_b28 x1 s = some o) : FrS W_X9_image (fun y : Int32 × mSG => y.2) ((fun y : mSG => y)) s o := by
  unfold X9_image_b28 at h
  by_cases hc : 25 ≤ x1
  · rw [if_pos hc] at h
    obtain rfl := Option.some.inj h
    exact ⟨fun y hy => (by cases hy), fun y hy => by obtain rfl := Sum.inr.inj hy; exact Fr.rf⟩
  · rw [if_neg hc] at h
    obtain ⟨-, h⟩ := m_ite h
    obtain rfl := Option.some.inj h
    exact ⟨fun y hy => by obtain rfl := Sum.inl.inj hy; exact (Fr.wI Fr.rf rfl), fun y hy => by cases hy⟩

theorem FR_X9_image_l28 (v : Int32 × mSG) (e : mSG) (h : X9_image_l28 v = some e) : Fr W_X9_image v.2 ((fun y : mSG => y) e) :=
  FrS.iter (hy := fun y : Int32 × mSG => y.2) (he := (fun y : mSG => y)) (fun x o hx => FR_X9_image_b28 x.1 x.2 o hx) mFU v e h
theorem FR_X9_image_b54 (x1 : Int32) (s : mSG) (o : (Int32 × mSG) ⊕ mSG) (h : X9_image_b54 x1 s = some o) : FrS W_X9_image (fun y : Int32 × mSG => y.2) ((fun y : mSG => y)) s o := by
  unfold X9_image_b54 at h
  by_cases hc : 24 ≤ x1
  · rw [if_pos hc] at h
    obtain rfl := Option.some.inj h
    exact ⟨fun y hy => (by cases hy), fun y hy => by obtain rfl := Sum.inr.inj hy; exact Fr.rf⟩
  · rw [if_neg hc] at h
    obtain ⟨-, h⟩ := m_ite h
    obtain rfl := Option.some.inj h
    exact ⟨fun y hy => by obtain rfl := Sum.inl.inj hy; exact (Fr.wI Fr.rf rfl), fun y hy => by cases hy⟩

theorem FR_X9_image_l54 (v : Int32 × mSG) (e : mSG) (h : X9_image_l54 v = some e) : Fr W_X9_image v.2 ((fun y : mSG => y) e) :=
  FrS.iter (hy := fun y : Int32 × mSG => y.2) (he := (fun y : mSG => y)) (fun x o hx => FR_X9_image_b54 x.1 x.2 o hx) mFU v e h
theorem FR_X9_image_b80 (x1 : Int32) (s : mSG) (o : (Int32 × mSG) ⊕ mSG) (h : X9_image_b80 x1 s = some o) : FrS W_X9_image (fun y : Int32 × mSG => y.2) ((fun y : mSG => y)) s o := by
  unfold X9_image_b80 at h
  by_cases hc : 5 ≤ x1
  · rw [if_pos hc] at h
    obtain rfl := Option.some.inj h
    exact ⟨fun y hy => (by cases hy), fun y hy => by obtain rfl := Sum.inr.inj hy; exact Fr.rf⟩
  · rw [if_neg hc] at h
    obtain ⟨-, h⟩ := m_ite h
    obtain ⟨-, h⟩ := m_ite h
    obtain ⟨-, h⟩ := m_ite h
    obtain ⟨-, h⟩ := m_ite h
    obtain ⟨-, h⟩ := m_ite h
    obtain ⟨-, h⟩ := m_ite h
    obtain rfl := Option.some.inj h
    exact ⟨fun y hy => by obtain rfl := Sum.inl.inj hy; exact (Fr.wI (Fr.wI (Fr.wI (Fr.wI (Fr.wI Fr.rf rfl) rfl) rfl) rfl) rfl), fun y hy => by cases hy⟩

theorem FR_X9_image_l80 (v : Int32 × mSG) (e : mSG) (h : X9_image_l80 v = some e) : Fr W_X9_image v.2 ((fun y : mSG => y) e) :=
  FrS.iter (hy := fun y : Int32 × mSG => y.2) (he := (fun y : mSG => y)) (fun x o hx => FR_X9_image_b80 x.1 x.2 o hx) mFU v e h
theorem FR_X9_image (s : mSG) (o : Int32 × mSG) (h : X9_image s = some o) : Fr W_X9_image s o.2 := by
  unfold X9_image at h
  obtain ⟨e2, hl, h⟩ := m_bind h
  have fl2 : Fr W_X9_image s ((fun y : mSG => y) e2) := Fr.tr Fr.rf (FR_X9_image_l2  _ _ hl)
  obtain ⟨e28, hl, h⟩ := m_bind h
  have fl28 : Fr W_X9_image s ((fun y : mSG => y) e28) := Fr.tr fl2 (FR_X9_image_l28  _ _ hl)
  obtain ⟨e54, hl, h⟩ := m_bind h
  have fl54 : Fr W_X9_image s ((fun y : mSG => y) e54) := Fr.tr fl28 (FR_X9_image_l54  _ _ hl)
  obtain ⟨e80, hl, h⟩ := m_bind h
  have fl80 : Fr W_X9_image s ((fun y : mSG => y) e80) := Fr.tr fl54 (FR_X9_image_l80  _ _ hl)
  obtain rfl := Option.some.inj h
  exact (Fr.wI (Fr.wI (Fr.wI fl80 rfl) rfl) rfl)

def W_X9_back : List (Nat × Option Nat) := [(56, some 4), (56, some 15), (56, some 16), (60, none), (62, none), (63, none), (64, none), (65, none), (66, none), (67, none), (68, none)]
theorem FR_X9_back_b13 (x1 : Int32) (s : mSG) (o : (Int32 × mSG) ⊕ mSG) (h : X9_back_b13 x1 s = some o) : FrS W_X9_back (fun y : Int32 × mSG => y.2) ((fun y : mSG => y)) s o := by
  unfold X9_back_b13 at h
  by_cases hc : 64 ≤ x1
  · rw [if_pos hc] at h
    obtain rfl := Option.some.inj h
    exact ⟨fun y hy => (by cases hy), fun y hy => by obtain rfl := Sum.inr.inj hy; exact Fr.rf⟩
  · rw [if_neg hc] at h
    obtain ⟨-, h⟩ := m_ite h
    obtain rfl := Option.some.inj h
    exact ⟨fun y hy => by obtain rfl := Sum.inl.inj hy; exact (Fr.wI Fr.rf rfl), fun y hy => by cases hy⟩

theorem FR_X9_back_l13 (v : Int32 × mSG) (e : mSG) (h : X9_back_l13 v = some e) : Fr W_X9_back v.2 ((fun y : mSG => y) e) :=
  FrS.iter (hy := fun y : Int32 × mSG => y.2) (he := (fun y : mSG => y)) (fun x o hx => FR_X9_back_b13 x.1 x.2 o hx) mFU v e h
theorem FR_X9_back_b39 (x1 : Int32) (s : mSG) (o : (Int32 × mSG) ⊕ mSG) (h : X9_back_b39 x1 s = some o) : FrS W_X9_back (fun y : Int32 × mSG => y.2) ((fun y : mSG => y)) s o := by
  unfold X9_back_b39 at h
  by_cases hc : 25 ≤ x1
  · rw [if_pos hc] at h
    obtain rfl := Option.some.inj h
    exact ⟨fun y hy => (by cases hy), fun y hy => by obtain rfl := Sum.inr.inj hy; exact Fr.rf⟩
  · rw [if_neg hc] at h
    obtain ⟨-, h⟩ := m_ite h
    obtain rfl := Option.some.inj h
    exact ⟨fun y hy => by obtain rfl := Sum.inl.inj hy; exact (Fr.wI Fr.rf rfl), fun y hy => by cases hy⟩

theorem FR_X9_back_l39 (v : Int32 × mSG) (e : mSG) (h : X9_back_l39 v = some e) : Fr W_X9_back v.2 ((fun y : mSG => y) e) :=
  FrS.iter (hy := fun y : Int32 × mSG => y.2) (he := (fun y : mSG => y)) (fun x o hx => FR_X9_back_b39 x.1 x.2 o hx) mFU v e h
theorem FR_X9_back_b65 (x1 : Int32) (s : mSG) (o : (Int32 × mSG) ⊕ mSG) (h : X9_back_b65 x1 s = some o) : FrS W_X9_back (fun y : Int32 × mSG => y.2) ((fun y : mSG => y)) s o := by
  unfold X9_back_b65 at h
  by_cases hc : 24 ≤ x1
  · rw [if_pos hc] at h
    obtain rfl := Option.some.inj h
    exact ⟨fun y hy => (by cases hy), fun y hy => by obtain rfl := Sum.inr.inj hy; exact Fr.rf⟩
  · rw [if_neg hc] at h
    obtain ⟨-, h⟩ := m_ite h
    obtain rfl := Option.some.inj h
    exact ⟨fun y hy => by obtain rfl := Sum.inl.inj hy; exact (Fr.wI Fr.rf rfl), fun y hy => by cases hy⟩

theorem FR_X9_back_l65 (v : Int32 × mSG) (e : mSG) (h : X9_back_l65 v = some e) : Fr W_X9_back v.2 ((fun y : mSG => y) e) :=
  FrS.iter (hy := fun y : Int32 × mSG => y.2) (he := (fun y : mSG => y)) (fun x o hx => FR_X9_back_b65 x.1 x.2 o hx) mFU v e h
theorem FR_X9_back_b91 (x1 : Int32) (s : mSG) (o : (Int32 × mSG) ⊕ mSG) (h : X9_back_b91 x1 s = some o) : FrS W_X9_back (fun y : Int32 × mSG => y.2) ((fun y : mSG => y)) s o := by
  unfold X9_back_b91 at h
  by_cases hc : 5 ≤ x1
  · rw [if_pos hc] at h
    obtain rfl := Option.some.inj h
    exact ⟨fun y hy => (by cases hy), fun y hy => by obtain rfl := Sum.inr.inj hy; exact Fr.rf⟩
  · rw [if_neg hc] at h
    obtain ⟨-, h⟩ := m_ite h
    obtain ⟨-, h⟩ := m_ite h
    obtain ⟨-, h⟩ := m_ite h
    obtain ⟨-, h⟩ := m_ite h
    obtain ⟨-, h⟩ := m_ite h
    obtain ⟨-, h⟩ := m_ite h
    obtain rfl := Option.some.inj h
    exact ⟨fun y hy => by obtain rfl := Sum.inl.inj hy; exact (Fr.wI (Fr.wI (Fr.wI (Fr.wI (Fr.wI Fr.rf rfl) rfl) rfl) rfl) rfl), fun y hy => by cases hy⟩

theorem FR_X9_back_l91 (v : Int32 × mSG) (e : mSG) (h : X9_back_l91 v = some e) : Fr W_X9_back v.2 ((fun y : mSG => y) e) :=
  FrS.iter (hy := fun y : Int32 × mSG => y.2) (he := (fun y : mSG => y)) (fun x o hx => FR_X9_back_b91 x.1 x.2 o hx) mFU v e h
theorem FR_X9_back (s : mSG) (o : Int32 × mSG) (h : X9_back s = some o) : Fr W_X9_back s o.2 := by
  unfold X9_back at h
  by_cases hc : (s.1 56 47) = (-1)
  · rw [if_pos hc] at h
    obtain rfl := Option.some.inj h
    exact Fr.rf
  · rw [if_neg hc] at h
    obtain ⟨e13, hl, h⟩ := m_bind h
    have fl13 : Fr W_X9_back s ((fun y : mSG => y) e13) := Fr.tr Fr.rf (FR_X9_back_l13  _ _ hl)
    obtain ⟨e39, hl, h⟩ := m_bind h
    have fl39 : Fr W_X9_back s ((fun y : mSG => y) e39) := Fr.tr fl13 (FR_X9_back_l39  _ _ hl)
    obtain ⟨e65, hl, h⟩ := m_bind h
    have fl65 : Fr W_X9_back s ((fun y : mSG => y) e65) := Fr.tr fl39 (FR_X9_back_l65  _ _ hl)
    obtain ⟨e91, hl, h⟩ := m_bind h
    have fl91 : Fr W_X9_back s ((fun y : mSG => y) e91) := Fr.tr fl65 (FR_X9_back_l91  _ _ hl)
    obtain rfl := Option.some.inj h
    exact (Fr.wI (Fr.wI (Fr.wI fl91 rfl) rfl) rfl)

def W_X9_sheet : List (Nat × Option Nat) := [(80, none), (81, none), (82, none), (83, none)]
theorem FR_X9_sheet_b77 (x1 : Int32) (x2 : Int32) (x3 : Int32) (x4 : Int32) (s : mSG) (o : (Int32 × mSG) ⊕ mSG) (h : X9_sheet_b77 x1 x2 x3 x4 s = some o) : FrS W_X9_sheet (fun y : Int32 × mSG => y.2) ((fun y : mSG => y)) s o := by
  unfold X9_sheet_b77 at h
  by_cases hc : x3 ≤ x4
  · rw [if_pos hc] at h
    obtain rfl := Option.some.inj h
    exact ⟨fun y hy => (by cases hy), fun y hy => by obtain rfl := Sum.inr.inj hy; exact Fr.rf⟩
  · rw [if_neg hc] at h
    by_cases hc : x2 < 0
    · rw [if_pos hc] at h
      obtain rfl := Option.some.inj h
      exact ⟨fun y hy => (by cases hy), fun y hy => by obtain rfl := Sum.inr.inj hy; exact Fr.rf⟩
    · rw [if_neg hc] at h
      obtain ⟨-, h⟩ := m_ite h
      obtain rfl := Option.some.inj h
      exact ⟨fun y hy => by obtain rfl := Sum.inl.inj hy; exact (Fr.wI Fr.rf rfl), fun y hy => by cases hy⟩

theorem FR_X9_sheet_l77 (x1 : Int32) (x2 : Int32) (x3 : Int32) (v : Int32 × mSG) (e : mSG) (h : X9_sheet_l77 x1 x2 x3 v = some e) : Fr W_X9_sheet v.2 ((fun y : mSG => y) e) :=
  FrS.iter (hy := fun y : Int32 × mSG => y.2) (he := (fun y : mSG => y)) (fun x o hx => FR_X9_sheet_b77 x1 x2 x3 x.1 x.2 o hx) mFU v e h
theorem FR_X9_sheet_j59 (x1 : Int32) (x2 : Int32) (x3 : Int32) (p1 : Int32) (p2 : Int32) (s : mSG) (o : Int32 × mSG) (h : X9_sheet_j59 x1 x2 x3 p1 p2 s = some o) : Fr W_X9_sheet s o.2 := by
  unfold X9_sheet_j59 at h
  obtain ⟨-, h⟩ := m_ite h
  obtain ⟨-, h⟩ := m_ite h
  obtain ⟨e77, hl, h⟩ := m_bind h
  have fl77 : Fr W_X9_sheet s ((fun y : mSG => y) e77) := Fr.tr (Fr.wI (Fr.wI (Fr.wI Fr.rf rfl) rfl) rfl) (FR_X9_sheet_l77 _ _ _ _ _ hl)
  obtain rfl := Option.some.inj h
  exact fl77

theorem FR_X9_sheet_j45 (x1 : Int32) (x2 : Int32) (x3 : Int32) (s : mSG) (o : Int32 × mSG) (h : X9_sheet_j45 x1 x2 x3 s = some o) : Fr W_X9_sheet s o.2 := by
  unfold X9_sheet_j45 at h
  by_cases hc : x2 < 0
  · rw [if_pos hc] at h
    exact Fr.tr Fr.rf (FR_X9_sheet_j59 _ _ _ _ _ _ _ h)
  · rw [if_neg hc] at h
    exact Fr.tr Fr.rf (FR_X9_sheet_j59 _ _ _ _ _ _ _ h)

theorem FR_X9_sheet_j34 (x1 : Int32) (x2 : Int32) (x3 : Int32) (s : mSG) (o : Int32 × mSG) (h : X9_sheet_j34 x1 x2 x3 s = some o) : Fr W_X9_sheet s o.2 := by
  unfold X9_sheet_j34 at h
  by_cases hc : x2 < 0
  · rw [if_pos hc] at h
    exact Fr.tr Fr.rf (FR_X9_sheet_j45 _ _ _ _ _ h)
  · rw [if_neg hc] at h
    by_cases hc : 0 ≤ x3
    · rw [if_pos hc] at h
      exact Fr.tr Fr.rf (FR_X9_sheet_j45 _ _ _ _ _ h)
    · rw [if_neg hc] at h
      obtain rfl := Option.some.inj h
      exact Fr.rf

theorem FR_X9_sheet (x1 : Int32) (x2 : Int32) (x3 : Int32) (s : mSG) (o : Int32 × mSG) (h : X9_sheet x1 x2 x3 s = some o) : Fr W_X9_sheet s o.2 := by
  unfold X9_sheet at h
  by_cases hc : X9_isSheet x1 = true
  · rw [if_pos hc] at h
    by_cases hc : X9_in x2.toInt64 (-1) 2 = true
    · rw [if_pos hc] at h
      by_cases hc : x2 < 0
      · rw [if_pos hc] at h
        exact Fr.tr Fr.rf (FR_X9_sheet_j34 _ _ _ _ _ h)
      · rw [if_neg hc] at h
        by_cases hc : x3 ≤ 40
        · rw [if_pos hc] at h
          exact Fr.tr Fr.rf (FR_X9_sheet_j34 _ _ _ _ _ h)
        · rw [if_neg hc] at h
          obtain rfl := Option.some.inj h
          exact Fr.rf
    · rw [if_neg hc] at h
      obtain rfl := Option.some.inj h
      exact Fr.rf
  · rw [if_neg hc] at h
    obtain rfl := Option.some.inj h
    exact Fr.rf

def W_X9_cell : List (Nat × Option Nat) := [(83, none)]
theorem FR_X9_cell (x1 : Int32) (x2 : Int32) (x3 : Int32) (s : mSG) (o : Int32 × mSG) (h : X9_cell x1 x2 x3 s = some o) : Fr W_X9_cell s o.2 := by
  unfold X9_cell at h
  by_cases hc : X9_isSheet x1 = true
  · rw [if_pos hc] at h
    obtain ⟨-, h⟩ := m_ite h
    by_cases hc : (s.1 80 x1.toNatClampNeg) = 0
    · rw [if_pos hc] at h
      obtain rfl := Option.some.inj h
      exact Fr.rf
    · rw [if_neg hc] at h
      by_cases hc : X9_in x2.toInt64 0 (((s.1 82 x1.toNatClampNeg) - 1).toInt64) = true
      · rw [if_pos hc] at h
        by_cases hc : (s.1 81 x1.toNatClampNeg) = 0
        · rw [if_pos hc] at h
          obtain ⟨-, h⟩ := m_ite h
          obtain rfl := Option.some.inj h
          exact (Fr.wI Fr.rf rfl)
        · rw [if_neg hc] at h
          by_cases hc : (s.1 81 x1.toNatClampNeg) = 1
          · rw [if_pos hc] at h
            obtain ⟨-, h⟩ := m_ite h
            obtain rfl := Option.some.inj h
            exact (Fr.wI Fr.rf rfl)
          · rw [if_neg hc] at h
            obtain ⟨-, h⟩ := m_ite h
            obtain rfl := Option.some.inj h
            exact (Fr.wI Fr.rf rfl)
      · rw [if_neg hc] at h
        obtain rfl := Option.some.inj h
        exact Fr.rf
  · rw [if_neg hc] at h
    obtain rfl := Option.some.inj h
    exact Fr.rf

def W_X9_copy : List (Nat × Option Nat) := [(83, none)]
theorem FR_X9_copy_j145_121 (x1 : Int32) (x2 : Int32) (x3 : Int32) (x4 : Int32) (x5 : Int32) (x6 : Int32) (x7 : Int32) (p0 : Int32) (s : mSG) (o : (Int32 × mSG) ⊕ mSG) (h : X9_copy_j145_121 x1 x2 x3 x4 x5 x6 x7 p0 s = some o) : FrS W_X9_copy (fun y : Int32 × mSG => y.2) ((fun y : mSG => y)) s o := by
  unfold X9_copy_j145_121 at h
  obtain ⟨-, h⟩ := m_ite h
  obtain ⟨-, h⟩ := m_ite h
  obtain rfl := Option.some.inj h
  exact ⟨fun y hy => by obtain rfl := Sum.inl.inj hy; exact (Fr.wI Fr.rf rfl), fun y hy => by cases hy⟩

theorem FR_X9_copy_b121 (x1 : Int32) (x2 : Int32) (x3 : Int32) (x4 : Int32) (x5 : Int32) (x6 : Int32) (x7 : Int32) (s : mSG) (o : (Int32 × mSG) ⊕ mSG) (h : X9_copy_b121 x1 x2 x3 x4 x5 x6 x7 s = some o) : FrS W_X9_copy (fun y : Int32 × mSG => y.2) ((fun y : mSG => y)) s o := by
  unfold X9_copy_b121 at h
  by_cases hc : x5 ≤ x7
  · rw [if_pos hc] at h
    obtain rfl := Option.some.inj h
    exact ⟨fun y hy => (by cases hy), fun y hy => by obtain rfl := Sum.inr.inj hy; exact Fr.rf⟩
  · rw [if_neg hc] at h
    by_cases hc : x6 = 0
    · rw [if_pos hc] at h
      exact FrS.tr Fr.rf (FR_X9_copy_j145_121 _ _ _ _ _ _ _ _ _ _ h)
    · rw [if_neg hc] at h
      exact FrS.tr Fr.rf (FR_X9_copy_j145_121 _ _ _ _ _ _ _ _ _ _ h)

theorem FR_X9_copy_l121 (x1 : Int32) (x2 : Int32) (x3 : Int32) (x4 : Int32) (x5 : Int32) (x6 : Int32) (v : Int32 × mSG) (e : mSG) (h : X9_copy_l121 x1 x2 x3 x4 x5 x6 v = some e) : Fr W_X9_copy v.2 ((fun y : mSG => y) e) :=
  FrS.iter (hy := fun y : Int32 × mSG => y.2) (he := (fun y : mSG => y)) (fun x o hx => FR_X9_copy_b121 x1 x2 x3 x4 x5 x6 x.1 x.2 o hx) mFU v e h
theorem FR_X9_copy_j116 (x1 : Int32) (x2 : Int32) (x3 : Int32) (x4 : Int32) (x5 : Int32) (p0 : Int32) (s : mSG) (o : Int32 × mSG) (h : X9_copy_j116 x1 x2 x3 x4 x5 p0 s = some o) : Fr W_X9_copy s o.2 := by
  unfold X9_copy_j116 at h
  obtain ⟨e121, hl, h⟩ := m_bind h
  have fl121 : Fr W_X9_copy s ((fun y : mSG => y) e121) := Fr.tr Fr.rf (FR_X9_copy_l121 _ _ _ _ _ _ _ _ hl)
  obtain rfl := Option.some.inj h
  exact fl121

theorem FR_X9_copy_j115 (x1 : Int32) (x2 : Int32) (x3 : Int32) (x4 : Int32) (x5 : Int32) (s : mSG) (o : Int32 × mSG) (h : X9_copy_j115 x1 x2 x3 x4 x5 s = some o) : Fr W_X9_copy s o.2 := by
  unfold X9_copy_j115 at h
  exact Fr.tr Fr.rf (FR_X9_copy_j116 _ _ _ _ _ _ _ _ h)

theorem FR_X9_copy (x1 : Int32) (x2 : Int32) (x3 : Int32) (x4 : Int32) (x5 : Int32) (s : mSG) (o : Int32 × mSG) (h : X9_copy x1 x2 x3 x4 x5 s = some o) : Fr W_X9_copy s o.2 := by
  unfold X9_copy at h
  by_cases hc : X9_isSheet x1 = true
  · rw [if_pos hc] at h
    by_cases hc : X9_isSheet x3 = true
    · rw [if_pos hc] at h
      obtain ⟨-, h⟩ := m_ite h
      by_cases hc : (s.1 80 x1.toNatClampNeg) = 0
      · rw [if_pos hc] at h
        obtain rfl := Option.some.inj h
        exact Fr.rf
      · rw [if_neg hc] at h
        obtain ⟨-, h⟩ := m_ite h
        by_cases hc : (s.1 80 x3.toNatClampNeg) = 0
        · rw [if_pos hc] at h
          obtain rfl := Option.some.inj h
          exact Fr.rf
        · rw [if_neg hc] at h
          by_cases hc : (s.1 81 x1.toNatClampNeg) = (s.1 81 x3.toNatClampNeg)
          · rw [if_pos hc] at h
            by_cases hc : x5 < 0
            · rw [if_pos hc] at h
              obtain rfl := Option.some.inj h
              exact Fr.rf
            · rw [if_neg hc] at h
              by_cases hc : x2 < 0
              · rw [if_pos hc] at h
                obtain rfl := Option.some.inj h
                exact Fr.rf
              · rw [if_neg hc] at h
                by_cases hc : x4 < 0
                · rw [if_pos hc] at h
                  obtain rfl := Option.some.inj h
                  exact Fr.rf
                · rw [if_neg hc] at h
                  by_cases hc : ((s.1 82 x1.toNatClampNeg) - x5) < x2
                  · rw [if_pos hc] at h
                    obtain rfl := Option.some.inj h
                    exact Fr.rf
                  · rw [if_neg hc] at h
                    by_cases hc : x4 ≤ ((s.1 82 x3.toNatClampNeg) - x5)
                    · rw [if_pos hc] at h
                      by_cases hc : x1 = x3
                      · rw [if_pos hc] at h
                        by_cases hc : x4 ≤ x2
                        · rw [if_pos hc] at h
                          exact Fr.tr Fr.rf (FR_X9_copy_j115 _ _ _ _ _ _ _ h)
                        · rw [if_neg hc] at h
                          exact Fr.tr Fr.rf (FR_X9_copy_j116 _ _ _ _ _ _ _ _ h)
                      · rw [if_neg hc] at h
                        exact Fr.tr Fr.rf (FR_X9_copy_j115 _ _ _ _ _ _ _ h)
                    · rw [if_neg hc] at h
                      obtain rfl := Option.some.inj h
                      exact Fr.rf
          · rw [if_neg hc] at h
            obtain rfl := Option.some.inj h
            exact Fr.rf
    · rw [if_neg hc] at h
      obtain rfl := Option.some.inj h
      exact Fr.rf
  · rw [if_neg hc] at h
    obtain rfl := Option.some.inj h
    exact Fr.rf

def W_X9_muds : List (Nat × Option Nat) := [(60, none)]
theorem FR_X9_muds_j158_75 (x1 : Int32) (x3 : Int32) (x4 : Int32) (x6 : Int32) (p0 : Int32) (p1 : Int32) (s : mSG) (o : (Int32 × Int32 × mSG) ⊕ (mSG ⊕ Int32 × mSG)) (h : X9_muds_j158_75 x1 x3 x4 x6 p0 p1 s = some o) : FrS W_X9_muds (fun y : Int32 × Int32 × mSG => y.2.2) ((Sum.elim (fun y : mSG => y) (fun y : Int32 × mSG => y.2))) s o := by
  unfold X9_muds_j158_75 at h
  obtain rfl := Option.some.inj h
  exact ⟨fun y hy => by obtain rfl := Sum.inl.inj hy; exact Fr.rf, fun y hy => by cases hy⟩

theorem FR_X9_muds_b75 (x1 : Int32) (x3 : Int32) (x4 : Int32) (x5 : Int32) (x6 : Int32) (s : mSG) (o : (Int32 × Int32 × mSG) ⊕ (mSG ⊕ Int32 × mSG)) (h : X9_muds_b75 x1 x3 x4 x5 x6 s = some o) : FrS W_X9_muds (fun y : Int32 × Int32 × mSG => y.2.2) ((Sum.elim (fun y : mSG => y) (fun y : Int32 × mSG => y.2))) s o := by
  unfold X9_muds_b75 at h
  by_cases hc : x4 ≤ x6
  · rw [if_pos hc] at h
    obtain rfl := Option.some.inj h
    exact ⟨fun y hy => (by cases hy), fun y hy => by obtain rfl := Sum.inr.inj hy; exact Fr.rf⟩
  · rw [if_neg hc] at h
    by_cases hc : x3 < 0
    · rw [if_pos hc] at h
      obtain rfl := Option.some.inj h
      exact ⟨fun y hy => (by cases hy), fun y hy => by obtain rfl := Sum.inr.inj hy; exact Fr.rf⟩
    · rw [if_neg hc] at h
      obtain ⟨-, h⟩ := m_ite h
      by_cases hc : x3 ≤ (((s.1 82 x1.toNatClampNeg) - (3 * x6)) - 3)
      · rw [if_pos hc] at h
        obtain ⟨-, h⟩ := m_ite h
        obtain ⟨-, h⟩ := m_ite h
        obtain ⟨-, h⟩ := m_ite h
        obtain ⟨r13, hr, h⟩ := m_bind h
        have fr13 : Fr W_X9_muds s r13.2 := Fr.tr Fr.rf (Fr.mono (FR_X9_mud _ _ _ _ _ hr) rfl)
        by_cases hc : r13.1 < 0
        · rw [if_pos hc] at h
          exact FrS.tr fr13 (FR_X9_muds_j158_75 _ _ _ _ _ _ _ _ h)
        · rw [if_neg hc] at h
          exact FrS.tr fr13 (FR_X9_muds_j158_75 _ _ _ _ _ _ _ _ h)
      · rw [if_neg hc] at h
        obtain rfl := Option.some.inj h
        exact ⟨fun y hy => (by cases hy), fun y hy => by obtain rfl := Sum.inr.inj hy; exact Fr.rf⟩

theorem FR_X9_muds_l75 (x1 : Int32) (x3 : Int32) (x4 : Int32) (v : Int32 × Int32 × mSG) (e : (mSG ⊕ Int32 × mSG)) (h : X9_muds_l75 x1 x3 x4 v = some e) : Fr W_X9_muds v.2.2 ((Sum.elim (fun y : mSG => y) (fun y : Int32 × mSG => y.2)) e) :=
  FrS.iter (hy := fun y : Int32 × Int32 × mSG => y.2.2) (he := (Sum.elim (fun y : mSG => y) (fun y : Int32 × mSG => y.2))) (fun x o hx => FR_X9_muds_b75 x1 x3 x4 x.1 x.2.1 x.2.2 o hx) mFU v e h
theorem FR_X9_muds_j57 (x1 : Int32) (x3 : Int32) (x4 : Int32) (s : mSG) (o : Int32 × mSG) (h : X9_muds_j57 x1 x3 x4 s = some o) : Fr W_X9_muds s o.2 := by
  unfold X9_muds_j57 at h
  obtain ⟨-, h⟩ := m_ite h
  by_cases hc : (s.1 80 x1.toNatClampNeg) = 0
  · rw [if_pos hc] at h
    obtain rfl := Option.some.inj h
    exact Fr.rf
  · rw [if_neg hc] at h
    obtain ⟨e75, hl, h⟩ := m_bind h
    have fl75 : Fr W_X9_muds s ((Sum.elim (fun y : mSG => y) (fun y : Int32 × mSG => y.2)) e75) := Fr.tr Fr.rf (FR_X9_muds_l75 _ _ _ _ _ hl)
    cases e75 with
    | inl e75_0 =>
      simp only [Sum.elim_inl] at h
      obtain rfl := Option.some.inj h
      exact fl75
    | inr e75_1 =>
      simp only [Sum.elim_inr] at h
      obtain rfl := Option.some.inj h
      exact fl75

theorem FR_X9_muds (x1 : Int32) (x2 : Int32) (x3 : Int32) (x4 : Int32) (s : mSG) (o : Int32 × mSG) (h : X9_muds x1 x2 x3 x4 s = some o) : Fr W_X9_muds s o.2 := by
  unfold X9_muds at h
  by_cases hc : X9_isSheet x1 = true
  · rw [if_pos hc] at h
    by_cases hc : X9_in x2.toInt64 0 2 = true
    · rw [if_pos hc] at h
      by_cases hc : X9_in x4.toInt64 0 13 = true
      · rw [if_pos hc] at h
        obtain ⟨-, h⟩ := m_ite h
        by_cases hc : (s.1 80 x1.toNatClampNeg) = 0
        · rw [if_pos hc] at h
          exact Fr.tr Fr.rf (FR_X9_muds_j57 _ _ _ _ _ h)
        · rw [if_neg hc] at h
          by_cases hc : (s.1 81 x1.toNatClampNeg) = x2
          · rw [if_pos hc] at h
            exact Fr.tr Fr.rf (FR_X9_muds_j57 _ _ _ _ _ h)
          · rw [if_neg hc] at h
            obtain rfl := Option.some.inj h
            exact Fr.rf
      · rw [if_neg hc] at h
        obtain rfl := Option.some.inj h
        exact Fr.rf
    · rw [if_neg hc] at h
      obtain rfl := Option.some.inj h
      exact Fr.rf
  · rw [if_neg hc] at h
    obtain rfl := Option.some.inj h
    exact Fr.rf

