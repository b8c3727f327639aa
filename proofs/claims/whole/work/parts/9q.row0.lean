/-! THE SCRIPT STAYS -/
theorem it_keep {σ ε : Type} {b : σ → Option (σ ⊕ ε)} {P : σ → Prop} {Q : ε → Prop} (hl : ∀ x y, P x → b x = some (.inl y) → P y) (hr : ∀ x e, P x → b x = some (.inr e) → Q e) : ∀ n x e, P x → iter b n x = some e → Q e := by
  intro n
  induction n with
  | zero => intro x e _ h; cases h
  | succ n ih =>
    intro x e hp h
    unfold iter at h
    cases hb : b x with
    | none => rw [hb] at h; cases h
    | some o =>
      rw [hb] at h
      cases o with
      | inl y => exact ih y e (hl x y hp hb) h
      | inr e' =>
        cases h
        exact hr x e hp hb
theorem k0_ne {t : mTX} {a c : Nat} (h : (mKl (LAY t) a).1 = c) (hc : c ≠ 30) : 0 ≠ a := fun g => by
  subst g
  exact hc h.symm
theorem z0_fill {t : mTX} {a : Nat} {v : Int32} {s s' : mSG} (h : J7_fill t a v s = some s') : s'.1 0 = s.1 0 := by
  unfold J7_fill at h
  obtain ⟨k1, h⟩ := m_ite h
  obtain ⟨e, h1, h⟩ := m_bind h
  obtain rfl := Option.some.inj h
  unfold J7_fill_l5 at h1
  refine it_keep (P := fun x : Int32 × mSG => x.2.1 0 = s.1 0) (Q := fun e : mSG => e.1 0 = s.1 0) (fun x y hp hb => ?_) (fun x e hp hb => ?_) _ _ _ rfl h1
  · have hb : J7_fill_b5 t a v (Int32.ofNat (mKl (LAY t) a).2) x.1 x.2 = some (.inl y) := hb
    unfold J7_fill_b5 at hb
    by_cases c : Int32.ofNat (mKl (LAY t) a).2 ≤ x.1
    · rw [if_pos c] at hb; cases hb
    · rw [if_neg c] at hb
      obtain ⟨_, hb⟩ := m_ite hb
      have hb := Option.some.inj hb
      injection hb with hb
      subst hb
      show (sI x.2 a _ v).1 0 = _
      rw [← hp]
      funext j
      rw [sI_adr (k0_ne k1 (by decide))]
  · have hb : J7_fill_b5 t a v (Int32.ofNat (mKl (LAY t) a).2) x.1 x.2 = some (.inr e) := hb
    unfold J7_fill_b5 at hb
    by_cases c : Int32.ofNat (mKl (LAY t) a).2 ≤ x.1
    · rw [if_pos c] at hb
      have hb := Option.some.inj hb
      injection hb with hb
      subst hb
      exact hp
    · rw [if_neg c] at hb
      obtain ⟨_, hb⟩ := m_ite hb
      cases hb
theorem z0_become {t : mTX} {a : Nat} {x1 x2 : Int32} {s s' : mSG} (h : X4_become t a x1 x2 s = some s') : s'.1 0 = s.1 0 := by
  unfold X4_become at h
  obtain ⟨k1, h⟩ := m_ite h
  obtain ⟨_, h⟩ := m_ite h
  obtain ⟨_, h⟩ := m_ite h
  obtain ⟨b, hb, h⟩ := m_bind h
  obtain ⟨r2, h2, h⟩ := m_bind h
  obtain rfl := Option.some.inj h
  rw [z0_fill h2]
  funext j
  rw [sI_adr (k0_ne k1 (by decide)), sI_adr (k0_ne k1 (by decide))]
theorem z0_sI {t : mTX} {a k : Nat} {v : Int32} {s : mSG} (h : (mKl (LAY t) a).1 = 20) : (sI s a k v).1 0 = s.1 0 := by
  funext j
  rw [sI_adr (k0_ne h (by decide))]
theorem z0_put {t : mTX} {a : Nat} {x1 x2 : Int32} {s s' : mSG} (h : X4_put t a x1 x2 s = some s') : s'.1 0 = s.1 0 := by
  unfold X4_put at h
  obtain ⟨k1, h⟩ := m_ite h
  by_cases c : X8_isWithin x1 ((s.1 a 2) - 1) = true
  · rw [if_pos c] at h
    obtain ⟨_, h⟩ := m_ite h
    obtain ⟨b, hb, h⟩ := m_bind h
    obtain ⟨_, h⟩ := m_ite h
    by_cases c1 : (s.1 a 1) = 0
    · rw [if_pos c1] at h
      obtain ⟨k2, h⟩ := m_ite h
      obtain rfl := Option.some.inj h
      exact z0_sI k2.1
    · rw [if_neg c1] at h
      obtain ⟨_, h⟩ := m_ite h
      by_cases c2 : (s.1 a 1) = 1
      · rw [if_pos c2] at h
        obtain ⟨k2, h⟩ := m_ite h
        obtain rfl := Option.some.inj h
        exact z0_sI k2.1
      · rw [if_neg c2] at h
        obtain ⟨k2, h⟩ := m_ite h
        obtain rfl := Option.some.inj h
        exact z0_sI k2.1
  · rw [if_neg c] at h
    obtain rfl := Option.some.inj h
    rfl
theorem z0_sheet {t : mTX} {x1 x2 x3 : Int32} {s : mSG} {o : Int32 × mSG} (h : X8_sheet t x1 x2 x3 s = some o) : o.2.1 0 = s.1 0 := by
  unfold X8_sheet at h
  by_cases c1 : X8_isWithin x1 3 = true
  · rw [if_pos c1] at h
    by_cases c2 : x2 < (-1)
    · rw [if_pos c2] at h
      obtain rfl := Option.some.inj h
      rfl
    · rw [if_neg c2] at h
      by_cases c3 : x2 < 3
      · rw [if_pos c3] at h
        by_cases c4 : x2 = (-1)
        · rw [if_pos c4] at h
          obtain ⟨_, h⟩ := m_ite h
          obtain ⟨a, _, h⟩ := m_bind h
          obtain ⟨_, h⟩ := m_ite h
          obtain ⟨r, hr, h⟩ := m_bind h
          obtain rfl := Option.some.inj h
          exact z0_become hr
        · rw [if_neg c4] at h
          by_cases c5 : x3 ≤ 40
          · rw [if_pos c5] at h
            by_cases c6 : 0 ≤ x3
            · rw [if_pos c6] at h
              obtain ⟨_, h⟩ := m_ite h
              obtain ⟨a, _, h⟩ := m_bind h
              obtain ⟨_, h⟩ := m_ite h
              obtain ⟨r, hr, h⟩ := m_bind h
              obtain rfl := Option.some.inj h
              exact z0_become hr
            · rw [if_neg c6] at h
              obtain rfl := Option.some.inj h
              rfl
          · rw [if_neg c5] at h
            obtain rfl := Option.some.inj h
            rfl
      · rw [if_neg c3] at h
        obtain rfl := Option.some.inj h
        rfl
  · rw [if_neg c1] at h
    obtain rfl := Option.some.inj h
    rfl
theorem z0_cell {t : mTX} {x1 x2 x3 : Int32} {s : mSG} {o : Int32 × mSG} (h : X8_cell t x1 x2 x3 s = some o) : o.2.1 0 = s.1 0 := by
  unfold X8_cell at h
  by_cases c1 : X8_isWithin x1 3 = true
  · rw [if_pos c1] at h
    obtain ⟨_, h⟩ := m_ite h
    obtain ⟨a, _, h⟩ := m_bind h
    obtain ⟨_, h⟩ := m_ite h
    obtain ⟨r, _, h⟩ := m_bind h
    by_cases c2 : r = true
    · rw [if_pos c2] at h
      obtain rfl := Option.some.inj h
      rfl
    · rw [if_neg c2] at h
      obtain ⟨_, h⟩ := m_ite h
      by_cases c3 : X8_isWithin x2 ((s.1 a 2) - 1) = true
      · rw [if_pos c3] at h
        obtain ⟨_, h⟩ := m_ite h
        obtain ⟨r3, hr, h⟩ := m_bind h
        obtain rfl := Option.some.inj h
        exact z0_put hr
      · rw [if_neg c3] at h
        obtain rfl := Option.some.inj h
        rfl
  · rw [if_neg c1] at h
    obtain rfl := Option.some.inj h
    rfl
theorem z0_copy {t : mTX} {x1 x2 x3 x4 x5 : Int32} {s : mSG} {o : Int32 × mSG} (h : X8_copy t x1 x2 x3 x4 x5 s = some o) : o.2.1 0 = s.1 0 := by
  unfold X8_copy at h
  by_cases c1 : X8_isWithin x1 3 = true
  · rw [if_pos c1] at h
    by_cases c2 : X8_isWithin x3 3 = true
    · rw [if_pos c2] at h
      obtain ⟨_, h⟩ := m_ite h
      obtain ⟨a, _, h⟩ := m_bind h
      obtain ⟨_, h⟩ := m_ite h
      obtain ⟨b, _, h⟩ := m_bind h
      obtain ⟨_, h⟩ := m_ite h
      obtain ⟨r3, _, h⟩ := m_bind h
      by_cases c3 : r3 = true
      · rw [if_pos c3] at h
        obtain rfl := Option.some.inj h
        rfl
      · rw [if_neg c3] at h
        obtain ⟨_, h⟩ := m_ite h
        obtain ⟨r4, _, h⟩ := m_bind h
        by_cases c4 : r4 = true
        · rw [if_pos c4] at h
          obtain rfl := Option.some.inj h
          rfl
        · rw [if_neg c4] at h
          obtain ⟨_, h⟩ := m_ite h
          obtain ⟨_, h⟩ := m_ite h
          by_cases c5 : (s.1 a 1) = (s.1 b 1)
          · rw [if_pos c5] at h
            obtain ⟨_, h⟩ := m_ite h
            obtain ⟨r6, _, h⟩ := m_bind h
            by_cases c6 : r6 = true
            · rw [if_pos c6] at h
              obtain ⟨_, h⟩ := m_ite h
              obtain ⟨r7, _, h⟩ := m_bind h
              by_cases c7 : r7 = true
              · rw [if_pos c7] at h
                obtain ⟨_, h⟩ := m_ite h
                obtain ⟨a8, _, h⟩ := m_bind h
                obtain ⟨_, h⟩ := m_ite h
                obtain ⟨a9, _, h⟩ := m_bind h
                obtain ⟨k9, h⟩ := m_ite h
                obtain rfl := Option.some.inj h
                show mUr s.1 a9 _ 0 = s.1 0
                rw [mUr_off (k0_ne k9.1.2 (by decide))]
              · rw [if_neg c7] at h
                obtain rfl := Option.some.inj h
                rfl
            · rw [if_neg c6] at h
              obtain rfl := Option.some.inj h
              rfl
          · rw [if_neg c5] at h
            obtain rfl := Option.some.inj h
            rfl
    · rw [if_neg c2] at h
      obtain rfl := Option.some.inj h
      rfl
  · rw [if_neg c1] at h
    obtain rfl := Option.some.inj h
    rfl
