set_option maxRecDepth 20000 in
theorem T_X8_together_b87 (D : Nat) (t : mTX) (w : Option Value) (z : mSG) (x3 : Int32) (x4 : Int32) (x5 : Int32) (s : mSG) (u1 u2 : Option Value) (o : (Int32 × Int32 × mSG) ⊕ ((Int32 × mSG) ⊕ mSG)) (h : X8_together_b87 t x3 x4 x5 s = some o) (kc : ∀ y : Int32 × Int32 × mSG, o = .inl y → ∀ (u1 u2 : Option Value), Ex (Runs (D + 5)) cd_X8_together (w, z, LAY t) 87 [some (.ref 6), u1, u2, some (.int x3), some (.int y.1), some (.int y.2.1)] [] y.2.2 (LAY t)) (ke0 : ∀ y : Int32 × mSG, o = .inr (.inl y) → ∀ (u0 u1 u2 u3 u4 : Option Value), Ex (Runs (D + 5)) cd_X8_together (w, z, LAY t) 103 [u0, u1, u2, u3, u4, some (.int y.1)] [] y.2 (LAY t)) (ke1 : ∀ y : mSG, o = .inr (.inr y) → ∀ (u0 u1 u2 u3 u4 u5 : Option Value), Ex (Runs (D + 5)) cd_X8_together (w, z, LAY t) 123 [u0, u1, u2, u3, u4, u5] [] y (LAY t)) : Ex (Runs (D + 5)) cd_X8_together (w, z, LAY t) 87 [some (.ref 6), u1, u2, some (.int x3), some (.int x4), some (.int x5)] [] s (LAY t) := by
  unfold X8_together_b87 at h
  refine Ex_br 3 (8 ≤ x5) (fun _ => rfl) (fun hc7 => ?_) (fun hc7 => ?_)
  · rw [if_pos hc7] at h
    obtain rfl := Option.some.inj h
    exact ke1 _ rfl _ _ _ _ _ _
  · rw [if_neg hc7] at h
    refine Ex_br 6 (((x4 >>> (x3 &&& 31)) &&& 1) = 0) (fun _ => rfl) (fun hc8 => ?_) (fun hc8 => ?_)
    · rw [if_pos hc8] at h
      obtain ⟨r9, hr, h⟩ := m_bind h
      refine Ex_call 4 (fun _ => rfl) (T_X8_pooledFrom D t x4 s r9 hr) rfl rfl ?_
      refine Ex_sti 4 (fun _ => rfl) ?_
      obtain rfl := Option.some.inj h
      exact kc _ rfl _ _
    · rw [if_neg hc8] at h
      obtain rfl := Option.some.inj h
      exact ke0 _ rfl _ _ _ _ _

theorem T_X8_together_l87 (D : Nat) (t : mTX) (w : Option Value) (z : mSG) (x3 : Int32) (v : Int32 × Int32 × mSG) (e : ((Int32 × mSG) ⊕ mSG)) (h : X8_together_l87 t x3 v = some e) (ke0 : ∀ y : Int32 × mSG, e = (.inl y) → ∀ (u0 u1 u2 u3 u4 : Option Value), Ex (Runs (D + 5)) cd_X8_together (w, z, LAY t) 103 [u0, u1, u2, u3, u4, some (.int y.1)] [] y.2 (LAY t)) (ke1 : ∀ y : mSG, e = (.inr y) → ∀ (u0 u1 u2 u3 u4 u5 : Option Value), Ex (Runs (D + 5)) cd_X8_together (w, z, LAY t) 123 [u0, u1, u2, u3, u4, u5] [] y (LAY t)) : ∀ (u1 u2 : Option Value), Ex (Runs (D + 5)) cd_X8_together (w, z, LAY t) 87 [some (.ref 6), u1, u2, some (.int x3), some (.int v.1), some (.int v.2.1)] [] v.2.2 (LAY t) :=
  m_iter (P := fun v : Int32 × Int32 × mSG => ∀ (u1 u2 : Option Value), Ex (Runs (D + 5)) cd_X8_together (w, z, LAY t) 87 [some (.ref 6), u1, u2, some (.int x3), some (.int v.1), some (.int v.2.1)] [] v.2.2 (LAY t)) (Q := fun e : ((Int32 × mSG) ⊕ mSG) => (∀ y : Int32 × mSG, e = (.inl y) → ∀ (u0 u1 u2 u3 u4 : Option Value), Ex (Runs (D + 5)) cd_X8_together (w, z, LAY t) 103 [u0, u1, u2, u3, u4, some (.int y.1)] [] y.2 (LAY t)) ∧ (∀ y : mSG, e = (.inr y) → ∀ (u0 u1 u2 u3 u4 u5 : Option Value), Ex (Runs (D + 5)) cd_X8_together (w, z, LAY t) 123 [u0, u1, u2, u3, u4, u5] [] y (LAY t))) (fun x o hx kc kq u1 u2 => T_X8_together_b87 D t w z x3 x.1 x.2.1 x.2.2 u1 u2 o hx kc (fun e he => (kq _ (by rw [he])).1 e rfl) (fun e he => (kq _ (by rw [he])).2 e rfl)) mFU v e h ⟨ke0, ke1⟩
set_option maxRecDepth 20000 in
theorem T_X8_together (D : Nat) (t : mTX) (x1 : Int32) (x2 : Int32) (x3 : Int32) (s : mSG) (o : Int32 × mSG) (h : X8_together t x1 x2 x3 s = some o) : Runs (D + 6) 89 [.ref 6, .int x1, .int x2, .int x3] s (LAY t) (some (.int o.1), o.2, LAY t) := by
  refine Runs_mk (d := D + 5) rfl ?_
  show Ex (Runs (D + 5)) cd_X8_together (some (.int o.1), o.2, LAY t) 0 [some (.ref 6), some (.int x1), some (.int x2), some (.int x3), none, none] [] s (LAY t)
  unfold X8_together at h
  refine Ex_call 4 (fun _ => rfl) (T_X8_areTwoPeople (D + 2) t x1 x2 s _ rfl) rfl rfl ?_
  refine Ex_brZ 1 (X8_areTwoPeople x1 x2 s) (fun _ => rfl) (fun hc => ?_) (fun hc => ?_)
  · rw [if_neg (m_nt hc)] at h
    obtain rfl := Option.some.inj h
    exact Ex_ret 2 (fun _ => rfl) rfl
  · rw [if_pos hc] at h
    refine Ex_call 2 (fun _ => rfl) (T_X8_isStone (D + 3) t x3 s _ rfl) rfl rfl ?_
    refine Ex_brZ 1 (X8_isStone x3) (fun _ => rfl) (fun hc => ?_) (fun hc => ?_)
    · rw [if_neg (m_nt hc)] at h
      obtain rfl := Option.some.inj h
      exact Ex_ret 2 (fun _ => rfl) rfl
    · rw [if_pos hc] at h
      obtain ⟨r1, hr, h⟩ := m_bind h
      refine Ex_call 4 (fun _ => rfl) (T_X8_areOnOneStone (D + 1) t x1 x2 s r1 hr) rfl rfl ?_
      refine Ex_brZ 1 (r1) (fun _ => rfl) (fun hc => ?_) (fun hc => ?_)
      · rw [if_neg (m_nt hc)] at h
        obtain rfl := Option.some.inj h
        exact Ex_ret 2 (fun _ => rfl) rfl
      · rw [if_pos hc] at h
        obtain ⟨r2, hr, h⟩ := m_bind h
        refine Ex_call 9 (fun _ => rfl) (T_X8_ruleOf_7 (D + 3) t  s r2 hr) rfl rfl ?_
        obtain ⟨r3, hr, h⟩ := m_bind h
        refine Ex_call 1 (fun _ => rfl) (T_X0_be_28_7 (D + 1) t x1 r2 s r3 hr) rfl rfl ?_
        obtain ⟨r4, hr, h⟩ := m_bind h
        refine Ex_call 9 (fun _ => rfl) (T_X8_ruleOf_7 (D + 3) t  r3 r4 hr) rfl rfl ?_
        obtain ⟨r5, hr, h⟩ := m_bind h
        refine Ex_call 1 (fun _ => rfl) (T_X0_be_31_7 (D + 1) t x2 r4 r3 r5 hr) rfl rfl ?_
        obtain ⟨r6, hr, h⟩ := m_bind h
        refine Ex_call 6 (fun _ => rfl) (T_X5_trait_7 (D + 2) t x1 0 r5 r6 hr) rfl rfl ?_
        refine Ex_sti 4 (fun _ => rfl) ?_
        obtain ⟨e87, hl, h⟩ := m_bind h
        refine T_X8_together_l87 D t (some (.int o.1)) o.2 x3  (1 <<< (r6 &&& 31), 0, r5) _ hl (fun y0 hy0 => ?_) (fun y1 hy1 => ?_) _ _
        · obtain ⟨e87_0, rfl⟩ : ∃ q, q = y0 := ⟨_, rfl⟩
          subst hy0
          simp only [Sum.elim_inl, Sum.elim_inr] at h
          intro vu0 vu1 vu2 vu3 vu4
          obtain rfl := Option.some.inj h
          exact Ex_ret 2 (fun _ => rfl) rfl
        · obtain ⟨e87_1, rfl⟩ : ∃ q, q = y1 := ⟨_, rfl⟩
          subst hy1
          simp only [Sum.elim_inl, Sum.elim_inr] at h
          intro vu0 vu1 vu2 vu3 vu4 vu5
          obtain rfl := Option.some.inj h
          exact Ex_ret 2 (fun _ => rfl) rfl

set_option maxRecDepth 20000 in
theorem T_X0_lends_28 (D : Nat) (t : mTX) (x1 : Int32) (s : mSG) (o : Int32 × mSG) (h : X0_lends_28 t x1 s = some o) : Runs (D + 4) 4 [.ref 28, .int x1] s (LAY t) (some (.int o.1), o.2, LAY t) := by
  refine Runs_mk (d := D + 3) rfl ?_
  show Ex (Runs (D + 3)) cd_X0_lends (some (.int o.1), o.2, LAY t) 0 [some (.ref 28), some (.int x1)] [] s (LAY t)
  unfold X0_lends_28 at h
  obtain ⟨r1, hr, h⟩ := m_bind h
  refine Ex_call 6 (fun _ => rfl) (T_X0_asked_28 D t 2 x1 x1 0 s r1 hr) rfl rfl ?_
  obtain rfl := Option.some.inj h
  exact Ex_ret 1 (fun _ => rfl) rfl

set_option maxRecDepth 20000 in
theorem T_X5_putDebt_7 (D : Nat) (t : mTX) (x1 : Int32) (x2 : Int32) (x3 : Int32) (s : mSG) (o : mSG) (h : X5_putDebt_7 x1 x2 x3 s = some o) : Runs (D + 3) 63 [.ref 7, .int x1, .int x2, .int x3] s (LAY t) (none, o, LAY t) := by
  refine Runs_mk (d := D + 2) rfl ?_
  show Ex (Runs (D + 2)) cd_X5_putDebt (none, o, LAY t) 0 [some (.ref 7), some (.int x1), some (.int x2), some (.int x3)] [] s (LAY t)
  unfold X5_putDebt_7 at h
  refine Ex_call 3 (fun _ => rfl) (T_X5_isOne_7 D t x1 s _ rfl) rfl rfl ?_
  refine Ex_brZ 1 (X5_isOne_7 x1 s) (fun _ => rfl) (fun hc => ?_) (fun hc => ?_)
  · rw [if_neg (m_nt hc)] at h
    obtain rfl := Option.some.inj h
    exact Ex_ret 1 (fun _ => rfl) rfl
  · rw [if_pos hc] at h
    refine Ex_call 3 (fun _ => rfl) (T_X5_isOne_7 D t x2 s _ rfl) rfl rfl ?_
    refine Ex_brZ 1 (X5_isOne_7 x2 s) (fun _ => rfl) (fun hc => ?_) (fun hc => ?_)
    · rw [if_neg (m_nt hc)] at h
      obtain rfl := Option.some.inj h
      exact Ex_ret 1 (fun _ => rfl) rfl
    · rw [if_pos hc] at h
      obtain ⟨hg1, h⟩ := m_ite h
      refine Ex_gd 9 (fun _ => rfl) hg1 ?_
      obtain rfl := Option.some.inj h
      exact Ex_ret 1 (fun _ => rfl) rfl

set_option maxRecDepth 20000 in
theorem T_X8_lend (D : Nat) (t : mTX) (x1 : Int32) (x2 : Int32) (x3 : Int32) (s : mSG) (o : Int32 × mSG) (h : X8_lend t x1 x2 x3 s = some o) : Runs (D + 5) 90 [.ref 6, .int x1, .int x2, .int x3] s (LAY t) (some (.int o.1), o.2, LAY t) := by
  refine Runs_mk (d := D + 4) rfl ?_
  show Ex (Runs (D + 4)) cd_X8_lend (some (.int o.1), o.2, LAY t) 0 [some (.ref 6), some (.int x1), some (.int x2), some (.int x3), none, none, none, none] [] s (LAY t)
  unfold X8_lend at h
  refine Ex_call 4 (fun _ => rfl) (T_X8_areTwoPeople (D + 1) t x1 x2 s _ rfl) rfl rfl ?_
  refine Ex_brZ 1 (X8_areTwoPeople x1 x2 s) (fun _ => rfl) (fun hc => ?_) (fun hc => ?_)
  · rw [if_neg (m_nt hc)] at h
    obtain rfl := Option.some.inj h
    exact Ex_ret 2 (fun _ => rfl) rfl
  · rw [if_pos hc] at h
    refine Ex_call 3 (fun _ => rfl) (T_X8_isWithin (D + 3) t x3 99 s _ rfl) rfl rfl ?_
    refine Ex_brZ 1 (X8_isWithin x3 99) (fun _ => rfl) (fun hc => ?_) (fun hc => ?_)
    · rw [if_neg (m_nt hc)] at h
      obtain rfl := Option.some.inj h
      exact Ex_ret 2 (fun _ => rfl) rfl
    · rw [if_pos hc] at h
      refine Ex_br 2 (x3 = 0) (fun _ => rfl) (fun hc1 => ?_) (fun hc1 => ?_)
      · rw [if_pos hc1] at h
        obtain rfl := Option.some.inj h
        exact Ex_ret 2 (fun _ => rfl) rfl
      · rw [if_neg hc1] at h
        obtain ⟨r2, hr, h⟩ := m_bind h
        refine Ex_call 5 (fun _ => rfl) (T_X5_trait_7 (D + 1) t x1 1 s r2 hr) rfl rfl ?_
        obtain ⟨r3, hr, h⟩ := m_bind h
        refine Ex_call 8 (fun _ => rfl) (T_X5_trait_7 (D + 1) t x2 1 s r3 hr) rfl rfl ?_
        obtain ⟨r4, hr, h⟩ := m_bind h
        refine Ex_call 8 (fun _ => rfl) (T_X5_debt_7 (D + 1) t x2 x1 s r4 hr) rfl rfl ?_
        obtain ⟨r5, hr, h⟩ := m_bind h
        refine Ex_call 7 (fun _ => rfl) (T_X8_areOnOneStone D t x1 x2 s r5 hr) rfl rfl ?_
        refine Ex_brZ 1 (r5) (fun _ => rfl) (fun hc => ?_) (fun hc => ?_)
        · rw [if_neg (m_nt hc)] at h
          obtain rfl := Option.some.inj h
          exact Ex_ret 2 (fun _ => rfl) rfl
        · rw [if_pos hc] at h
          refine Ex_br 2 ((r2 - x3) < 0) (fun _ => rfl) (fun hc6 => ?_) (fun hc6 => ?_)
          · rw [if_pos hc6] at h
            obtain rfl := Option.some.inj h
            exact Ex_ret 2 (fun _ => rfl) rfl
          · rw [if_neg hc6] at h
            refine Ex_br 3 (99 < (r3 + x3)) (fun _ => rfl) (fun hc7 => ?_) (fun hc7 => ?_)
            · rw [if_pos hc7] at h
              obtain rfl := Option.some.inj h
              exact Ex_ret 2 (fun _ => rfl) rfl
            · rw [if_neg hc7] at h
              refine Ex_br 3 ((r4 + x3) ≤ 99) (fun _ => rfl) (fun hc8 => ?_) (fun hc8 => ?_)
              · rw [if_pos hc8] at h
                obtain ⟨r9, hr, h⟩ := m_bind h
                refine Ex_call 9 (fun _ => rfl) (T_X8_ruleOf_7 (D + 2) t  s r9 hr) rfl rfl ?_
                obtain ⟨r10, hr, h⟩ := m_bind h
                refine Ex_call 1 (fun _ => rfl) (T_X0_be_28_7 D t x1 r9 s r10 hr) rfl rfl ?_
                obtain ⟨r11, hr, h⟩ := m_bind h
                refine Ex_call 7 (fun _ => rfl) (T_X5_trait_7 (D + 1) t x1 0 r10 r11 hr) rfl rfl ?_
                obtain ⟨r12, hr, h⟩ := m_bind h
                refine Ex_call 1 (fun _ => rfl) (T_X0_lends_28 D t r11 r10 r12 hr) rfl rfl ?_
                obtain ⟨r13, hr, h⟩ := m_bind h
                refine Ex_call 7 (fun _ => rfl) (T_X5_put_7 (D + 1) t x1 1 (r2 - x3) r12.2 r13 hr) rfl rfl ?_
                obtain ⟨r14, hr, h⟩ := m_bind h
                refine Ex_call 6 (fun _ => rfl) (T_X5_put_7 (D + 1) t x2 1 (r3 + x3) r13 r14 hr) rfl rfl ?_
                obtain ⟨r15, hr, h⟩ := m_bind h
                refine Ex_call 6 (fun _ => rfl) (T_X5_putDebt_7 (D + 1) t x2 x1 (r4 + x3) r14 r15 hr) rfl rfl ?_
                obtain rfl := Option.some.inj h
                exact Ex_ret 4 (fun _ => rfl) rfl
              · rw [if_neg hc8] at h
                obtain rfl := Option.some.inj h
                exact Ex_ret 2 (fun _ => rfl) rfl

set_option maxRecDepth 20000 in
theorem T_X8_owed (D : Nat) (t : mTX) (x1 : Int32) (x2 : Int32) (s : mSG) (o : Int32) (h : X8_owed x1 x2 s = some o) : Runs (D + 4) 91 [.ref 6, .int x1, .int x2] s (LAY t) (some (.int o), s, LAY t) := by
  refine Runs_mk (d := D + 3) rfl ?_
  show Ex (Runs (D + 3)) cd_X8_owed (some (.int o), s, LAY t) 0 [some (.ref 6), some (.int x1), some (.int x2)] [] s (LAY t)
  unfold X8_owed at h
  refine Ex_call 4 (fun _ => rfl) (T_X5_isOne_7 (D + 1) t x1 s _ rfl) rfl rfl ?_
  refine Ex_brZ 1 (X5_isOne_7 x1 s) (fun _ => rfl) (fun hc => ?_) (fun hc => ?_)
  · rw [if_neg (m_nt hc)] at h
    obtain rfl := Option.some.inj h
    exact Ex_ret 2 (fun _ => rfl) rfl
  · rw [if_pos hc] at h
    refine Ex_call 4 (fun _ => rfl) (T_X5_isOne_7 (D + 1) t x2 s _ rfl) rfl rfl ?_
    refine Ex_brZ 1 (X5_isOne_7 x2 s) (fun _ => rfl) (fun hc => ?_) (fun hc => ?_)
    · rw [if_neg (m_nt hc)] at h
      obtain rfl := Option.some.inj h
      exact Ex_ret 2 (fun _ => rfl) rfl
    · rw [if_pos hc] at h
      obtain ⟨r1, hr, h⟩ := m_bind h
      refine Ex_call 5 (fun _ => rfl) (T_X5_debt_7 D t x1 x2 s r1 hr) rfl rfl ?_
      obtain rfl := Option.some.inj h
      exact Ex_ret 2 (fun _ => rfl) rfl

set_option maxRecDepth 20000 in
theorem T_X5_closeTwo_7 (D : Nat) (t : mTX) (x1 : Int32) (x2 : Int32) (s : mSG) (o : Int32 × mSG) (h : X5_closeTwo_7 x1 x2 s = some o) : Runs (D + 4) 67 [.ref 7, .int x1, .int x2] s (LAY t) (some (.int o.1), o.2, LAY t) := by
  refine Runs_mk (d := D + 3) rfl ?_
  show Ex (Runs (D + 3)) cd_X5_closeTwo (some (.int o.1), o.2, LAY t) 0 [some (.ref 7), some (.int x1), some (.int x2), none] [] s (LAY t)
  unfold X5_closeTwo_7 at h
  obtain ⟨r1, hr, h⟩ := m_bind h
  refine Ex_call 4 (fun _ => rfl) (T_X5_debt_7 D t x1 x2 s r1 hr) rfl rfl ?_
  obtain ⟨r2, hr, h⟩ := m_bind h
  refine Ex_call 4 (fun _ => rfl) (T_X5_debt_7 D t x2 x1 s r2 hr) rfl rfl ?_
  refine Ex_call 1 (fun _ => rfl) (T_J9_min (D + 2) t r1 r2 s _ rfl) rfl rfl ?_
  obtain ⟨r3, hr, h⟩ := m_bind h
  refine Ex_call 8 (fun _ => rfl) (T_X5_debt_7 D t x1 x2 s r3 hr) rfl rfl ?_
  obtain ⟨r4, hr, h⟩ := m_bind h
  refine Ex_call 3 (fun _ => rfl) (T_X5_putDebt_7 D t x1 x2 (r3 - (J9_min r1 r2)) s r4 hr) rfl rfl ?_
  obtain ⟨r5, hr, h⟩ := m_bind h
  refine Ex_call 7 (fun _ => rfl) (T_X5_debt_7 D t x2 x1 r4 r5 hr) rfl rfl ?_
  obtain ⟨r6, hr, h⟩ := m_bind h
  refine Ex_call 3 (fun _ => rfl) (T_X5_putDebt_7 D t x2 x1 (r5 - (J9_min r1 r2)) r4 r6 hr) rfl rfl ?_
  obtain rfl := Option.some.inj h
  exact Ex_ret 2 (fun _ => rfl) rfl

set_option maxRecDepth 20000 in
theorem T_X5_closeThree_7 (D : Nat) (t : mTX) (x1 : Int32) (x2 : Int32) (x3 : Int32) (s : mSG) (o : Int32 × mSG) (h : X5_closeThree_7 x1 x2 x3 s = some o) : Runs (D + 4) 68 [.ref 7, .int x1, .int x2, .int x3] s (LAY t) (some (.int o.1), o.2, LAY t) := by
  refine Runs_mk (d := D + 3) rfl ?_
  show Ex (Runs (D + 3)) cd_X5_closeThree (some (.int o.1), o.2, LAY t) 0 [some (.ref 7), some (.int x1), some (.int x2), some (.int x3), none] [] s (LAY t)
  unfold X5_closeThree_7 at h
  obtain ⟨r1, hr, h⟩ := m_bind h
  refine Ex_call 4 (fun _ => rfl) (T_X5_debt_7 D t x1 x2 s r1 hr) rfl rfl ?_
  obtain ⟨r2, hr, h⟩ := m_bind h
  refine Ex_call 4 (fun _ => rfl) (T_X5_debt_7 D t x2 x3 s r2 hr) rfl rfl ?_
  obtain ⟨r3, hr, h⟩ := m_bind h
  refine Ex_call 4 (fun _ => rfl) (T_X5_debt_7 D t x3 x1 s r3 hr) rfl rfl ?_
  refine Ex_call 1 (fun _ => rfl) (T_J9_min (D + 2) t r2 r3 s _ rfl) rfl rfl ?_
  refine Ex_call 1 (fun _ => rfl) (T_J9_min (D + 2) t r1 (J9_min r2 r3) s _ rfl) rfl rfl ?_
  obtain ⟨r4, hr, h⟩ := m_bind h
  refine Ex_call 8 (fun _ => rfl) (T_X5_debt_7 D t x1 x2 s r4 hr) rfl rfl ?_
  obtain ⟨r5, hr, h⟩ := m_bind h
  refine Ex_call 3 (fun _ => rfl) (T_X5_putDebt_7 D t x1 x2 (r4 - (J9_min r1 (J9_min r2 r3))) s r5 hr) rfl rfl ?_
  obtain ⟨r6, hr, h⟩ := m_bind h
  refine Ex_call 7 (fun _ => rfl) (T_X5_debt_7 D t x2 x3 r5 r6 hr) rfl rfl ?_
  obtain ⟨r7, hr, h⟩ := m_bind h
  refine Ex_call 3 (fun _ => rfl) (T_X5_putDebt_7 D t x2 x3 (r6 - (J9_min r1 (J9_min r2 r3))) r5 r7 hr) rfl rfl ?_
  obtain ⟨r8, hr, h⟩ := m_bind h
  refine Ex_call 7 (fun _ => rfl) (T_X5_debt_7 D t x3 x1 r7 r8 hr) rfl rfl ?_
  obtain ⟨r9, hr, h⟩ := m_bind h
  refine Ex_call 3 (fun _ => rfl) (T_X5_putDebt_7 D t x3 x1 (r8 - (J9_min r1 (J9_min r2 r3))) r7 r9 hr) rfl rfl ?_
  obtain rfl := Option.some.inj h
  exact Ex_ret 2 (fun _ => rfl) rfl

set_option maxRecDepth 20000 in
theorem T_X8_rings_b13 (D : Nat) (t : mTX) (w : Option Value) (z : mSG) (x2 : Int32) (x1 : Int32) (x3 : Int32) (s : mSG) (u4 : Option Value) (o : (Int32 × Int32 × mSG) ⊕ Int32 × mSG) (h : X8_rings_b13 x2 x1 x3 s = some o) (kc : ∀ y : Int32 × Int32 × mSG, o = .inl y → ∀ (u4 : Option Value), Ex (Runs (D + 4)) cd_X8_rings (w, z, LAY t) 13 [some (.ref 6), some (.int y.1), some (.int x2), some (.int y.2.1), u4] [] y.2.2 (LAY t)) (ke0 : ∀ y : Int32 × mSG, o = .inr y → ∀ (u3 u4 : Option Value), Ex (Runs (D + 4)) cd_X8_rings (w, z, LAY t) 36 [some (.ref 6), some (.int y.1), some (.int x2), u3, u4] [] y.2 (LAY t)) : Ex (Runs (D + 4)) cd_X8_rings (w, z, LAY t) 13 [some (.ref 6), some (.int x1), some (.int x2), some (.int x3), u4] [] s (LAY t) := by
  unfold X8_rings_b13 at h
  refine Ex_br 3 (5 ≤ x3) (fun _ => rfl) (fun hc2 => ?_) (fun hc2 => ?_)
  · rw [if_pos hc2] at h
    obtain rfl := Option.some.inj h
    exact ke0 _ rfl _ _
  · rw [if_neg hc2] at h
    obtain ⟨r3, hr, h⟩ := m_bind h
    refine Ex_call 6 (fun _ => rfl) (T_X5_closeTwo_7 D t x2 x3 s r3 hr) rfl rfl ?_
    refine Ex_sti 4 (fun _ => rfl) ?_
    obtain rfl := Option.some.inj h
    exact kc _ rfl _

theorem T_X8_rings_l13 (D : Nat) (t : mTX) (w : Option Value) (z : mSG) (x2 : Int32) (v : Int32 × Int32 × mSG) (e : Int32 × mSG) (h : X8_rings_l13 x2 v = some e) (ke0 : ∀ y : Int32 × mSG, e = y → ∀ (u3 u4 : Option Value), Ex (Runs (D + 4)) cd_X8_rings (w, z, LAY t) 36 [some (.ref 6), some (.int y.1), some (.int x2), u3, u4] [] y.2 (LAY t)) : ∀ (u4 : Option Value), Ex (Runs (D + 4)) cd_X8_rings (w, z, LAY t) 13 [some (.ref 6), some (.int v.1), some (.int x2), some (.int v.2.1), u4] [] v.2.2 (LAY t) :=
  m_iter (P := fun v : Int32 × Int32 × mSG => ∀ (u4 : Option Value), Ex (Runs (D + 4)) cd_X8_rings (w, z, LAY t) 13 [some (.ref 6), some (.int v.1), some (.int x2), some (.int v.2.1), u4] [] v.2.2 (LAY t)) (Q := fun e : Int32 × mSG => (∀ y : Int32 × mSG, e = y → ∀ (u3 u4 : Option Value), Ex (Runs (D + 4)) cd_X8_rings (w, z, LAY t) 36 [some (.ref 6), some (.int y.1), some (.int x2), u3, u4] [] y.2 (LAY t))) (fun x o hx kc kq u4 => T_X8_rings_b13 D t w z x2 x.1 x.2.1 x.2.2 u4 o hx kc (fun e he => kq _ he e rfl)) mFU v e h ke0
set_option maxRecDepth 20000 in
theorem T_X8_rings_b4 (D : Nat) (t : mTX) (w : Option Value) (z : mSG) (x1 : Int32) (x2 : Int32) (s : mSG) (u3 u4 : Option Value) (o : (Int32 × Int32 × mSG) ⊕ Int32 × mSG) (h : X8_rings_b4 x1 x2 s = some o) (kc : ∀ y : Int32 × Int32 × mSG, o = .inl y → ∀ (u3 u4 : Option Value), Ex (Runs (D + 4)) cd_X8_rings (w, z, LAY t) 4 [some (.ref 6), some (.int y.1), some (.int y.2.1), u3, u4] [] y.2.2 (LAY t)) (ke0 : ∀ y : Int32 × mSG, o = .inr y → ∀ (u2 u3 u4 : Option Value), Ex (Runs (D + 4)) cd_X8_rings (w, z, LAY t) 42 [some (.ref 6), some (.int y.1), u2, u3, u4] [] y.2 (LAY t)) : Ex (Runs (D + 4)) cd_X8_rings (w, z, LAY t) 4 [some (.ref 6), some (.int x1), some (.int x2), u3, u4] [] s (LAY t) := by
  unfold X8_rings_b4 at h
  refine Ex_br 3 (5 ≤ x2) (fun _ => rfl) (fun hc1 => ?_) (fun hc1 => ?_)
  · rw [if_pos hc1] at h
    obtain rfl := Option.some.inj h
    exact ke0 _ rfl _ _ _
  · rw [if_neg hc1] at h
    refine Ex_sti 4 (fun _ => rfl) ?_
    obtain ⟨e13, hl, h⟩ := m_bind h
    refine T_X8_rings_l13 D t w z x2  (x1, x2 + 1, s) _ hl (fun y0 hy0 => ?_) _
    · obtain ⟨e13, rfl⟩ : ∃ q, q = y0 := ⟨_, rfl⟩
      subst hy0
      intro vu3 vu4
      refine Ex_sti 2 (fun _ => rfl) ?_
      obtain rfl := Option.some.inj h
      exact kc _ rfl _ _

theorem T_X8_rings_l4 (D : Nat) (t : mTX) (w : Option Value) (z : mSG) (v : Int32 × Int32 × mSG) (e : Int32 × mSG) (h : X8_rings_l4 v = some e) (ke0 : ∀ y : Int32 × mSG, e = y → ∀ (u2 u3 u4 : Option Value), Ex (Runs (D + 4)) cd_X8_rings (w, z, LAY t) 42 [some (.ref 6), some (.int y.1), u2, u3, u4] [] y.2 (LAY t)) : ∀ (u3 u4 : Option Value), Ex (Runs (D + 4)) cd_X8_rings (w, z, LAY t) 4 [some (.ref 6), some (.int v.1), some (.int v.2.1), u3, u4] [] v.2.2 (LAY t) :=
  m_iter (P := fun v : Int32 × Int32 × mSG => ∀ (u3 u4 : Option Value), Ex (Runs (D + 4)) cd_X8_rings (w, z, LAY t) 4 [some (.ref 6), some (.int v.1), some (.int v.2.1), u3, u4] [] v.2.2 (LAY t)) (Q := fun e : Int32 × mSG => (∀ y : Int32 × mSG, e = y → ∀ (u2 u3 u4 : Option Value), Ex (Runs (D + 4)) cd_X8_rings (w, z, LAY t) 42 [some (.ref 6), some (.int y.1), u2, u3, u4] [] y.2 (LAY t))) (fun x o hx kc kq u3 u4 => T_X8_rings_b4 D t w z  x.1 x.2.1 x.2.2 u3 u4 o hx kc (fun e he => kq _ he e rfl)) mFU v e h ke0
set_option maxRecDepth 20000 in
theorem T_X8_rings_b63 (D : Nat) (t : mTX) (w : Option Value) (z : mSG) (x2 : Int32) (x3 : Int32) (x1 : Int32) (x4 : Int32) (s : mSG) (o : (Int32 × Int32 × mSG) ⊕ Int32 × mSG) (h : X8_rings_b63 x2 x3 x1 x4 s = some o) (kc : ∀ y : Int32 × Int32 × mSG, o = .inl y → Ex (Runs (D + 4)) cd_X8_rings (w, z, LAY t) 63 [some (.ref 6), some (.int y.1), some (.int x2), some (.int x3), some (.int y.2.1)] [] y.2.2 (LAY t)) (ke0 : ∀ y : Int32 × mSG, o = .inr y → ∀ (u4 : Option Value), Ex (Runs (D + 4)) cd_X8_rings (w, z, LAY t) 103 [some (.ref 6), some (.int y.1), some (.int x2), some (.int x3), u4] [] y.2 (LAY t)) : Ex (Runs (D + 4)) cd_X8_rings (w, z, LAY t) 63 [some (.ref 6), some (.int x1), some (.int x2), some (.int x3), some (.int x4)] [] s (LAY t) := by
  unfold X8_rings_b63 at h
  refine Ex_br 3 (5 ≤ x4) (fun _ => rfl) (fun hc6 => ?_) (fun hc6 => ?_)
  · rw [if_pos hc6] at h
    obtain rfl := Option.some.inj h
    exact ke0 _ rfl _
  · rw [if_neg hc6] at h
    obtain ⟨r7, hr, h⟩ := m_bind h
    refine Ex_call 7 (fun _ => rfl) (T_X5_closeThree_7 D t x2 x3 x4 s r7 hr) rfl rfl ?_
    obtain ⟨r8, hr, h⟩ := m_bind h
    refine Ex_call 9 (fun _ => rfl) (T_X5_closeThree_7 D t x2 x4 x3 r7.2 r8 hr) rfl rfl ?_
    refine Ex_sti 4 (fun _ => rfl) ?_
    obtain rfl := Option.some.inj h
    exact kc _ rfl 

theorem T_X8_rings_l63 (D : Nat) (t : mTX) (w : Option Value) (z : mSG) (x2 : Int32) (x3 : Int32) (v : Int32 × Int32 × mSG) (e : Int32 × mSG) (h : X8_rings_l63 x2 x3 v = some e) (ke0 : ∀ y : Int32 × mSG, e = y → ∀ (u4 : Option Value), Ex (Runs (D + 4)) cd_X8_rings (w, z, LAY t) 103 [some (.ref 6), some (.int y.1), some (.int x2), some (.int x3), u4] [] y.2 (LAY t)) : Ex (Runs (D + 4)) cd_X8_rings (w, z, LAY t) 63 [some (.ref 6), some (.int v.1), some (.int x2), some (.int x3), some (.int v.2.1)] [] v.2.2 (LAY t) :=
  m_iter (P := fun v : Int32 × Int32 × mSG => Ex (Runs (D + 4)) cd_X8_rings (w, z, LAY t) 63 [some (.ref 6), some (.int v.1), some (.int x2), some (.int x3), some (.int v.2.1)] [] v.2.2 (LAY t)) (Q := fun e : Int32 × mSG => (∀ y : Int32 × mSG, e = y → ∀ (u4 : Option Value), Ex (Runs (D + 4)) cd_X8_rings (w, z, LAY t) 103 [some (.ref 6), some (.int y.1), some (.int x2), some (.int x3), u4] [] y.2 (LAY t))) (fun x o hx kc kq  => T_X8_rings_b63 D t w z x2 x3 x.1 x.2.1 x.2.2  o hx kc (fun e he => kq _ he e rfl)) mFU v e h ke0
set_option maxRecDepth 20000 in
theorem T_X8_rings_b53 (D : Nat) (t : mTX) (w : Option Value) (z : mSG) (x2 : Int32) (x1 : Int32) (x3 : Int32) (s : mSG) (u4 : Option Value) (o : (Int32 × Int32 × mSG) ⊕ Int32 × mSG) (h : X8_rings_b53 x2 x1 x3 s = some o) (kc : ∀ y : Int32 × Int32 × mSG, o = .inl y → ∀ (u4 : Option Value), Ex (Runs (D + 4)) cd_X8_rings (w, z, LAY t) 53 [some (.ref 6), some (.int y.1), some (.int x2), some (.int y.2.1), u4] [] y.2.2 (LAY t)) (ke0 : ∀ y : Int32 × mSG, o = .inr y → ∀ (u3 u4 : Option Value), Ex (Runs (D + 4)) cd_X8_rings (w, z, LAY t) 109 [some (.ref 6), some (.int y.1), some (.int x2), u3, u4] [] y.2 (LAY t)) : Ex (Runs (D + 4)) cd_X8_rings (w, z, LAY t) 53 [some (.ref 6), some (.int x1), some (.int x2), some (.int x3), u4] [] s (LAY t) := by
  unfold X8_rings_b53 at h
  refine Ex_br 3 (5 ≤ x3) (fun _ => rfl) (fun hc5 => ?_) (fun hc5 => ?_)
  · rw [if_pos hc5] at h
    obtain rfl := Option.some.inj h
    exact ke0 _ rfl _ _
  · rw [if_neg hc5] at h
    refine Ex_sti 4 (fun _ => rfl) ?_
    obtain ⟨e63, hl, h⟩ := m_bind h
    refine T_X8_rings_l63 D t w z x2 x3  (x1, x3 + 1, s) _ hl (fun y0 hy0 => ?_) 
    · obtain ⟨e63, rfl⟩ : ∃ q, q = y0 := ⟨_, rfl⟩
      subst hy0
      intro vu4
      refine Ex_sti 2 (fun _ => rfl) ?_
      obtain rfl := Option.some.inj h
      exact kc _ rfl _

theorem T_X8_rings_l53 (D : Nat) (t : mTX) (w : Option Value) (z : mSG) (x2 : Int32) (v : Int32 × Int32 × mSG) (e : Int32 × mSG) (h : X8_rings_l53 x2 v = some e) (ke0 : ∀ y : Int32 × mSG, e = y → ∀ (u3 u4 : Option Value), Ex (Runs (D + 4)) cd_X8_rings (w, z, LAY t) 109 [some (.ref 6), some (.int y.1), some (.int x2), u3, u4] [] y.2 (LAY t)) : ∀ (u4 : Option Value), Ex (Runs (D + 4)) cd_X8_rings (w, z, LAY t) 53 [some (.ref 6), some (.int v.1), some (.int x2), some (.int v.2.1), u4] [] v.2.2 (LAY t) :=
  m_iter (P := fun v : Int32 × Int32 × mSG => ∀ (u4 : Option Value), Ex (Runs (D + 4)) cd_X8_rings (w, z, LAY t) 53 [some (.ref 6), some (.int v.1), some (.int x2), some (.int v.2.1), u4] [] v.2.2 (LAY t)) (Q := fun e : Int32 × mSG => (∀ y : Int32 × mSG, e = y → ∀ (u3 u4 : Option Value), Ex (Runs (D + 4)) cd_X8_rings (w, z, LAY t) 109 [some (.ref 6), some (.int y.1), some (.int x2), u3, u4] [] y.2 (LAY t))) (fun x o hx kc kq u4 => T_X8_rings_b53 D t w z x2 x.1 x.2.1 x.2.2 u4 o hx kc (fun e he => kq _ he e rfl)) mFU v e h ke0
set_option maxRecDepth 20000 in
theorem T_X8_rings_b44 (D : Nat) (t : mTX) (w : Option Value) (z : mSG) (x1 : Int32) (x2 : Int32) (s : mSG) (u3 u4 : Option Value) (o : (Int32 × Int32 × mSG) ⊕ Int32 × mSG) (h : X8_rings_b44 x1 x2 s = some o) (kc : ∀ y : Int32 × Int32 × mSG, o = .inl y → ∀ (u3 u4 : Option Value), Ex (Runs (D + 4)) cd_X8_rings (w, z, LAY t) 44 [some (.ref 6), some (.int y.1), some (.int y.2.1), u3, u4] [] y.2.2 (LAY t)) (ke0 : ∀ y : Int32 × mSG, o = .inr y → ∀ (u0 u2 u3 u4 : Option Value), Ex (Runs (D + 4)) cd_X8_rings (w, z, LAY t) 115 [u0, some (.int y.1), u2, u3, u4] [] y.2 (LAY t)) : Ex (Runs (D + 4)) cd_X8_rings (w, z, LAY t) 44 [some (.ref 6), some (.int x1), some (.int x2), u3, u4] [] s (LAY t) := by
  unfold X8_rings_b44 at h
  refine Ex_br 3 (5 ≤ x2) (fun _ => rfl) (fun hc4 => ?_) (fun hc4 => ?_)
  · rw [if_pos hc4] at h
    obtain rfl := Option.some.inj h
    exact ke0 _ rfl _ _ _ _
  · rw [if_neg hc4] at h
    refine Ex_sti 4 (fun _ => rfl) ?_
    obtain ⟨e53, hl, h⟩ := m_bind h
    refine T_X8_rings_l53 D t w z x2  (x1, x2 + 1, s) _ hl (fun y0 hy0 => ?_) _
    · obtain ⟨e53, rfl⟩ : ∃ q, q = y0 := ⟨_, rfl⟩
      subst hy0
      intro vu3 vu4
      refine Ex_sti 2 (fun _ => rfl) ?_
      obtain rfl := Option.some.inj h
      exact kc _ rfl _ _

theorem T_X8_rings_l44 (D : Nat) (t : mTX) (w : Option Value) (z : mSG) (v : Int32 × Int32 × mSG) (e : Int32 × mSG) (h : X8_rings_l44 v = some e) (ke0 : ∀ y : Int32 × mSG, e = y → ∀ (u0 u2 u3 u4 : Option Value), Ex (Runs (D + 4)) cd_X8_rings (w, z, LAY t) 115 [u0, some (.int y.1), u2, u3, u4] [] y.2 (LAY t)) : ∀ (u3 u4 : Option Value), Ex (Runs (D + 4)) cd_X8_rings (w, z, LAY t) 44 [some (.ref 6), some (.int v.1), some (.int v.2.1), u3, u4] [] v.2.2 (LAY t) :=
  m_iter (P := fun v : Int32 × Int32 × mSG => ∀ (u3 u4 : Option Value), Ex (Runs (D + 4)) cd_X8_rings (w, z, LAY t) 44 [some (.ref 6), some (.int v.1), some (.int v.2.1), u3, u4] [] v.2.2 (LAY t)) (Q := fun e : Int32 × mSG => (∀ y : Int32 × mSG, e = y → ∀ (u0 u2 u3 u4 : Option Value), Ex (Runs (D + 4)) cd_X8_rings (w, z, LAY t) 115 [u0, some (.int y.1), u2, u3, u4] [] y.2 (LAY t))) (fun x o hx kc kq u3 u4 => T_X8_rings_b44 D t w z  x.1 x.2.1 x.2.2 u3 u4 o hx kc (fun e he => kq _ he e rfl)) mFU v e h ke0
set_option maxRecDepth 20000 in
theorem T_X8_rings (D : Nat) (t : mTX) (s : mSG) (o : Int32 × mSG) (h : X8_rings s = some o) : Runs (D + 5) 92 [.ref 6] s (LAY t) (some (.int o.1), o.2, LAY t) := by
  refine Runs_mk (d := D + 4) rfl ?_
  show Ex (Runs (D + 4)) cd_X8_rings (some (.int o.1), o.2, LAY t) 0 [some (.ref 6), none, none, none, none] [] s (LAY t)
  unfold X8_rings at h
  refine Ex_sti 4 (fun _ => rfl) ?_
  obtain ⟨e4, hl, h⟩ := m_bind h
  refine T_X8_rings_l4 D t (some (.int o.1)) o.2   (0, 0, s) _ hl (fun y0 hy0 => ?_) _ _
  · obtain ⟨e4, rfl⟩ : ∃ q, q = y0 := ⟨_, rfl⟩
    subst hy0
    intro vu2 vu3 vu4
    refine Ex_sti 2 (fun _ => rfl) ?_
    obtain ⟨e44, hl, h⟩ := m_bind h
    refine T_X8_rings_l44 D t (some (.int o.1)) o.2   (e4.1, 0, e4.2) _ hl (fun y0 hy0 => ?_) _ _
    · obtain ⟨e44, rfl⟩ : ∃ q, q = y0 := ⟨_, rfl⟩
      subst hy0
      intro vu0 vu2 vu3 vu4
      obtain rfl := Option.some.inj h
      exact Ex_ret 2 (fun _ => rfl) rfl

set_option maxRecDepth 20000 in
theorem T_X0_crosses_28 (D : Nat) (t : mTX) (x1 : Int32) (x2 : Int32) (x3 : Int32) (s : mSG) (o : Bool × mSG) (h : X0_crosses_28 t x1 x2 x3 s = some o) : Runs (D + 5) 5 [.ref 28, .int x1, .int x2, .int x3] s (LAY t) (some (.int (b2i o.1)), o.2, LAY t) := by
  refine Runs_mk (d := D + 4) rfl ?_
  show Ex (Runs (D + 4)) cd_X0_crosses (some (.int (b2i o.1)), o.2, LAY t) 0 [some (.ref 28), some (.int x1), some (.int x2), some (.int x3)] [] s (LAY t)
  unfold X0_crosses_28 at h
  refine Ex_br 2 (x3 ≤ 0) (fun _ => rfl) (fun hc1 => ?_) (fun hc1 => ?_)
  · rw [if_pos hc1] at h
    obtain rfl := Option.some.inj h
    exact Ex_retZ 2 (fun _ => rfl) (Or.inl rfl) rfl
  · rw [if_neg hc1] at h
    refine Ex_call 2 (fun _ => rfl) (T_X0_reaches_28 (D + 1) t  s _ rfl) rfl rfl ?_
    obtain ⟨r2, hr, h⟩ := m_bind h
    refine Ex_call 6 (fun _ => rfl) (T_X0_wants_28 D t x1 x2 x3 s r2 hr) rfl rfl ?_
    refine Ex_br 2 ((X0_reaches_28 s) < (x3 + r2.1)) (fun _ => rfl) (fun hc3 => ?_) (fun hc3 => ?_)
    · rw [if_pos hc3] at h
      obtain rfl := Option.some.inj h
      exact Ex_retZ 2 (fun _ => rfl) (Or.inl rfl) rfl
    · rw [if_neg hc3] at h
      obtain rfl := Option.some.inj h
      exact Ex_retZ 3 (fun _ => rfl) (Or.inr rfl) rfl

set_option maxRecDepth 20000 in
theorem T_X0_crosses_31 (D : Nat) (t : mTX) (x1 : Int32) (x2 : Int32) (x3 : Int32) (s : mSG) (o : Bool × mSG) (h : X0_crosses_31 t x1 x2 x3 s = some o) : Runs (D + 5) 5 [.ref 31, .int x1, .int x2, .int x3] s (LAY t) (some (.int (b2i o.1)), o.2, LAY t) := by
  refine Runs_mk (d := D + 4) rfl ?_
  show Ex (Runs (D + 4)) cd_X0_crosses (some (.int (b2i o.1)), o.2, LAY t) 0 [some (.ref 31), some (.int x1), some (.int x2), some (.int x3)] [] s (LAY t)
  unfold X0_crosses_31 at h
  refine Ex_br 2 (x3 ≤ 0) (fun _ => rfl) (fun hc1 => ?_) (fun hc1 => ?_)
  · rw [if_pos hc1] at h
    obtain rfl := Option.some.inj h
    exact Ex_retZ 2 (fun _ => rfl) (Or.inl rfl) rfl
  · rw [if_neg hc1] at h
    refine Ex_call 2 (fun _ => rfl) (T_X0_reaches_31 (D + 1) t  s _ rfl) rfl rfl ?_
    obtain ⟨r2, hr, h⟩ := m_bind h
    refine Ex_call 6 (fun _ => rfl) (T_X0_wants_31 D t x1 x2 x3 s r2 hr) rfl rfl ?_
    refine Ex_br 2 ((X0_reaches_31 s) < (x3 + r2.1)) (fun _ => rfl) (fun hc3 => ?_) (fun hc3 => ?_)
    · rw [if_pos hc3] at h
      obtain rfl := Option.some.inj h
      exact Ex_retZ 2 (fun _ => rfl) (Or.inl rfl) rfl
    · rw [if_neg hc3] at h
      obtain rfl := Option.some.inj h
      exact Ex_retZ 3 (fun _ => rfl) (Or.inr rfl) rfl

set_option maxRecDepth 20000 in
theorem T_X8_followedFrom_j82_13 (D : Nat) (t : mTX) (w : Option Value) (z : mSG) (x1 : Int32) (x2 : Int32) (x3 : Int32) (x4 : Int32) (s : mSG) (u5 : Option Value) (o : (Int32 × Int32 × mSG) ⊕ (mSG ⊕ Int32 × mSG)) (h : X8_followedFrom_j82_13 t x1 x2 x3 x4 s = some o) (kc : ∀ y : Int32 × Int32 × mSG, o = .inl y → ∀ (u5 : Option Value), Ex (Runs (D + 5)) cd_X8_followedFrom (w, z, LAY t) 13 [some (.ref 6), some (.int x1), some (.int y.1), some (.int x3), some (.int y.2.1), u5] [] y.2.2 (LAY t)) (ke0 : ∀ y : mSG, o = .inr (.inl y) → ∀ (u0 u1 u2 u3 u4 u5 : Option Value), Ex (Runs (D + 5)) cd_X8_followedFrom (w, z, LAY t) 73 [u0, u1, u2, u3, u4, u5] [] y (LAY t)) (ke1 : ∀ y : Int32 × mSG, o = .inr (.inr y) → ∀ (u4 u5 : Option Value), Ex (Runs (D + 5)) cd_X8_followedFrom (w, z, LAY t) 88 [some (.ref 6), some (.int x1), some (.int y.1), some (.int x3), u4, u5] [] y.2 (LAY t)) : Ex (Runs (D + 5)) cd_X8_followedFrom (w, z, LAY t) 82 [some (.ref 6), some (.int x1), some (.int x2), some (.int x3), some (.int x4), u5] [] s (LAY t) := by
  unfold X8_followedFrom_j82_13 at h
  refine Ex_sti 2 (fun _ => rfl) ?_
  obtain rfl := Option.some.inj h
  exact kc _ rfl _

set_option maxRecDepth 20000 in
theorem T_X8_followedFrom_b13 (D : Nat) (t : mTX) (w : Option Value) (z : mSG) (x1 : Int32) (x3 : Int32) (x2 : Int32) (x4 : Int32) (s : mSG) (u5 : Option Value) (o : (Int32 × Int32 × mSG) ⊕ (mSG ⊕ Int32 × mSG)) (h : X8_followedFrom_b13 t x1 x3 x2 x4 s = some o) (kc : ∀ y : Int32 × Int32 × mSG, o = .inl y → ∀ (u5 : Option Value), Ex (Runs (D + 5)) cd_X8_followedFrom (w, z, LAY t) 13 [some (.ref 6), some (.int x1), some (.int y.1), some (.int x3), some (.int y.2.1), u5] [] y.2.2 (LAY t)) (ke0 : ∀ y : mSG, o = .inr (.inl y) → ∀ (u0 u1 u2 u3 u4 u5 : Option Value), Ex (Runs (D + 5)) cd_X8_followedFrom (w, z, LAY t) 73 [u0, u1, u2, u3, u4, u5] [] y (LAY t)) (ke1 : ∀ y : Int32 × mSG, o = .inr (.inr y) → ∀ (u4 u5 : Option Value), Ex (Runs (D + 5)) cd_X8_followedFrom (w, z, LAY t) 88 [some (.ref 6), some (.int x1), some (.int y.1), some (.int x3), u4, u5] [] y.2 (LAY t)) : Ex (Runs (D + 5)) cd_X8_followedFrom (w, z, LAY t) 13 [some (.ref 6), some (.int x1), some (.int x2), some (.int x3), some (.int x4), u5] [] s (LAY t) := by
  unfold X8_followedFrom_b13 at h
  refine Ex_br 3 (8 ≤ x4) (fun _ => rfl) (fun hc2 => ?_) (fun hc2 => ?_)
  · rw [if_pos hc2] at h
    obtain rfl := Option.some.inj h
    exact ke1 _ rfl _ _
  · rw [if_neg hc2] at h
    obtain ⟨r3, hr, h⟩ := m_bind h
    refine Ex_call 5 (fun _ => rfl) (T_X5_mudBetween_7 (D + 1) t x3 x4 s r3 hr) rfl rfl ?_
    refine Ex_br 7 (((x1 >>> (x3 &&& 31)) &&& 1) = 0) (fun _ => rfl) (fun hc4 => ?_) (fun hc4 => ?_)
    · rw [if_pos hc4] at h
      exact T_X8_followedFrom_j82_13 D t w z x1 x2 x3 x4 s _ _ h kc ke0 ke1
    · rw [if_neg hc4] at h
      obtain ⟨r5, hr, h⟩ := m_bind h
      refine Ex_call 6 (fun _ => rfl) (T_X0_crosses_28 D t x3 x4 r3 s r5 hr) rfl rfl ?_
      refine Ex_brZ 1 (r5.1) (fun _ => rfl) (fun hc => ?_) (fun hc => ?_)
      · rw [if_neg (m_nt hc)] at h
        refine Ex_sti 1 (fun _ => rfl) ?_
        exact T_X8_followedFrom_j82_13 D t w z x1 x2 x3 x4 r5.2 _ _ h kc ke0 ke1
      · rw [if_pos hc] at h
        obtain ⟨r6, hr, h⟩ := m_bind h
        refine Ex_call 6 (fun _ => rfl) (T_X0_crosses_31 D t x3 x4 r3 r5.2 r6 hr) rfl rfl ?_
        refine Ex_brZ 1 (r6.1) (fun _ => rfl) (fun hc => ?_) (fun hc => ?_)
        · rw [if_neg (m_nt hc)] at h
          obtain rfl := Option.some.inj h
          exact ke0 _ rfl _ _ _ _ _ _
        · rw [if_pos hc] at h
          refine Ex_sti 6 (fun _ => rfl) ?_
          exact T_X8_followedFrom_j82_13 D t w z x1 (x2 ||| (1 <<< (x4 &&& 31))) x3 x4 r6.2 _ _ h kc ke0 ke1

theorem T_X8_followedFrom_l13 (D : Nat) (t : mTX) (w : Option Value) (z : mSG) (x1 : Int32) (x3 : Int32) (v : Int32 × Int32 × mSG) (e : (mSG ⊕ Int32 × mSG)) (h : X8_followedFrom_l13 t x1 x3 v = some e) (ke0 : ∀ y : mSG, e = (.inl y) → ∀ (u0 u1 u2 u3 u4 u5 : Option Value), Ex (Runs (D + 5)) cd_X8_followedFrom (w, z, LAY t) 73 [u0, u1, u2, u3, u4, u5] [] y (LAY t)) (ke1 : ∀ y : Int32 × mSG, e = (.inr y) → ∀ (u4 u5 : Option Value), Ex (Runs (D + 5)) cd_X8_followedFrom (w, z, LAY t) 88 [some (.ref 6), some (.int x1), some (.int y.1), some (.int x3), u4, u5] [] y.2 (LAY t)) : ∀ (u5 : Option Value), Ex (Runs (D + 5)) cd_X8_followedFrom (w, z, LAY t) 13 [some (.ref 6), some (.int x1), some (.int v.1), some (.int x3), some (.int v.2.1), u5] [] v.2.2 (LAY t) :=
  m_iter (P := fun v : Int32 × Int32 × mSG => ∀ (u5 : Option Value), Ex (Runs (D + 5)) cd_X8_followedFrom (w, z, LAY t) 13 [some (.ref 6), some (.int x1), some (.int v.1), some (.int x3), some (.int v.2.1), u5] [] v.2.2 (LAY t)) (Q := fun e : (mSG ⊕ Int32 × mSG) => (∀ y : mSG, e = (.inl y) → ∀ (u0 u1 u2 u3 u4 u5 : Option Value), Ex (Runs (D + 5)) cd_X8_followedFrom (w, z, LAY t) 73 [u0, u1, u2, u3, u4, u5] [] y (LAY t)) ∧ (∀ y : Int32 × mSG, e = (.inr y) → ∀ (u4 u5 : Option Value), Ex (Runs (D + 5)) cd_X8_followedFrom (w, z, LAY t) 88 [some (.ref 6), some (.int x1), some (.int y.1), some (.int x3), u4, u5] [] y.2 (LAY t))) (fun x o hx kc kq u5 => T_X8_followedFrom_b13 D t w z x1 x3 x.1 x.2.1 x.2.2 u5 o hx kc (fun e he => (kq _ (by rw [he])).1 e rfl) (fun e he => (kq _ (by rw [he])).2 e rfl)) mFU v e h ⟨ke0, ke1⟩
set_option maxRecDepth 20000 in
theorem T_X8_followedFrom_b4 (D : Nat) (t : mTX) (w : Option Value) (z : mSG) (x1 : Int32) (x2 : Int32) (x3 : Int32) (s : mSG) (u4 u5 : Option Value) (o : (Int32 × Int32 × mSG) ⊕ (mSG ⊕ Int32 × mSG)) (h : X8_followedFrom_b4 t x1 x2 x3 s = some o) (kc : ∀ y : Int32 × Int32 × mSG, o = .inl y → ∀ (u4 u5 : Option Value), Ex (Runs (D + 5)) cd_X8_followedFrom (w, z, LAY t) 4 [some (.ref 6), some (.int x1), some (.int y.1), some (.int y.2.1), u4, u5] [] y.2.2 (LAY t)) (ke0 : ∀ y : mSG, o = .inr (.inl y) → ∀ (u0 u1 u2 u3 u4 u5 : Option Value), Ex (Runs (D + 5)) cd_X8_followedFrom (w, z, LAY t) 73 [u0, u1, u2, u3, u4, u5] [] y (LAY t)) (ke1 : ∀ y : Int32 × mSG, o = .inr (.inr y) → ∀ (u0 u1 u3 u4 u5 : Option Value), Ex (Runs (D + 5)) cd_X8_followedFrom (w, z, LAY t) 94 [u0, u1, some (.int y.1), u3, u4, u5] [] y.2 (LAY t)) : Ex (Runs (D + 5)) cd_X8_followedFrom (w, z, LAY t) 4 [some (.ref 6), some (.int x1), some (.int x2), some (.int x3), u4, u5] [] s (LAY t) := by
  unfold X8_followedFrom_b4 at h
  refine Ex_br 3 (8 ≤ x3) (fun _ => rfl) (fun hc1 => ?_) (fun hc1 => ?_)
  · rw [if_pos hc1] at h
    obtain rfl := Option.some.inj h
    exact ke1 _ rfl _ _ _ _ _
  · rw [if_neg hc1] at h
    refine Ex_sti 2 (fun _ => rfl) ?_
    obtain ⟨e13, hl, h⟩ := m_bind h
    refine T_X8_followedFrom_l13 D t w z x1 x3  (x2, 0, s) _ hl (fun y0 hy0 => ?_) (fun y1 hy1 => ?_) _
    · obtain ⟨e13_0, rfl⟩ : ∃ q, q = y0 := ⟨_, rfl⟩
      subst hy0
      simp only [Sum.elim_inl, Sum.elim_inr] at h
      intro vu0 vu1 vu2 vu3 vu4 vu5
      obtain rfl := Option.some.inj h
      exact ke0 _ rfl _ _ _ _ _ _
    · obtain ⟨e13_1, rfl⟩ : ∃ q, q = y1 := ⟨_, rfl⟩
      subst hy1
      simp only [Sum.elim_inl, Sum.elim_inr] at h
      intro vu4 vu5
      refine Ex_sti 2 (fun _ => rfl) ?_
      obtain rfl := Option.some.inj h
      exact kc _ rfl _ _

theorem T_X8_followedFrom_l4 (D : Nat) (t : mTX) (w : Option Value) (z : mSG) (x1 : Int32) (v : Int32 × Int32 × mSG) (e : (mSG ⊕ Int32 × mSG)) (h : X8_followedFrom_l4 t x1 v = some e) (ke0 : ∀ y : mSG, e = (.inl y) → ∀ (u0 u1 u2 u3 u4 u5 : Option Value), Ex (Runs (D + 5)) cd_X8_followedFrom (w, z, LAY t) 73 [u0, u1, u2, u3, u4, u5] [] y (LAY t)) (ke1 : ∀ y : Int32 × mSG, e = (.inr y) → ∀ (u0 u1 u3 u4 u5 : Option Value), Ex (Runs (D + 5)) cd_X8_followedFrom (w, z, LAY t) 94 [u0, u1, some (.int y.1), u3, u4, u5] [] y.2 (LAY t)) : ∀ (u4 u5 : Option Value), Ex (Runs (D + 5)) cd_X8_followedFrom (w, z, LAY t) 4 [some (.ref 6), some (.int x1), some (.int v.1), some (.int v.2.1), u4, u5] [] v.2.2 (LAY t) :=
  m_iter (P := fun v : Int32 × Int32 × mSG => ∀ (u4 u5 : Option Value), Ex (Runs (D + 5)) cd_X8_followedFrom (w, z, LAY t) 4 [some (.ref 6), some (.int x1), some (.int v.1), some (.int v.2.1), u4, u5] [] v.2.2 (LAY t)) (Q := fun e : (mSG ⊕ Int32 × mSG) => (∀ y : mSG, e = (.inl y) → ∀ (u0 u1 u2 u3 u4 u5 : Option Value), Ex (Runs (D + 5)) cd_X8_followedFrom (w, z, LAY t) 73 [u0, u1, u2, u3, u4, u5] [] y (LAY t)) ∧ (∀ y : Int32 × mSG, e = (.inr y) → ∀ (u0 u1 u3 u4 u5 : Option Value), Ex (Runs (D + 5)) cd_X8_followedFrom (w, z, LAY t) 94 [u0, u1, some (.int y.1), u3, u4, u5] [] y.2 (LAY t))) (fun x o hx kc kq u4 u5 => T_X8_followedFrom_b4 D t w z x1 x.1 x.2.1 x.2.2 u4 u5 o hx kc (fun e he => (kq _ (by rw [he])).1 e rfl) (fun e he => (kq _ (by rw [he])).2 e rfl)) mFU v e h ⟨ke0, ke1⟩
set_option maxRecDepth 20000 in
theorem T_X8_followedFrom (D : Nat) (t : mTX) (x1 : Int32) (s : mSG) (o : Int32 × mSG) (h : X8_followedFrom t x1 s = some o) : Runs (D + 6) 119 [.ref 6, .int x1] s (LAY t) (some (.int o.1), o.2, LAY t) := by
  refine Runs_mk (d := D + 5) rfl ?_
  show Ex (Runs (D + 5)) cd_X8_followedFrom (some (.int o.1), o.2, LAY t) 0 [some (.ref 6), some (.int x1), none, none, none, none] [] s (LAY t)
  unfold X8_followedFrom at h
  refine Ex_sti 4 (fun _ => rfl) ?_
  obtain ⟨e4, hl, h⟩ := m_bind h
  refine T_X8_followedFrom_l4 D t (some (.int o.1)) o.2 x1  (0, 0, s) _ hl (fun y0 hy0 => ?_) (fun y1 hy1 => ?_) _ _
  · obtain ⟨e4_0, rfl⟩ : ∃ q, q = y0 := ⟨_, rfl⟩
    subst hy0
    simp only [Sum.elim_inl, Sum.elim_inr] at h
    intro vu0 vu1 vu2 vu3 vu4 vu5
    obtain rfl := Option.some.inj h
    exact Ex_ret 2 (fun _ => rfl) rfl
  · obtain ⟨e4_1, rfl⟩ : ∃ q, q = y1 := ⟨_, rfl⟩
    subst hy1
    simp only [Sum.elim_inl, Sum.elim_inr] at h
    intro vu0 vu1 vu3 vu4 vu5
    obtain rfl := Option.some.inj h
    exact Ex_ret 2 (fun _ => rfl) rfl

set_option maxRecDepth 20000 in
theorem T_X0_soak_31 (D : Nat) (t : mTX) (s : mSG) (o : mSG) (h : X0_soak_31 s = some o) : Runs (D + 4) 7 [.ref 31] s (LAY t) (none, o, LAY t) := by
  refine Runs_mk (d := D + 3) rfl ?_
  show Ex (Runs (D + 3)) cd_X0_soak (none, o, LAY t) 0 [some (.ref 31)] [] s (LAY t)
  unfold X0_soak_31 at h
  refine Ex_call 8 (fun _ => rfl) (T_X2_soaks D t (s.1 31 3) (s.1 31 7) (s.1 31 8) s _ rfl) rfl rfl ?_
  obtain rfl := Option.some.inj h
  exact Ex_ret 2 (fun _ => rfl) rfl

set_option maxRecDepth 20000 in
theorem T_X8_shaken_b79 (D : Nat) (t : mTX) (w : Option Value) (z : mSG) (x3 : Int32) (x4 : Int32) (s : mSG) (u1 u2 u5 : Option Value) (o : (Int32 × Int32 × mSG) ⊕ ((Int32 × mSG) ⊕ mSG)) (h : X8_shaken_b79 t x3 x4 s = some o) (kc : ∀ y : Int32 × Int32 × mSG, o = .inl y → ∀ (u1 u2 u5 : Option Value), Ex (Runs (D + 6)) cd_X8_shaken (w, z, LAY t) 79 [some (.ref 6), u1, u2, some (.int y.1), some (.int y.2.1), u5] [] y.2.2 (LAY t)) (ke0 : ∀ y : Int32 × mSG, o = .inr (.inl y) → ∀ (u0 u1 u2 u3 u5 : Option Value), Ex (Runs (D + 6)) cd_X8_shaken (w, z, LAY t) 99 [u0, u1, u2, u3, some (.int y.1), u5] [] y.2 (LAY t)) (ke1 : ∀ y : mSG, o = .inr (.inr y) → ∀ (u0 u1 u2 u3 u4 u5 : Option Value), Ex (Runs (D + 6)) cd_X8_shaken (w, z, LAY t) 125 [u0, u1, u2, u3, u4, u5] [] y (LAY t)) : Ex (Runs (D + 6)) cd_X8_shaken (w, z, LAY t) 79 [some (.ref 6), u1, u2, some (.int x3), some (.int x4), u5] [] s (LAY t) := by
  unfold X8_shaken_b79 at h
  refine Ex_br 3 (8 < x4) (fun _ => rfl) (fun hc7 => ?_) (fun hc7 => ?_)
  · rw [if_pos hc7] at h
    obtain rfl := Option.some.inj h
    exact ke1 _ rfl _ _ _ _ _ _
  · rw [if_neg hc7] at h
    obtain ⟨r8, hr, h⟩ := m_bind h
    refine Ex_call 3 (fun _ => rfl) (T_X8_followedFrom D t x3 s r8 hr) rfl rfl ?_
    refine Ex_br 4 (r8.1 = (-1)) (fun _ => rfl) (fun hc9 => ?_) (fun hc9 => ?_)
    · rw [if_pos hc9] at h
      obtain rfl := Option.some.inj h
      exact ke0 _ rfl _ _ _ _ _
    · rw [if_neg hc9] at h
      obtain ⟨r10, hr, h⟩ := m_bind h
      refine Ex_call 5 (fun _ => rfl) (T_X0_soak_28 (D + 2) t  r8.2 r10 hr) rfl rfl ?_
      obtain ⟨r11, hr, h⟩ := m_bind h
      refine Ex_call 3 (fun _ => rfl) (T_X0_soak_31 (D + 2) t  r10 r11 hr) rfl rfl ?_
      refine Ex_sti 2 (fun _ => rfl) ?_
      obtain rfl := Option.some.inj h
      exact kc _ rfl _ _ _

theorem T_X8_shaken_l79 (D : Nat) (t : mTX) (w : Option Value) (z : mSG) (v : Int32 × Int32 × mSG) (e : ((Int32 × mSG) ⊕ mSG)) (h : X8_shaken_l79 t v = some e) (ke0 : ∀ y : Int32 × mSG, e = (.inl y) → ∀ (u0 u1 u2 u3 u5 : Option Value), Ex (Runs (D + 6)) cd_X8_shaken (w, z, LAY t) 99 [u0, u1, u2, u3, some (.int y.1), u5] [] y.2 (LAY t)) (ke1 : ∀ y : mSG, e = (.inr y) → ∀ (u0 u1 u2 u3 u4 u5 : Option Value), Ex (Runs (D + 6)) cd_X8_shaken (w, z, LAY t) 125 [u0, u1, u2, u3, u4, u5] [] y (LAY t)) : ∀ (u1 u2 u5 : Option Value), Ex (Runs (D + 6)) cd_X8_shaken (w, z, LAY t) 79 [some (.ref 6), u1, u2, some (.int v.1), some (.int v.2.1), u5] [] v.2.2 (LAY t) :=
  m_iter (P := fun v : Int32 × Int32 × mSG => ∀ (u1 u2 u5 : Option Value), Ex (Runs (D + 6)) cd_X8_shaken (w, z, LAY t) 79 [some (.ref 6), u1, u2, some (.int v.1), some (.int v.2.1), u5] [] v.2.2 (LAY t)) (Q := fun e : ((Int32 × mSG) ⊕ mSG) => (∀ y : Int32 × mSG, e = (.inl y) → ∀ (u0 u1 u2 u3 u5 : Option Value), Ex (Runs (D + 6)) cd_X8_shaken (w, z, LAY t) 99 [u0, u1, u2, u3, some (.int y.1), u5] [] y.2 (LAY t)) ∧ (∀ y : mSG, e = (.inr y) → ∀ (u0 u1 u2 u3 u4 u5 : Option Value), Ex (Runs (D + 6)) cd_X8_shaken (w, z, LAY t) 125 [u0, u1, u2, u3, u4, u5] [] y (LAY t))) (fun x o hx kc kq u1 u2 u5 => T_X8_shaken_b79 D t w z  x.1 x.2.1 x.2.2 u1 u2 u5 o hx kc (fun e he => (kq _ (by rw [he])).1 e rfl) (fun e he => (kq _ (by rw [he])).2 e rfl)) mFU v e h ⟨ke0, ke1⟩
set_option maxRecDepth 20000 in
theorem T_X8_shaken (D : Nat) (t : mTX) (x1 : Int32) (x2 : Int32) (s : mSG) (o : Int32 × mSG) (h : X8_shaken t x1 x2 s = some o) : Runs (D + 7) 93 [.ref 6, .int x1, .int x2] s (LAY t) (some (.int o.1), o.2, LAY t) := by
  refine Runs_mk (d := D + 6) rfl ?_
  show Ex (Runs (D + 6)) cd_X8_shaken (some (.int o.1), o.2, LAY t) 0 [some (.ref 6), some (.int x1), some (.int x2), none, none, none] [] s (LAY t)
  unfold X8_shaken at h
  refine Ex_call 4 (fun _ => rfl) (T_X8_areTwoPeople (D + 3) t x1 x2 s _ rfl) rfl rfl ?_
  refine Ex_brZ 1 (X8_areTwoPeople x1 x2 s) (fun _ => rfl) (fun hc => ?_) (fun hc => ?_)
  · rw [if_neg (m_nt hc)] at h
    obtain rfl := Option.some.inj h
    exact Ex_ret 2 (fun _ => rfl) rfl
  · rw [if_pos hc] at h
    obtain ⟨r1, hr, h⟩ := m_bind h
    refine Ex_call 4 (fun _ => rfl) (T_X8_areOnOneStone (D + 2) t x1 x2 s r1 hr) rfl rfl ?_
    refine Ex_brZ 1 (r1) (fun _ => rfl) (fun hc => ?_) (fun hc => ?_)
    · rw [if_neg (m_nt hc)] at h
      obtain rfl := Option.some.inj h
      exact Ex_ret 2 (fun _ => rfl) rfl
    · rw [if_pos hc] at h
      obtain ⟨r2, hr, h⟩ := m_bind h
      refine Ex_call 9 (fun _ => rfl) (T_X8_ruleOf_7 (D + 4) t  s r2 hr) rfl rfl ?_
      obtain ⟨r3, hr, h⟩ := m_bind h
      refine Ex_call 1 (fun _ => rfl) (T_X0_be_28_7 (D + 2) t x1 r2 s r3 hr) rfl rfl ?_
      obtain ⟨r4, hr, h⟩ := m_bind h
      refine Ex_call 9 (fun _ => rfl) (T_X8_ruleOf_7 (D + 4) t  r3 r4 hr) rfl rfl ?_
      obtain ⟨r5, hr, h⟩ := m_bind h
      refine Ex_call 1 (fun _ => rfl) (T_X0_be_31_7 (D + 2) t x2 r4 r3 r5 hr) rfl rfl ?_
      obtain ⟨r6, hr, h⟩ := m_bind h
      refine Ex_call 6 (fun _ => rfl) (T_X5_trait_7 (D + 3) t x1 0 r5 r6 hr) rfl rfl ?_
      refine Ex_sti 4 (fun _ => rfl) ?_
      obtain ⟨e79, hl, h⟩ := m_bind h
      refine T_X8_shaken_l79 D t (some (.int o.1)) o.2   (1 <<< (r6 &&& 31), 1, r5) _ hl (fun y0 hy0 => ?_) (fun y1 hy1 => ?_) _ _ _
      · obtain ⟨e79_0, rfl⟩ : ∃ q, q = y0 := ⟨_, rfl⟩
        subst hy0
        simp only [Sum.elim_inl, Sum.elim_inr] at h
        intro vu0 vu1 vu2 vu3 vu5
        obtain rfl := Option.some.inj h
        exact Ex_ret 2 (fun _ => rfl) rfl
      · obtain ⟨e79_1, rfl⟩ : ∃ q, q = y1 := ⟨_, rfl⟩
        subst hy1
        simp only [Sum.elim_inl, Sum.elim_inr] at h
        intro vu0 vu1 vu2 vu3 vu4 vu5
        obtain rfl := Option.some.inj h
        exact Ex_ret 2 (fun _ => rfl) rfl

set_option maxRecDepth 20000 in
theorem T_X4_isMissing (D : Nat) (t : mTX) (a0_ : Nat) (s : mSG) (o : Bool) (h : X4_isMissing t a0_ s = some o) : Runs (D + 1) 47 [.ref a0_] s (LAY t) (some (.int (b2i o)), s, LAY t) := by
  refine Runs_mk (d := D) rfl ?_
  show Ex (Runs (D)) cd_X4_isMissing (some (.int (b2i o)), s, LAY t) 0 [some (.ref a0_)] [] s (LAY t)
  unfold X4_isMissing at h
  obtain ⟨hg, h⟩ := m_ite h
  refine Ex_if 2 (fun _ => rfl) hg ?_
  refine Ex_br 2 ((s.1 a0_ 1) = (-1)) (fun _ => rfl) (fun hc1 => ?_) (fun hc1 => ?_)
  · rw [if_pos hc1] at h
    obtain rfl := Option.some.inj h
    exact Ex_retZ 3 (fun _ => rfl) (Or.inr rfl) rfl
  · rw [if_neg hc1] at h
    obtain rfl := Option.some.inj h
    exact Ex_retZ 2 (fun _ => rfl) (Or.inl rfl) rfl

set_option maxRecDepth 20000 in
theorem T_X4_item (D : Nat) (t : mTX) (a0_ : Nat) (x1 : Int32) (s : mSG) (o : Int32) (h : X4_item t a0_ x1 s = some o) : Runs (D + 2) 49 [.ref a0_, .int x1] s (LAY t) (some (.int o), s, LAY t) := by
  refine Runs_mk (d := D + 1) rfl ?_
  show Ex (Runs (D + 1)) cd_X4_item (some (.int o), s, LAY t) 0 [some (.ref a0_), some (.int x1)] [] s (LAY t)
  unfold X4_item at h
  obtain ⟨hg, h⟩ := m_ite h
  refine Ex_if 3 (fun _ => rfl) hg ?_
  refine Ex_call 3 (fun _ => rfl) (T_X8_isWithin D t x1 ((s.1 a0_ 2) - 1) s _ rfl) rfl rfl ?_
  refine Ex_brZ 1 (X8_isWithin x1 ((s.1 a0_ 2) - 1)) (fun _ => rfl) (fun hc => ?_) (fun hc => ?_)
  · rw [if_neg (m_nt hc)] at h
    obtain rfl := Option.some.inj h
    exact Ex_ret 2 (fun _ => rfl) rfl
  · rw [if_pos hc] at h
    obtain ⟨hg, h⟩ := m_ite h
    obtain ⟨a1, hq, h⟩ := m_bind h
    refine Ex_getF 2 (fun _ => rfl) hg hq ?_
    obtain ⟨hg, h⟩ := m_ite h
    refine Ex_ifg 2 (fun _ => rfl) hg.1 hg.2 ?_
    obtain rfl := Option.some.inj h
    exact Ex_ret 2 (fun _ => rfl) rfl

set_option maxRecDepth 20000 in
theorem T_X8_tellsStones_b2 (D : Nat) (t : mTX) (w : Option Value) (z : mSG) (a0_ : Nat) (x1 : Int32) (s : mSG) (o : Int32 ⊕ (Unit ⊕ Unit)) (h : X8_tellsStones_b2 t a0_ x1 s = some o) (kc : ∀ y : Int32, o = .inl y → Ex (Runs (D + 2)) cd_X8_tellsStones (w, z, LAY t) 2 [some (.ref a0_), some (.int y)] [] s (LAY t)) (ke0 : ∀ y : Unit, o = .inr (.inl y) → ∀ (u0 u1 : Option Value), Ex (Runs (D + 2)) cd_X8_tellsStones (w, z, LAY t) 21 [u0, u1] [] s (LAY t)) (ke1 : ∀ y : Unit, o = .inr (.inr y) → ∀ (u0 u1 : Option Value), Ex (Runs (D + 2)) cd_X8_tellsStones (w, z, LAY t) 29 [u0, u1] [] s (LAY t)) : Ex (Runs (D + 2)) cd_X8_tellsStones (w, z, LAY t) 2 [some (.ref a0_), some (.int x1)] [] s (LAY t) := by
  unfold X8_tellsStones_b2 at h
  obtain ⟨hg, h⟩ := m_ite h
  refine Ex_if 3 (fun _ => rfl) hg ?_
  refine Ex_br 1 ((s.1 a0_ 2) ≤ x1) (fun _ => rfl) (fun hc1 => ?_) (fun hc1 => ?_)
  · rw [if_pos hc1] at h
    obtain rfl := Option.some.inj h
    exact ke1 _ rfl _ _
  · rw [if_neg hc1] at h
    obtain ⟨hk, h⟩ := m_ite h
    obtain ⟨r2, hr, h⟩ := m_bind h
    refine Ex_callK 3 (fun _ => rfl) ⟨hk, Nat.le_of_ble_eq_true rfl⟩ (T_X4_item D t a0_ x1 s r2 hr) rfl rfl ?_
    refine Ex_call 1 (fun _ => rfl) (T_X8_isStone D t r2 s _ rfl) rfl rfl ?_
    refine Ex_brZ 1 (X8_isStone r2) (fun _ => rfl) (fun hc => ?_) (fun hc => ?_)
    · rw [if_neg (m_nt hc)] at h
      obtain rfl := Option.some.inj h
      exact ke0 _ rfl _ _
    · rw [if_pos hc] at h
      refine Ex_sti 2 (fun _ => rfl) ?_
      obtain rfl := Option.some.inj h
      exact kc _ rfl 

theorem T_X8_tellsStones_l2 (D : Nat) (t : mTX) (w : Option Value) (z : mSG) (a0_ : Nat) (s : mSG) (v : Int32) (e : (Unit ⊕ Unit)) (h : X8_tellsStones_l2 t a0_ s v = some e) (ke0 : ∀ y : Unit, e = (.inl y) → ∀ (u0 u1 : Option Value), Ex (Runs (D + 2)) cd_X8_tellsStones (w, z, LAY t) 21 [u0, u1] [] s (LAY t)) (ke1 : ∀ y : Unit, e = (.inr y) → ∀ (u0 u1 : Option Value), Ex (Runs (D + 2)) cd_X8_tellsStones (w, z, LAY t) 29 [u0, u1] [] s (LAY t)) : Ex (Runs (D + 2)) cd_X8_tellsStones (w, z, LAY t) 2 [some (.ref a0_), some (.int v)] [] s (LAY t) :=
  m_iter (P := fun v : Int32 => Ex (Runs (D + 2)) cd_X8_tellsStones (w, z, LAY t) 2 [some (.ref a0_), some (.int v)] [] s (LAY t)) (Q := fun e : (Unit ⊕ Unit) => (∀ y : Unit, e = (.inl y) → ∀ (u0 u1 : Option Value), Ex (Runs (D + 2)) cd_X8_tellsStones (w, z, LAY t) 21 [u0, u1] [] s (LAY t)) ∧ (∀ y : Unit, e = (.inr y) → ∀ (u0 u1 : Option Value), Ex (Runs (D + 2)) cd_X8_tellsStones (w, z, LAY t) 29 [u0, u1] [] s (LAY t))) (fun x o hx kc kq  => T_X8_tellsStones_b2 D t w z a0_ x s  o hx kc (fun e he => (kq _ (by rw [he])).1 e rfl) (fun e he => (kq _ (by rw [he])).2 e rfl)) mFU v e h ⟨ke0, ke1⟩
set_option maxRecDepth 20000 in
theorem T_X8_tellsStones (D : Nat) (t : mTX) (a0_ : Nat) (s : mSG) (o : Bool) (h : X8_tellsStones t a0_ s = some o) : Runs (D + 3) 120 [.ref a0_] s (LAY t) (some (.int (b2i o)), s, LAY t) := by
  refine Runs_mk (d := D + 2) rfl ?_
  show Ex (Runs (D + 2)) cd_X8_tellsStones (some (.int (b2i o)), s, LAY t) 0 [some (.ref a0_), none] [] s (LAY t)
  unfold X8_tellsStones at h
  refine Ex_sti 2 (fun _ => rfl) ?_
  obtain ⟨e2, hl, h⟩ := m_bind h
  refine T_X8_tellsStones_l2 D t (some (.int (b2i o))) s a0_ s 0 _ hl (fun y0 hy0 => ?_) (fun y1 hy1 => ?_) 
  · obtain ⟨e2_0, rfl⟩ : ∃ q, q = y0 := ⟨_, rfl⟩
    subst hy0
    simp only [Sum.elim_inl, Sum.elim_inr] at h
    intro vu0 vu1
    obtain rfl := Option.some.inj h
    exact Ex_retZ 2 (fun _ => rfl) (Or.inl rfl) rfl
  · obtain ⟨e2_1, rfl⟩ : ∃ q, q = y1 := ⟨_, rfl⟩
    subst hy1
    simp only [Sum.elim_inl, Sum.elim_inr] at h
    intro vu0 vu1
    obtain rfl := Option.some.inj h
    exact Ex_retZ 2 (fun _ => rfl) (Or.inr rfl) rfl

set_option maxRecDepth 20000 in
theorem T_X8_canFollow_b22 (D : Nat) (t : mTX) (w : Option Value) (z : mSG) (a2_ : Nat) (x3 : Int32) (s : mSG) (u1 u4 u5 : Option Value) (o : (Int32 × mSG) ⊕ (mSG ⊕ mSG)) (h : X8_canFollow_b22 t a2_ x3 s = some o) (kc : ∀ y : Int32 × mSG, o = .inl y → ∀ (u1 u4 u5 : Option Value), Ex (Runs (D + 5)) cd_X8_canFollow (w, z, LAY t) 22 [some (.ref 6), u1, some (.ref a2_), some (.int y.1), u4, u5] [] y.2 (LAY t)) (ke0 : ∀ y : mSG, o = .inr (.inl y) → ∀ (u0 u1 u2 u3 u4 u5 : Option Value), Ex (Runs (D + 5)) cd_X8_canFollow (w, z, LAY t) 71 [u0, u1, u2, u3, u4, u5] [] y (LAY t)) (ke1 : ∀ y : mSG, o = .inr (.inr y) → ∀ (u0 u1 u2 u3 u4 u5 : Option Value), Ex (Runs (D + 5)) cd_X8_canFollow (w, z, LAY t) 86 [u0, u1, u2, u3, u4, u5] [] y (LAY t)) : Ex (Runs (D + 5)) cd_X8_canFollow (w, z, LAY t) 22 [some (.ref 6), u1, some (.ref a2_), some (.int x3), u4, u5] [] s (LAY t) := by
  unfold X8_canFollow_b22 at h
  obtain ⟨hg, h⟩ := m_ite h
  refine Ex_if 3 (fun _ => rfl) hg ?_
  refine Ex_br 1 ((s.1 a2_ 2) ≤ x3) (fun _ => rfl) (fun hc3 => ?_) (fun hc3 => ?_)
  · rw [if_pos hc3] at h
    obtain rfl := Option.some.inj h
    exact ke1 _ rfl _ _ _ _ _ _
  · rw [if_neg hc3] at h
    obtain ⟨hk, h⟩ := m_ite h
    obtain ⟨r4, hr, h⟩ := m_bind h
    refine Ex_callK 5 (fun _ => rfl) ⟨hk, Nat.le_of_ble_eq_true rfl⟩ (T_X4_item (D + 3) t a2_ (x3 - 1) s r4 hr) rfl rfl ?_
    obtain ⟨hk, h⟩ := m_ite h
    obtain ⟨r5, hr, h⟩ := m_bind h
    refine Ex_callK 4 (fun _ => rfl) ⟨hk, Nat.le_of_ble_eq_true rfl⟩ (T_X4_item (D + 3) t a2_ x3 s r5 hr) rfl rfl ?_
    obtain ⟨r6, hr, h⟩ := m_bind h
    refine Ex_call 10 (fun _ => rfl) (T_X5_mudBetween_7 (D + 1) t r4 r5 s r6 hr) rfl rfl ?_
    obtain ⟨r7, hr, h⟩ := m_bind h
    refine Ex_call 1 (fun _ => rfl) (T_X0_crosses_28 D t r4 r5 r6 s r7 hr) rfl rfl ?_
    refine Ex_brZ 1 (r7.1) (fun _ => rfl) (fun hc => ?_) (fun hc => ?_)
    · rw [if_neg (m_nt hc)] at h
      obtain rfl := Option.some.inj h
      exact ke0 _ rfl _ _ _ _ _ _
    · rw [if_pos hc] at h
      obtain ⟨r8, hr, h⟩ := m_bind h
      refine Ex_call 3 (fun _ => rfl) (T_X0_soak_28 (D + 1) t  r7.2 r8 hr) rfl rfl ?_
      refine Ex_sti 2 (fun _ => rfl) ?_
      obtain rfl := Option.some.inj h
      exact kc _ rfl _ _ _

theorem T_X8_canFollow_l22 (D : Nat) (t : mTX) (w : Option Value) (z : mSG) (a2_ : Nat) (v : Int32 × mSG) (e : (mSG ⊕ mSG)) (h : X8_canFollow_l22 t a2_ v = some e) (ke0 : ∀ y : mSG, e = (.inl y) → ∀ (u0 u1 u2 u3 u4 u5 : Option Value), Ex (Runs (D + 5)) cd_X8_canFollow (w, z, LAY t) 71 [u0, u1, u2, u3, u4, u5] [] y (LAY t)) (ke1 : ∀ y : mSG, e = (.inr y) → ∀ (u0 u1 u2 u3 u4 u5 : Option Value), Ex (Runs (D + 5)) cd_X8_canFollow (w, z, LAY t) 86 [u0, u1, u2, u3, u4, u5] [] y (LAY t)) : ∀ (u1 u4 u5 : Option Value), Ex (Runs (D + 5)) cd_X8_canFollow (w, z, LAY t) 22 [some (.ref 6), u1, some (.ref a2_), some (.int v.1), u4, u5] [] v.2 (LAY t) :=
  m_iter (P := fun v : Int32 × mSG => ∀ (u1 u4 u5 : Option Value), Ex (Runs (D + 5)) cd_X8_canFollow (w, z, LAY t) 22 [some (.ref 6), u1, some (.ref a2_), some (.int v.1), u4, u5] [] v.2 (LAY t)) (Q := fun e : (mSG ⊕ mSG) => (∀ y : mSG, e = (.inl y) → ∀ (u0 u1 u2 u3 u4 u5 : Option Value), Ex (Runs (D + 5)) cd_X8_canFollow (w, z, LAY t) 71 [u0, u1, u2, u3, u4, u5] [] y (LAY t)) ∧ (∀ y : mSG, e = (.inr y) → ∀ (u0 u1 u2 u3 u4 u5 : Option Value), Ex (Runs (D + 5)) cd_X8_canFollow (w, z, LAY t) 86 [u0, u1, u2, u3, u4, u5] [] y (LAY t))) (fun x o hx kc kq u1 u4 u5 => T_X8_canFollow_b22 D t w z a2_ x.1 x.2 u1 u4 u5 o hx kc (fun e he => (kq _ (by rw [he])).1 e rfl) (fun e he => (kq _ (by rw [he])).2 e rfl)) mFU v e h ⟨ke0, ke1⟩
set_option maxRecDepth 20000 in
theorem T_X8_canFollow (D : Nat) (t : mTX) (x1 : Int32) (a2_ : Nat) (s : mSG) (o : Bool × mSG) (h : X8_canFollow t x1 a2_ s = some o) : Runs (D + 6) 121 [.ref 6, .int x1, .ref a2_] s (LAY t) (some (.int (b2i o.1)), o.2, LAY t) := by
  refine Runs_mk (d := D + 5) rfl ?_
  show Ex (Runs (D + 5)) cd_X8_canFollow (some (.int (b2i o.1)), o.2, LAY t) 0 [some (.ref 6), some (.int x1), some (.ref a2_), none, none, none] [] s (LAY t)
  unfold X8_canFollow at h
  obtain ⟨r1, hr, h⟩ := m_bind h
  refine Ex_call 9 (fun _ => rfl) (T_X8_ruleOf_7 (D + 3) t  s r1 hr) rfl rfl ?_
  obtain ⟨r2, hr, h⟩ := m_bind h
  refine Ex_call 1 (fun _ => rfl) (T_X0_be_28_7 (D + 1) t x1 r1 s r2 hr) rfl rfl ?_
  refine Ex_sti 2 (fun _ => rfl) ?_
  obtain ⟨e22, hl, h⟩ := m_bind h
  refine T_X8_canFollow_l22 D t (some (.int (b2i o.1))) o.2 a2_  (1, r2) _ hl (fun y0 hy0 => ?_) (fun y1 hy1 => ?_) _ _ _
  · obtain ⟨e22_0, rfl⟩ : ∃ q, q = y0 := ⟨_, rfl⟩
    subst hy0
    simp only [Sum.elim_inl, Sum.elim_inr] at h
    intro vu0 vu1 vu2 vu3 vu4 vu5
    obtain rfl := Option.some.inj h
    exact Ex_retZ 2 (fun _ => rfl) (Or.inl rfl) rfl
  · obtain ⟨e22_1, rfl⟩ : ∃ q, q = y1 := ⟨_, rfl⟩
    subst hy1
    simp only [Sum.elim_inl, Sum.elim_inr] at h
    intro vu0 vu1 vu2 vu3 vu4 vu5
    obtain rfl := Option.some.inj h
    exact Ex_retZ 2 (fun _ => rfl) (Or.inr rfl) rfl

set_option maxRecDepth 20000 in
theorem T_X8_prints_j80_51 (D : Nat) (t : mTX) (w : Option Value) (z : mSG) (a2_ : Nat) (x3 : Int32) (x4 : Int32) (s : mSG) (u1 : Option Value) (o : (Int32 × Int32 × mSG) ⊕ Int32 × mSG) (h : X8_prints_j80_51 t a2_ x3 x4 s = some o) (kc : ∀ y : Int32 × Int32 × mSG, o = .inl y → ∀ (u1 : Option Value), Ex (Runs (D + 6)) cd_X8_prints (w, z, LAY t) 51 [some (.ref 6), u1, some (.ref a2_), some (.int y.1), some (.int y.2.1)] [] y.2.2 (LAY t)) (ke0 : ∀ y : Int32 × mSG, o = .inr y → ∀ (u0 u1 u2 u4 : Option Value), Ex (Runs (D + 6)) cd_X8_prints (w, z, LAY t) 86 [u0, u1, u2, some (.int y.1), u4] [] y.2 (LAY t)) : Ex (Runs (D + 6)) cd_X8_prints (w, z, LAY t) 80 [some (.ref 6), u1, some (.ref a2_), some (.int x3), some (.int x4)] [] s (LAY t) := by
  unfold X8_prints_j80_51 at h
  refine Ex_sti 2 (fun _ => rfl) ?_
  obtain rfl := Option.some.inj h
  exact kc _ rfl _

set_option maxRecDepth 20000 in
theorem T_X8_prints_b51 (D : Nat) (t : mTX) (w : Option Value) (z : mSG) (a2_ : Nat) (x3 : Int32) (x4 : Int32) (s : mSG) (u1 : Option Value) (o : (Int32 × Int32 × mSG) ⊕ Int32 × mSG) (h : X8_prints_b51 t a2_ x3 x4 s = some o) (kc : ∀ y : Int32 × Int32 × mSG, o = .inl y → ∀ (u1 : Option Value), Ex (Runs (D + 6)) cd_X8_prints (w, z, LAY t) 51 [some (.ref 6), u1, some (.ref a2_), some (.int y.1), some (.int y.2.1)] [] y.2.2 (LAY t)) (ke0 : ∀ y : Int32 × mSG, o = .inr y → ∀ (u0 u1 u2 u4 : Option Value), Ex (Runs (D + 6)) cd_X8_prints (w, z, LAY t) 86 [u0, u1, u2, some (.int y.1), u4] [] y.2 (LAY t)) : Ex (Runs (D + 6)) cd_X8_prints (w, z, LAY t) 51 [some (.ref 6), u1, some (.ref a2_), some (.int x3), some (.int x4)] [] s (LAY t) := by
  unfold X8_prints_b51 at h
  refine Ex_br 5 ((s.1 7 4) ≤ x4) (fun _ => rfl) (fun hc5 => ?_) (fun hc5 => ?_)
  · rw [if_pos hc5] at h
    obtain rfl := Option.some.inj h
    exact ke0 _ rfl _ _ _ _
  · rw [if_neg hc5] at h
    obtain ⟨r6, hr, h⟩ := m_bind h
    refine Ex_call 4 (fun _ => rfl) (T_X8_canFollow D t x4 a2_ s r6 hr) rfl rfl ?_
    refine Ex_brZ 1 (r6.1) (fun _ => rfl) (fun hc => ?_) (fun hc => ?_)
    · rw [if_neg (m_nt hc)] at h
      exact T_X8_prints_j80_51 D t w z a2_ x3 x4 r6.2 _ _ h kc ke0
    · rw [if_pos hc] at h
      refine Ex_sti 6 (fun _ => rfl) ?_
      exact T_X8_prints_j80_51 D t w z a2_ (x3 ||| (1 <<< (x4 &&& 31))) x4 r6.2 _ _ h kc ke0

theorem T_X8_prints_l51 (D : Nat) (t : mTX) (w : Option Value) (z : mSG) (a2_ : Nat) (v : Int32 × Int32 × mSG) (e : Int32 × mSG) (h : X8_prints_l51 t a2_ v = some e) (ke0 : ∀ y : Int32 × mSG, e = y → ∀ (u0 u1 u2 u4 : Option Value), Ex (Runs (D + 6)) cd_X8_prints (w, z, LAY t) 86 [u0, u1, u2, some (.int y.1), u4] [] y.2 (LAY t)) : ∀ (u1 : Option Value), Ex (Runs (D + 6)) cd_X8_prints (w, z, LAY t) 51 [some (.ref 6), u1, some (.ref a2_), some (.int v.1), some (.int v.2.1)] [] v.2.2 (LAY t) :=
  m_iter (P := fun v : Int32 × Int32 × mSG => ∀ (u1 : Option Value), Ex (Runs (D + 6)) cd_X8_prints (w, z, LAY t) 51 [some (.ref 6), u1, some (.ref a2_), some (.int v.1), some (.int v.2.1)] [] v.2.2 (LAY t)) (Q := fun e : Int32 × mSG => (∀ y : Int32 × mSG, e = y → ∀ (u0 u1 u2 u4 : Option Value), Ex (Runs (D + 6)) cd_X8_prints (w, z, LAY t) 86 [u0, u1, u2, some (.int y.1), u4] [] y.2 (LAY t))) (fun x o hx kc kq u1 => T_X8_prints_b51 D t w z a2_ x.1 x.2.1 x.2.2 u1 o hx kc (fun e he => kq _ he e rfl)) mFU v e h ke0
set_option maxRecDepth 20000 in
theorem T_X8_prints (D : Nat) (t : mTX) (x1 : Int32) (s : mSG) (o : Int32 × mSG) (h : X8_prints t x1 s = some o) : Runs (D + 7) 94 [.ref 6, .int x1] s (LAY t) (some (.int o.1), o.2, LAY t) := by
  refine Runs_mk (d := D + 6) rfl ?_
  show Ex (Runs (D + 6)) cd_X8_prints (some (.int o.1), o.2, LAY t) 0 [some (.ref 6), some (.int x1), none, none, none] [] s (LAY t)
  unfold X8_prints at h
  refine Ex_call 3 (fun _ => rfl) (T_X8_isWithin (D + 5) t x1 3 s _ rfl) rfl rfl ?_
  refine Ex_brZ 1 (X8_isWithin x1 3) (fun _ => rfl) (fun hc => ?_) (fun hc => ?_)
  · rw [if_neg (m_nt hc)] at h
    obtain rfl := Option.some.inj h
    exact Ex_ret 2 (fun _ => rfl) rfl
  · rw [if_pos hc] at h
    obtain ⟨hg, h⟩ := m_ite h
    obtain ⟨a1, hq, h⟩ := m_bind h
    refine Ex_aald 4 (fun _ => rfl) hg hq ?_
    obtain ⟨hk, h⟩ := m_ite h
    obtain ⟨r2, hr, h⟩ := m_bind h
    refine Ex_callK 3 (fun _ => rfl) ⟨hk, Nat.le_of_ble_eq_true rfl⟩ (T_X4_isMissing (D + 5) t a1 s r2 hr) rfl rfl ?_
    refine Ex_brZ 1 (r2) (fun _ => rfl) (fun hc => ?_) (fun hc => ?_)
    · rw [if_neg (m_nt hc)] at h
      obtain ⟨hg, h⟩ := m_ite h
      refine Ex_if 2 (fun _ => rfl) hg ?_
      refine Ex_br 2 ((s.1 a1 2) < 2) (fun _ => rfl) (fun hc3 => ?_) (fun hc3 => ?_)
      · rw [if_pos hc3] at h
        obtain rfl := Option.some.inj h
        exact Ex_ret 2 (fun _ => rfl) rfl
      · rw [if_neg hc3] at h
        obtain ⟨r4, hr, h⟩ := m_bind h
        refine Ex_call 2 (fun _ => rfl) (T_X8_tellsStones (D + 3) t a1 s r4 hr) rfl rfl ?_
        refine Ex_brZ 1 (r4) (fun _ => rfl) (fun hc => ?_) (fun hc => ?_)
        · rw [if_neg (m_nt hc)] at h
          obtain rfl := Option.some.inj h
          exact Ex_ret 2 (fun _ => rfl) rfl
        · rw [if_pos hc] at h
          refine Ex_sti 4 (fun _ => rfl) ?_
          obtain ⟨e51, hl, h⟩ := m_bind h
          refine T_X8_prints_l51 D t (some (.int o.1)) o.2 a1  (0, 0, s) _ hl (fun y0 hy0 => ?_) _
          · obtain ⟨e51, rfl⟩ : ∃ q, q = y0 := ⟨_, rfl⟩
            subst hy0
            intro vu0 vu1 vu2 vu4
            obtain rfl := Option.some.inj h
            exact Ex_ret 2 (fun _ => rfl) rfl
    · rw [if_pos hc] at h
      obtain rfl := Option.some.inj h
      exact Ex_ret 2 (fun _ => rfl) rfl

set_option maxRecDepth 20000 in
theorem T_X8_wasRainSeen_b2 (D : Nat) (t : mTX) (w : Option Value) (z : mSG) (x1 : Int32) (x2 : Int32) (x3 : Int32) (s : mSG) (o : Int32 ⊕ (Unit ⊕ Unit)) (h : X8_wasRainSeen_b2 x1 x2 x3 s = some o) (kc : ∀ y : Int32, o = .inl y → Ex (Runs (D + 2)) cd_X8_wasRainSeen (w, z, LAY t) 2 [some (.ref 6), some (.int x1), some (.int x2), some (.int y)] [] s (LAY t)) (ke0 : ∀ y : Unit, o = .inr (.inl y) → ∀ (u0 u1 u2 u3 : Option Value), Ex (Runs (D + 2)) cd_X8_wasRainSeen (w, z, LAY t) 19 [u0, u1, u2, u3] [] s (LAY t)) (ke1 : ∀ y : Unit, o = .inr (.inr y) → ∀ (u0 u1 u2 u3 : Option Value), Ex (Runs (D + 2)) cd_X8_wasRainSeen (w, z, LAY t) 27 [u0, u1, u2, u3] [] s (LAY t)) : Ex (Runs (D + 2)) cd_X8_wasRainSeen (w, z, LAY t) 2 [some (.ref 6), some (.int x1), some (.int x2), some (.int x3)] [] s (LAY t) := by
  unfold X8_wasRainSeen_b2 at h
  refine Ex_br 3 (x2 ≤ x3) (fun _ => rfl) (fun hc1 => ?_) (fun hc1 => ?_)
  · rw [if_pos hc1] at h
    obtain rfl := Option.some.inj h
    exact ke1 _ rfl _ _ _ _
  · rw [if_neg hc1] at h
    obtain ⟨r2, hr, h⟩ := m_bind h
    refine Ex_call 4 (fun _ => rfl) (T_X5_rainIn_7 D t x3 s r2 hr) rfl rfl ?_
    refine Ex_br 2 (r2 = x1) (fun _ => rfl) (fun hc3 => ?_) (fun hc3 => ?_)
    · rw [if_pos hc3] at h
      obtain rfl := Option.some.inj h
      exact ke0 _ rfl _ _ _ _
    · rw [if_neg hc3] at h
      refine Ex_sti 2 (fun _ => rfl) ?_
      obtain rfl := Option.some.inj h
      exact kc _ rfl 

theorem T_X8_wasRainSeen_l2 (D : Nat) (t : mTX) (w : Option Value) (z : mSG) (x1 : Int32) (x2 : Int32) (s : mSG) (v : Int32) (e : (Unit ⊕ Unit)) (h : X8_wasRainSeen_l2 x1 x2 s v = some e) (ke0 : ∀ y : Unit, e = (.inl y) → ∀ (u0 u1 u2 u3 : Option Value), Ex (Runs (D + 2)) cd_X8_wasRainSeen (w, z, LAY t) 19 [u0, u1, u2, u3] [] s (LAY t)) (ke1 : ∀ y : Unit, e = (.inr y) → ∀ (u0 u1 u2 u3 : Option Value), Ex (Runs (D + 2)) cd_X8_wasRainSeen (w, z, LAY t) 27 [u0, u1, u2, u3] [] s (LAY t)) : Ex (Runs (D + 2)) cd_X8_wasRainSeen (w, z, LAY t) 2 [some (.ref 6), some (.int x1), some (.int x2), some (.int v)] [] s (LAY t) :=
  m_iter (P := fun v : Int32 => Ex (Runs (D + 2)) cd_X8_wasRainSeen (w, z, LAY t) 2 [some (.ref 6), some (.int x1), some (.int x2), some (.int v)] [] s (LAY t)) (Q := fun e : (Unit ⊕ Unit) => (∀ y : Unit, e = (.inl y) → ∀ (u0 u1 u2 u3 : Option Value), Ex (Runs (D + 2)) cd_X8_wasRainSeen (w, z, LAY t) 19 [u0, u1, u2, u3] [] s (LAY t)) ∧ (∀ y : Unit, e = (.inr y) → ∀ (u0 u1 u2 u3 : Option Value), Ex (Runs (D + 2)) cd_X8_wasRainSeen (w, z, LAY t) 27 [u0, u1, u2, u3] [] s (LAY t))) (fun x o hx kc kq  => T_X8_wasRainSeen_b2 D t w z x1 x2 x s  o hx kc (fun e he => (kq _ (by rw [he])).1 e rfl) (fun e he => (kq _ (by rw [he])).2 e rfl)) mFU v e h ⟨ke0, ke1⟩
set_option maxRecDepth 20000 in
theorem T_X8_wasRainSeen (D : Nat) (t : mTX) (x1 : Int32) (x2 : Int32) (s : mSG) (o : Bool) (h : X8_wasRainSeen x1 x2 s = some o) : Runs (D + 3) 122 [.ref 6, .int x1, .int x2] s (LAY t) (some (.int (b2i o)), s, LAY t) := by
  refine Runs_mk (d := D + 2) rfl ?_
  show Ex (Runs (D + 2)) cd_X8_wasRainSeen (some (.int (b2i o)), s, LAY t) 0 [some (.ref 6), some (.int x1), some (.int x2), none] [] s (LAY t)
  unfold X8_wasRainSeen at h
  refine Ex_sti 2 (fun _ => rfl) ?_
  obtain ⟨e2, hl, h⟩ := m_bind h
  refine T_X8_wasRainSeen_l2 D t (some (.int (b2i o))) s x1 x2 s 0 _ hl (fun y0 hy0 => ?_) (fun y1 hy1 => ?_) 
  · obtain ⟨e2_0, rfl⟩ : ∃ q, q = y0 := ⟨_, rfl⟩
    subst hy0
    simp only [Sum.elim_inl, Sum.elim_inr] at h
    intro vu0 vu1 vu2 vu3
    obtain rfl := Option.some.inj h
    exact Ex_retZ 2 (fun _ => rfl) (Or.inr rfl) rfl
  · obtain ⟨e2_1, rfl⟩ : ∃ q, q = y1 := ⟨_, rfl⟩
    subst hy1
    simp only [Sum.elim_inl, Sum.elim_inr] at h
    intro vu0 vu1 vu2 vu3
    obtain rfl := Option.some.inj h
    exact Ex_retZ 2 (fun _ => rfl) (Or.inl rfl) rfl

set_option maxRecDepth 20000 in
theorem T_X8_out_j120_38 (D : Nat) (t : mTX) (w : Option Value) (z : mSG) (x1 : Int32) (x2 : Int32) (x3 : Int32) (x4 : Int32) (x5 : Int32) (x6 : Int32) (s : mSG) (u7 u8 : Option Value) (o : (Int32 × Int32 × Int32 × mSG) ⊕ Int32 × Int32 × mSG) (h : X8_out_j120_38 t x1 x2 x3 x4 x5 x6 s = some o) (kc : ∀ y : Int32 × Int32 × Int32 × mSG, o = .inl y → ∀ (u7 u8 : Option Value), Ex (Runs (D + 7)) cd_X8_out (w, z, LAY t) 38 [some (.ref 6), some (.int x1), some (.int x2), some (.int x3), some (.int y.1), some (.int y.2.1), some (.int y.2.2.1), u7, u8] [] y.2.2.2 (LAY t)) (ke0 : ∀ y : Int32 × Int32 × mSG, o = .inr y → ∀ (u0 u1 u2 u6 u7 u8 : Option Value), Ex (Runs (D + 7)) cd_X8_out (w, z, LAY t) 126 [u0, u1, u2, some (.int x3), some (.int y.1), some (.int y.2.1), u6, u7, u8] [] y.2.2 (LAY t)) : Ex (Runs (D + 7)) cd_X8_out (w, z, LAY t) 120 [some (.ref 6), some (.int x1), some (.int x2), some (.int x3), some (.int x4), some (.int x5), some (.int x6), u7, u8] [] s (LAY t) := by
  unfold X8_out_j120_38 at h
  refine Ex_sti 2 (fun _ => rfl) ?_
  obtain rfl := Option.some.inj h
  exact kc _ rfl _ _

set_option maxRecDepth 20000 in
theorem T_X8_out_j109_38 (D : Nat) (t : mTX) (w : Option Value) (z : mSG) (x1 : Int32) (x2 : Int32) (x3 : Int32) (x6 : Int32) (x8 : Int32) (s : mSG) (u4 u5 u7 : Option Value) (o : (Int32 × Int32 × Int32 × mSG) ⊕ Int32 × Int32 × mSG) (h : X8_out_j109_38 t x1 x2 x3 x6 x8 s = some o) (kc : ∀ y : Int32 × Int32 × Int32 × mSG, o = .inl y → ∀ (u7 u8 : Option Value), Ex (Runs (D + 7)) cd_X8_out (w, z, LAY t) 38 [some (.ref 6), some (.int x1), some (.int x2), some (.int x3), some (.int y.1), some (.int y.2.1), some (.int y.2.2.1), u7, u8] [] y.2.2.2 (LAY t)) (ke0 : ∀ y : Int32 × Int32 × mSG, o = .inr y → ∀ (u0 u1 u2 u6 u7 u8 : Option Value), Ex (Runs (D + 7)) cd_X8_out (w, z, LAY t) 126 [u0, u1, u2, some (.int x3), some (.int y.1), some (.int y.2.1), u6, u7, u8] [] y.2.2 (LAY t)) : Ex (Runs (D + 7)) cd_X8_out (w, z, LAY t) 109 [some (.ref 6), some (.int x1), some (.int x2), some (.int x3), u4, u5, some (.int x6), u7, some (.int x8)] [] s (LAY t) := by
  unfold X8_out_j109_38 at h
  refine Ex_sti 6 (fun _ => rfl) ?_
  exact T_X8_out_j120_38 D t w z x1 x2 x3 x6 (x6 + x8) x6 s _ _ _ h kc ke0

set_option maxRecDepth 20000 in
theorem T_X8_out_b38 (D : Nat) (t : mTX) (w : Option Value) (z : mSG) (x1 : Int32) (x2 : Int32) (x3 : Int32) (x4 : Int32) (x5 : Int32) (x6 : Int32) (s : mSG) (u7 u8 : Option Value) (o : (Int32 × Int32 × Int32 × mSG) ⊕ Int32 × Int32 × mSG) (h : X8_out_b38 t x1 x2 x3 x4 x5 x6 s = some o) (kc : ∀ y : Int32 × Int32 × Int32 × mSG, o = .inl y → ∀ (u7 u8 : Option Value), Ex (Runs (D + 7)) cd_X8_out (w, z, LAY t) 38 [some (.ref 6), some (.int x1), some (.int x2), some (.int x3), some (.int y.1), some (.int y.2.1), some (.int y.2.2.1), u7, u8] [] y.2.2.2 (LAY t)) (ke0 : ∀ y : Int32 × Int32 × mSG, o = .inr y → ∀ (u0 u1 u2 u6 u7 u8 : Option Value), Ex (Runs (D + 7)) cd_X8_out (w, z, LAY t) 126 [u0, u1, u2, some (.int x3), some (.int y.1), some (.int y.2.1), u6, u7, u8] [] y.2.2 (LAY t)) : Ex (Runs (D + 7)) cd_X8_out (w, z, LAY t) 38 [some (.ref 6), some (.int x1), some (.int x2), some (.int x3), some (.int x4), some (.int x5), some (.int x6), u7, u8] [] s (LAY t) := by
  unfold X8_out_b38 at h
  refine Ex_br 3 (24 ≤ x6) (fun _ => rfl) (fun hc1 => ?_) (fun hc1 => ?_)
  · rw [if_pos hc1] at h
    obtain rfl := Option.some.inj h
    exact ke0 _ rfl _ _ _ _ _ _
  · rw [if_neg hc1] at h
    obtain ⟨r2, hr, h⟩ := m_bind h
    refine Ex_call 4 (fun _ => rfl) (T_X5_rainIn_7 (D + 5) t x6 s r2 hr) rfl rfl ?_
    obtain ⟨r3, hr, h⟩ := m_bind h
    refine Ex_call 5 (fun _ => rfl) (T_X8_wasRainSeen (D + 4) t r2 x6 s r3 hr) rfl rfl ?_
    refine Ex_brZ 1 (r3) (fun _ => rfl) (fun hc => ?_) (fun hc => ?_)
    · rw [if_neg (m_nt hc)] at h
      obtain ⟨r4, hr, h⟩ := m_bind h
      refine Ex_call 5 (fun _ => rfl) (T_X8_seek D t x1 x2 r2 s r4 hr) rfl rfl ?_
      refine Ex_call 3 (fun _ => rfl) (T_X3_hoursFound (D + 6) t  r4 _ rfl) rfl rfl ?_
      refine Ex_br 4 ((X3_hoursFound r4) = (-1)) (fun _ => rfl) (fun hc5 => ?_) (fun hc5 => ?_)
      · rw [if_pos hc5] at h
        exact T_X8_out_j120_38 D t w z x1 x2 x3 x4 x5 x6 r4 _ _ _ h kc ke0
      · rw [if_neg hc5] at h
        refine Ex_br 3 (x5 = (-1)) (fun _ => rfl) (fun hc6 => ?_) (fun hc6 => ?_)
        · rw [if_pos hc6] at h
          exact T_X8_out_j109_38 D t w z x1 x2 x3 x6 (X3_hoursFound r4) r4 _ _ _ _ h kc ke0
        · rw [if_neg hc6] at h
          refine Ex_br 5 (x5 ≤ (x6 + (X3_hoursFound r4))) (fun _ => rfl) (fun hc7 => ?_) (fun hc7 => ?_)
          · rw [if_pos hc7] at h
            exact T_X8_out_j120_38 D t w z x1 x2 x3 x4 x5 x6 r4 _ _ _ h kc ke0
          · rw [if_neg hc7] at h
            exact T_X8_out_j109_38 D t w z x1 x2 x3 x6 (X3_hoursFound r4) r4 _ _ _ _ h kc ke0
    · rw [if_pos hc] at h
      refine Ex_sti 1 (fun _ => rfl) ?_
      exact T_X8_out_j120_38 D t w z x1 x2 x3 x4 x5 x6 s _ _ _ h kc ke0

theorem T_X8_out_l38 (D : Nat) (t : mTX) (w : Option Value) (z : mSG) (x1 : Int32) (x2 : Int32) (x3 : Int32) (v : Int32 × Int32 × Int32 × mSG) (e : Int32 × Int32 × mSG) (h : X8_out_l38 t x1 x2 x3 v = some e) (ke0 : ∀ y : Int32 × Int32 × mSG, e = y → ∀ (u0 u1 u2 u6 u7 u8 : Option Value), Ex (Runs (D + 7)) cd_X8_out (w, z, LAY t) 126 [u0, u1, u2, some (.int x3), some (.int y.1), some (.int y.2.1), u6, u7, u8] [] y.2.2 (LAY t)) : ∀ (u7 u8 : Option Value), Ex (Runs (D + 7)) cd_X8_out (w, z, LAY t) 38 [some (.ref 6), some (.int x1), some (.int x2), some (.int x3), some (.int v.1), some (.int v.2.1), some (.int v.2.2.1), u7, u8] [] v.2.2.2 (LAY t) :=
  m_iter (P := fun v : Int32 × Int32 × Int32 × mSG => ∀ (u7 u8 : Option Value), Ex (Runs (D + 7)) cd_X8_out (w, z, LAY t) 38 [some (.ref 6), some (.int x1), some (.int x2), some (.int x3), some (.int v.1), some (.int v.2.1), some (.int v.2.2.1), u7, u8] [] v.2.2.2 (LAY t)) (Q := fun e : Int32 × Int32 × mSG => (∀ y : Int32 × Int32 × mSG, e = y → ∀ (u0 u1 u2 u6 u7 u8 : Option Value), Ex (Runs (D + 7)) cd_X8_out (w, z, LAY t) 126 [u0, u1, u2, some (.int x3), some (.int y.1), some (.int y.2.1), u6, u7, u8] [] y.2.2 (LAY t))) (fun x o hx kc kq u7 u8 => T_X8_out_b38 D t w z x1 x2 x3 x.1 x.2.1 x.2.2.1 x.2.2.2 u7 u8 o hx kc (fun e he => kq _ he e rfl)) mFU v e h ke0
set_option maxRecDepth 20000 in
theorem T_X8_out (D : Nat) (t : mTX) (x1 : Int32) (x2 : Int32) (x3 : Int32) (s : mSG) (o : Int32 × mSG) (h : X8_out t x1 x2 x3 s = some o) : Runs (D + 8) 95 [.ref 6, .int x1, .int x2, .int x3] s (LAY t) (some (.int o.1), o.2, LAY t) := by
  refine Runs_mk (d := D + 7) rfl ?_
  show Ex (Runs (D + 7)) cd_X8_out (some (.int o.1), o.2, LAY t) 0 [some (.ref 6), some (.int x1), some (.int x2), some (.int x3), none, none, none, none, none] [] s (LAY t)
  unfold X8_out at h
  refine Ex_call 4 (fun _ => rfl) (T_X5_isOne_7 (D + 5) t x1 s _ rfl) rfl rfl ?_
  refine Ex_brZ 1 (X5_isOne_7 x1 s) (fun _ => rfl) (fun hc => ?_) (fun hc => ?_)
  · rw [if_neg (m_nt hc)] at h
    obtain rfl := Option.some.inj h
    exact Ex_ret 2 (fun _ => rfl) rfl
  · rw [if_pos hc] at h
    refine Ex_call 2 (fun _ => rfl) (T_X8_isStone (D + 5) t x2 s _ rfl) rfl rfl ?_
    refine Ex_brZ 1 (X8_isStone x2) (fun _ => rfl) (fun hc => ?_) (fun hc => ?_)
    · rw [if_neg (m_nt hc)] at h
      obtain rfl := Option.some.inj h
      exact Ex_ret 2 (fun _ => rfl) rfl
    · rw [if_pos hc] at h
      refine Ex_call 3 (fun _ => rfl) (T_X8_isWithin (D + 6) t x3 1 s _ rfl) rfl rfl ?_
      refine Ex_brZ 1 (X8_isWithin x3 1) (fun _ => rfl) (fun hc => ?_) (fun hc => ?_)
      · rw [if_neg (m_nt hc)] at h
        obtain rfl := Option.some.inj h
        exact Ex_ret 2 (fun _ => rfl) rfl
      · rw [if_pos hc] at h
        refine Ex_sti 6 (fun _ => rfl) ?_
        obtain ⟨e38, hl, h⟩ := m_bind h
        refine T_X8_out_l38 D t (some (.int o.1)) o.2 x1 x2 x3  ((-1), (-1), 0, s) _ hl (fun y0 hy0 => ?_) _ _
        · obtain ⟨e38, rfl⟩ : ∃ q, q = y0 := ⟨_, rfl⟩
          subst hy0
          intro vu0 vu1 vu2 vu6 vu7 vu8
          refine Ex_br 2 (x3 = 0) (fun _ => rfl) (fun hc9 => ?_) (fun hc9 => ?_)
          · rw [if_pos hc9] at h
            obtain rfl := Option.some.inj h
            exact Ex_ret 3 (fun _ => rfl) rfl
          · rw [if_neg hc9] at h
            obtain rfl := Option.some.inj h
            exact Ex_ret 2 (fun _ => rfl) rfl

set_option maxRecDepth 20000 in
theorem T_J7_fill_43_b5 (D : Nat) (t : mTX) (w : Option Value) (z : mSG) (x1 : Int32) (x3 : Int32) (x2 : Int32) (s : mSG) (o : (Int32 × mSG) ⊕ mSG) (h : J7_fill_43_b5 x1 x3 x2 s = some o) (kc : ∀ y : Int32 × mSG, o = .inl y → Ex (Runs (D)) cd_J7_fill_53178 (w, z, LAY t) 5 [some (.ref 43), some (.int x1), some (.int y.1), some (.int x3)] [] y.2 (LAY t)) (ke0 : ∀ y : mSG, o = .inr y → ∀ (u0 u1 u2 u3 : Option Value), Ex (Runs (D)) cd_J7_fill_53178 (w, z, LAY t) 20 [u0, u1, u2, u3] [] y (LAY t)) : Ex (Runs (D)) cd_J7_fill_53178 (w, z, LAY t) 5 [some (.ref 43), some (.int x1), some (.int x2), some (.int x3)] [] s (LAY t) := by
  unfold J7_fill_43_b5 at h
  refine Ex_br 3 (x3 ≤ x2) (fun _ => rfl) (fun hc1 => ?_) (fun hc1 => ?_)
  · rw [if_pos hc1] at h
    obtain rfl := Option.some.inj h
    exact ke0 _ rfl _ _ _ _
  · rw [if_neg hc1] at h
    obtain ⟨hg2, h⟩ := m_ite h
    refine Ex_gd 4 (fun _ => rfl) hg2 ?_
    refine Ex_sti 2 (fun _ => rfl) ?_
    obtain rfl := Option.some.inj h
    exact kc _ rfl 

theorem T_J7_fill_43_l5 (D : Nat) (t : mTX) (w : Option Value) (z : mSG) (x1 : Int32) (x3 : Int32) (v : Int32 × mSG) (e : mSG) (h : J7_fill_43_l5 x1 x3 v = some e) (ke0 : ∀ y : mSG, e = y → ∀ (u0 u1 u2 u3 : Option Value), Ex (Runs (D)) cd_J7_fill_53178 (w, z, LAY t) 20 [u0, u1, u2, u3] [] y (LAY t)) : Ex (Runs (D)) cd_J7_fill_53178 (w, z, LAY t) 5 [some (.ref 43), some (.int x1), some (.int v.1), some (.int x3)] [] v.2 (LAY t) :=
  m_iter (P := fun v : Int32 × mSG => Ex (Runs (D)) cd_J7_fill_53178 (w, z, LAY t) 5 [some (.ref 43), some (.int x1), some (.int v.1), some (.int x3)] [] v.2 (LAY t)) (Q := fun e : mSG => (∀ y : mSG, e = y → ∀ (u0 u1 u2 u3 : Option Value), Ex (Runs (D)) cd_J7_fill_53178 (w, z, LAY t) 20 [u0, u1, u2, u3] [] y (LAY t))) (fun x o hx kc kq  => T_J7_fill_43_b5 D t w z x1 x3 x.1 x.2  o hx kc (fun e he => kq _ he e rfl)) mFU v e h ke0
set_option maxRecDepth 20000 in
theorem T_J7_fill_43 (D : Nat) (t : mTX) (x1 : Int32) (s : mSG) (o : mSG) (h : J7_fill_43 x1 s = some o) : Runs (D + 1) 237 [.ref 43, .int x1] s (LAY t) (none, o, LAY t) := by
  refine Runs_mk (d := D) rfl ?_
  show Ex (Runs (D)) cd_J7_fill_53178 (none, o, LAY t) 0 [some (.ref 43), some (.int x1), none, none] [] s (LAY t)
  unfold J7_fill_43 at h
  refine Ex_sti 5 (fun _ => rfl) ?_
  obtain ⟨e5, hl, h⟩ := m_bind h
  refine T_J7_fill_43_l5 D t none o x1 (Int32.ofNat 64)  (0, s) _ hl (fun y0 hy0 => ?_) 
  · obtain ⟨e5, rfl⟩ : ∃ q, q = y0 := ⟨_, rfl⟩
    subst hy0
    intro vu0 vu1 vu2 vu3
    obtain rfl := Option.some.inj h
    exact Ex_ret 1 (fun _ => rfl) rfl

set_option maxRecDepth 20000 in
theorem T_J7_fill_44_b5 (D : Nat) (t : mTX) (w : Option Value) (z : mSG) (x1 : Int32) (x3 : Int32) (x2 : Int32) (s : mSG) (o : (Int32 × mSG) ⊕ mSG) (h : J7_fill_44_b5 x1 x3 x2 s = some o) (kc : ∀ y : Int32 × mSG, o = .inl y → Ex (Runs (D)) cd_J7_fill_53178 (w, z, LAY t) 5 [some (.ref 44), some (.int x1), some (.int y.1), some (.int x3)] [] y.2 (LAY t)) (ke0 : ∀ y : mSG, o = .inr y → ∀ (u0 u1 u2 u3 : Option Value), Ex (Runs (D)) cd_J7_fill_53178 (w, z, LAY t) 20 [u0, u1, u2, u3] [] y (LAY t)) : Ex (Runs (D)) cd_J7_fill_53178 (w, z, LAY t) 5 [some (.ref 44), some (.int x1), some (.int x2), some (.int x3)] [] s (LAY t) := by
  unfold J7_fill_44_b5 at h
  refine Ex_br 3 (x3 ≤ x2) (fun _ => rfl) (fun hc1 => ?_) (fun hc1 => ?_)
  · rw [if_pos hc1] at h
    obtain rfl := Option.some.inj h
    exact ke0 _ rfl _ _ _ _
  · rw [if_neg hc1] at h
    obtain ⟨hg2, h⟩ := m_ite h
    refine Ex_gd 4 (fun _ => rfl) hg2 ?_
    refine Ex_sti 2 (fun _ => rfl) ?_
    obtain rfl := Option.some.inj h
    exact kc _ rfl 

theorem T_J7_fill_44_l5 (D : Nat) (t : mTX) (w : Option Value) (z : mSG) (x1 : Int32) (x3 : Int32) (v : Int32 × mSG) (e : mSG) (h : J7_fill_44_l5 x1 x3 v = some e) (ke0 : ∀ y : mSG, e = y → ∀ (u0 u1 u2 u3 : Option Value), Ex (Runs (D)) cd_J7_fill_53178 (w, z, LAY t) 20 [u0, u1, u2, u3] [] y (LAY t)) : Ex (Runs (D)) cd_J7_fill_53178 (w, z, LAY t) 5 [some (.ref 44), some (.int x1), some (.int v.1), some (.int x3)] [] v.2 (LAY t) :=
  m_iter (P := fun v : Int32 × mSG => Ex (Runs (D)) cd_J7_fill_53178 (w, z, LAY t) 5 [some (.ref 44), some (.int x1), some (.int v.1), some (.int x3)] [] v.2 (LAY t)) (Q := fun e : mSG => (∀ y : mSG, e = y → ∀ (u0 u1 u2 u3 : Option Value), Ex (Runs (D)) cd_J7_fill_53178 (w, z, LAY t) 20 [u0, u1, u2, u3] [] y (LAY t))) (fun x o hx kc kq  => T_J7_fill_44_b5 D t w z x1 x3 x.1 x.2  o hx kc (fun e he => kq _ he e rfl)) mFU v e h ke0
set_option maxRecDepth 20000 in
theorem T_J7_fill_44 (D : Nat) (t : mTX) (x1 : Int32) (s : mSG) (o : mSG) (h : J7_fill_44 x1 s = some o) : Runs (D + 1) 237 [.ref 44, .int x1] s (LAY t) (none, o, LAY t) := by
  refine Runs_mk (d := D) rfl ?_
  show Ex (Runs (D)) cd_J7_fill_53178 (none, o, LAY t) 0 [some (.ref 44), some (.int x1), none, none] [] s (LAY t)
  unfold J7_fill_44 at h
  refine Ex_sti 5 (fun _ => rfl) ?_
  obtain ⟨e5, hl, h⟩ := m_bind h
  refine T_J7_fill_44_l5 D t none o x1 (Int32.ofNat 64)  (0, s) _ hl (fun y0 hy0 => ?_) 
  · obtain ⟨e5, rfl⟩ : ∃ q, q = y0 := ⟨_, rfl⟩
    subst hy0
    intro vu0 vu1 vu2 vu3
    obtain rfl := Option.some.inj h
    exact Ex_ret 1 (fun _ => rfl) rfl

set_option maxRecDepth 20000 in
theorem T_X3_clearRoads (D : Nat) (t : mTX) (s : mSG) (o : mSG) (h : X3_clearRoads s = some o) : Runs (D + 2) 41 [.ref 34] s (LAY t) (none, o, LAY t) := by
  refine Runs_mk (d := D + 1) rfl ?_
  show Ex (Runs (D + 1)) cd_X3_clearRoads (none, o, LAY t) 0 [some (.ref 34)] [] s (LAY t)
  unfold X3_clearRoads at h
  obtain ⟨r1, hr, h⟩ := m_bind h
  refine Ex_call 4 (fun _ => rfl) (T_J7_fill_43 D t 0 s r1 hr) rfl rfl ?_
  obtain ⟨r2, hr, h⟩ := m_bind h
  refine Ex_call 4 (fun _ => rfl) (T_J7_fill_44 D t 0 r1 r2 hr) rfl rfl ?_
  obtain rfl := Option.some.inj h
  exact Ex_ret 1 (fun _ => rfl) rfl

set_option maxRecDepth 20000 in
theorem T_X3_tryRoads_28_7_j94_20 (D : Nat) (t : mTX) (w : Option Value) (z : mSG) (x3 : Int32) (x4 : Int32) (x5 : Int32) (x6 : Int32) (s : mSG) (o : (Int32 × mSG) ⊕ mSG) (h : X3_tryRoads_28_7_j94_20 t x3 x4 x5 x6 s = some o) (kc : ∀ y : Int32 × mSG, o = .inl y → Ex (Runs (D + 6)) cd_X3_tryRoads (w, z, LAY t) 20 [some (.ref 34), some (.ref 28), some (.ref 7), some (.int x3), some (.int x4), some (.int x5), some (.int y.1)] [] y.2 (LAY t)) (ke0 : ∀ y : mSG, o = .inr y → ∀ (u6 : Option Value), Ex (Runs (D + 6)) cd_X3_tryRoads (w, z, LAY t) 100 [some (.ref 34), some (.ref 28), some (.ref 7), some (.int x3), some (.int x4), some (.int x5), u6] [] y (LAY t)) : Ex (Runs (D + 6)) cd_X3_tryRoads (w, z, LAY t) 94 [some (.ref 34), some (.ref 28), some (.ref 7), some (.int x3), some (.int x4), some (.int x5), some (.int x6)] [] s (LAY t) := by
  unfold X3_tryRoads_28_7_j94_20 at h
  refine Ex_sti 2 (fun _ => rfl) ?_
  obtain rfl := Option.some.inj h
  exact kc _ rfl 

set_option maxRecDepth 20000 in
theorem T_X3_tryRoads_28_7_b20 (D : Nat) (t : mTX) (w : Option Value) (z : mSG) (x3 : Int32) (x4 : Int32) (x5 : Int32) (x6 : Int32) (s : mSG) (o : (Int32 × mSG) ⊕ mSG) (h : X3_tryRoads_28_7_b20 t x3 x4 x5 x6 s = some o) (kc : ∀ y : Int32 × mSG, o = .inl y → Ex (Runs (D + 6)) cd_X3_tryRoads (w, z, LAY t) 20 [some (.ref 34), some (.ref 28), some (.ref 7), some (.int x3), some (.int x4), some (.int x5), some (.int y.1)] [] y.2 (LAY t)) (ke0 : ∀ y : mSG, o = .inr y → ∀ (u6 : Option Value), Ex (Runs (D + 6)) cd_X3_tryRoads (w, z, LAY t) 100 [some (.ref 34), some (.ref 28), some (.ref 7), some (.int x3), some (.int x4), some (.int x5), u6] [] y (LAY t)) : Ex (Runs (D + 6)) cd_X3_tryRoads (w, z, LAY t) 20 [some (.ref 34), some (.ref 28), some (.ref 7), some (.int x3), some (.int x4), some (.int x5), some (.int x6)] [] s (LAY t) := by
  unfold X3_tryRoads_28_7_b20 at h
  refine Ex_br 3 (8 ≤ x6) (fun _ => rfl) (fun hc3 => ?_) (fun hc3 => ?_)
  · rw [if_pos hc3] at h
    obtain rfl := Option.some.inj h
    exact ke0 _ rfl _
  · rw [if_neg hc3] at h
    obtain ⟨r4, hr, h⟩ := m_bind h
    refine Ex_call 12 (fun _ => rfl) (T_X3_seek_28_7 D t x3 x4 (sI (sI s 34 8 x5) 34 9 x6) r4 hr) rfl rfl ?_
    refine Ex_br 4 (1000000 ≤ (r4.1 34 10)) (fun _ => rfl) (fun hc5 => ?_) (fun hc5 => ?_)
    · rw [if_pos hc5] at h
      exact T_X3_tryRoads_28_7_j94_20 D t w z x3 x4 x5 x6 r4  _ h kc ke0
    · rw [if_neg hc5] at h
      obtain ⟨hg6, h⟩ := m_ite h
      refine Ex_gd 9 (fun _ => rfl) hg6 ?_
      refine Ex_gd 3 (fun _ => rfl) hg6 ?_
      refine Ex_gd 9 (fun _ => rfl) hg6 ?_
      refine Ex_gd 4 (fun _ => rfl) hg6 ?_
      exact T_X3_tryRoads_28_7_j94_20 D t w z x3 x4 x5 x6 (sI (sI r4 43 ((x5 * 8) + x6).toNatClampNeg ((r4.1 43 ((x5 * 8) + x6).toNatClampNeg) + 1)) 44 ((x5 * 8) + x6).toNatClampNeg ((r4.1 44 ((x5 * 8) + x6).toNatClampNeg) + (r4.1 34 10)))  _ h kc ke0

theorem T_X3_tryRoads_28_7_l20 (D : Nat) (t : mTX) (w : Option Value) (z : mSG) (x3 : Int32) (x4 : Int32) (x5 : Int32) (v : Int32 × mSG) (e : mSG) (h : X3_tryRoads_28_7_l20 t x3 x4 x5 v = some e) (ke0 : ∀ y : mSG, e = y → ∀ (u6 : Option Value), Ex (Runs (D + 6)) cd_X3_tryRoads (w, z, LAY t) 100 [some (.ref 34), some (.ref 28), some (.ref 7), some (.int x3), some (.int x4), some (.int x5), u6] [] y (LAY t)) : Ex (Runs (D + 6)) cd_X3_tryRoads (w, z, LAY t) 20 [some (.ref 34), some (.ref 28), some (.ref 7), some (.int x3), some (.int x4), some (.int x5), some (.int v.1)] [] v.2 (LAY t) :=
  m_iter (P := fun v : Int32 × mSG => Ex (Runs (D + 6)) cd_X3_tryRoads (w, z, LAY t) 20 [some (.ref 34), some (.ref 28), some (.ref 7), some (.int x3), some (.int x4), some (.int x5), some (.int v.1)] [] v.2 (LAY t)) (Q := fun e : mSG => (∀ y : mSG, e = y → ∀ (u6 : Option Value), Ex (Runs (D + 6)) cd_X3_tryRoads (w, z, LAY t) 100 [some (.ref 34), some (.ref 28), some (.ref 7), some (.int x3), some (.int x4), some (.int x5), u6] [] y (LAY t))) (fun x o hx kc kq  => T_X3_tryRoads_28_7_b20 D t w z x3 x4 x5 x.1 x.2  o hx kc (fun e he => kq _ he e rfl)) mFU v e h ke0
set_option maxRecDepth 20000 in
theorem T_X3_tryRoads_28_7_b7 (D : Nat) (t : mTX) (w : Option Value) (z : mSG) (x3 : Int32) (x4 : Int32) (x5 : Int32) (s : mSG) (u6 : Option Value) (o : (Int32 × mSG) ⊕ mSG) (h : X3_tryRoads_28_7_b7 t x3 x4 x5 s = some o) (kc : ∀ y : Int32 × mSG, o = .inl y → ∀ (u6 : Option Value), Ex (Runs (D + 6)) cd_X3_tryRoads (w, z, LAY t) 7 [some (.ref 34), some (.ref 28), some (.ref 7), some (.int x3), some (.int x4), some (.int y.1), u6] [] y.2 (LAY t)) (ke0 : ∀ y : mSG, o = .inr y → ∀ (u1 u2 u3 u4 u5 u6 : Option Value), Ex (Runs (D + 6)) cd_X3_tryRoads (w, z, LAY t) 106 [some (.ref 34), u1, u2, u3, u4, u5, u6] [] y (LAY t)) : Ex (Runs (D + 6)) cd_X3_tryRoads (w, z, LAY t) 7 [some (.ref 34), some (.ref 28), some (.ref 7), some (.int x3), some (.int x4), some (.int x5), u6] [] s (LAY t) := by
  unfold X3_tryRoads_28_7_b7 at h
  refine Ex_br 3 (8 ≤ x5) (fun _ => rfl) (fun hc2 => ?_) (fun hc2 => ?_)
  · rw [if_pos hc2] at h
    obtain rfl := Option.some.inj h
    exact ke0 _ rfl _ _ _ _ _ _
  · rw [if_neg hc2] at h
    refine Ex_sti 4 (fun _ => rfl) ?_
    obtain ⟨e20, hl, h⟩ := m_bind h
    refine T_X3_tryRoads_28_7_l20 D t w z x3 x4 x5  (x5 + 1, s) _ hl (fun y0 hy0 => ?_) 
    · obtain ⟨e20, rfl⟩ : ∃ q, q = y0 := ⟨_, rfl⟩
      subst hy0
      intro vu6
      refine Ex_sti 2 (fun _ => rfl) ?_
      obtain rfl := Option.some.inj h
      exact kc _ rfl _

theorem T_X3_tryRoads_28_7_l7 (D : Nat) (t : mTX) (w : Option Value) (z : mSG) (x3 : Int32) (x4 : Int32) (v : Int32 × mSG) (e : mSG) (h : X3_tryRoads_28_7_l7 t x3 x4 v = some e) (ke0 : ∀ y : mSG, e = y → ∀ (u1 u2 u3 u4 u5 u6 : Option Value), Ex (Runs (D + 6)) cd_X3_tryRoads (w, z, LAY t) 106 [some (.ref 34), u1, u2, u3, u4, u5, u6] [] y (LAY t)) : ∀ (u6 : Option Value), Ex (Runs (D + 6)) cd_X3_tryRoads (w, z, LAY t) 7 [some (.ref 34), some (.ref 28), some (.ref 7), some (.int x3), some (.int x4), some (.int v.1), u6] [] v.2 (LAY t) :=
  m_iter (P := fun v : Int32 × mSG => ∀ (u6 : Option Value), Ex (Runs (D + 6)) cd_X3_tryRoads (w, z, LAY t) 7 [some (.ref 34), some (.ref 28), some (.ref 7), some (.int x3), some (.int x4), some (.int v.1), u6] [] v.2 (LAY t)) (Q := fun e : mSG => (∀ y : mSG, e = y → ∀ (u1 u2 u3 u4 u5 u6 : Option Value), Ex (Runs (D + 6)) cd_X3_tryRoads (w, z, LAY t) 106 [some (.ref 34), u1, u2, u3, u4, u5, u6] [] y (LAY t))) (fun x o hx kc kq u6 => T_X3_tryRoads_28_7_b7 D t w z x3 x4 x.1 x.2 u6 o hx kc (fun e he => kq _ he e rfl)) mFU v e h ke0
set_option maxRecDepth 20000 in
theorem T_X3_tryRoads_28_7 (D : Nat) (t : mTX) (x3 : Int32) (x4 : Int32) (s : mSG) (o : mSG) (h : X3_tryRoads_28_7 t x3 x4 s = some o) : Runs (D + 7) 42 [.ref 34, .ref 28, .ref 7, .int x3, .int x4] s (LAY t) (none, o, LAY t) := by
  refine Runs_mk (d := D + 6) rfl ?_
  show Ex (Runs (D + 6)) cd_X3_tryRoads (none, o, LAY t) 0 [some (.ref 34), some (.ref 28), some (.ref 7), some (.int x3), some (.int x4), none, none] [] s (LAY t)
  unfold X3_tryRoads_28_7 at h
  obtain ⟨r1, hr, h⟩ := m_bind h
  refine Ex_call 2 (fun _ => rfl) (T_X3_forget (D + 4) t  s r1 hr) rfl rfl ?_
  refine Ex_sti 2 (fun _ => rfl) ?_
  obtain ⟨e7, hl, h⟩ := m_bind h
  refine T_X3_tryRoads_28_7_l7 D t none o x3 x4  (0, r1) _ hl (fun y0 hy0 => ?_) _
  · obtain ⟨e7, rfl⟩ : ∃ q, q = y0 := ⟨_, rfl⟩
    subst hy0
    intro vu1 vu2 vu3 vu4 vu5 vu6
    obtain rfl := Option.some.inj h
    exact Ex_ret 7 (fun _ => rfl) rfl

set_option maxRecDepth 20000 in
theorem T_X3_bestRoad_j79_14 (D : Nat) (t : mTX) (w : Option Value) (z : mSG) (x1 : Int32) (x2 : Int32) (x3 : Int32) (s : mSG) (u4 : Option Value) (o : (Int32 × Int32) ⊕ Int32) (h : X3_bestRoad_j79_14 x1 x2 x3 s = some o) (kc : ∀ y : Int32 × Int32, o = .inl y → ∀ (u4 : Option Value), Ex (Runs (D)) cd_X3_bestRoad (w, z, LAY t) 14 [some (.ref 34), some (.int y.1), some (.int x2), some (.int y.2), u4] [] s (LAY t)) (ke0 : ∀ y : Int32, o = .inr y → ∀ (u3 u4 : Option Value), Ex (Runs (D)) cd_X3_bestRoad (w, z, LAY t) 85 [some (.ref 34), some (.int y), some (.int x2), u3, u4] [] s (LAY t)) : Ex (Runs (D)) cd_X3_bestRoad (w, z, LAY t) 79 [some (.ref 34), some (.int x1), some (.int x2), some (.int x3), u4] [] s (LAY t) := by
  unfold X3_bestRoad_j79_14 at h
  refine Ex_sti 2 (fun _ => rfl) ?_
  obtain rfl := Option.some.inj h
  exact kc _ rfl _

set_option maxRecDepth 20000 in
theorem T_X3_bestRoad_j76_14 (D : Nat) (t : mTX) (w : Option Value) (z : mSG) (x2 : Int32) (x3 : Int32) (x4 : Int32) (s : mSG) (u1 : Option Value) (o : (Int32 × Int32) ⊕ Int32) (h : X3_bestRoad_j76_14 x2 x3 x4 s = some o) (kc : ∀ y : Int32 × Int32, o = .inl y → ∀ (u4 : Option Value), Ex (Runs (D)) cd_X3_bestRoad (w, z, LAY t) 14 [some (.ref 34), some (.int y.1), some (.int x2), some (.int y.2), u4] [] s (LAY t)) (ke0 : ∀ y : Int32, o = .inr y → ∀ (u3 u4 : Option Value), Ex (Runs (D)) cd_X3_bestRoad (w, z, LAY t) 85 [some (.ref 34), some (.int y), some (.int x2), u3, u4] [] s (LAY t)) : Ex (Runs (D)) cd_X3_bestRoad (w, z, LAY t) 76 [some (.ref 34), u1, some (.int x2), some (.int x3), some (.int x4)] [] s (LAY t) := by
  unfold X3_bestRoad_j76_14 at h
  refine Ex_sti 2 (fun _ => rfl) ?_
  exact T_X3_bestRoad_j79_14 D t w z x4 x2 x3 s _ _ h kc ke0

set_option maxRecDepth 20000 in
theorem T_X3_bestRoad_b14 (D : Nat) (t : mTX) (w : Option Value) (z : mSG) (x2 : Int32) (x1 : Int32) (x3 : Int32) (s : mSG) (u4 : Option Value) (o : (Int32 × Int32) ⊕ Int32) (h : X3_bestRoad_b14 x2 x1 x3 s = some o) (kc : ∀ y : Int32 × Int32, o = .inl y → ∀ (u4 : Option Value), Ex (Runs (D)) cd_X3_bestRoad (w, z, LAY t) 14 [some (.ref 34), some (.int y.1), some (.int x2), some (.int y.2), u4] [] s (LAY t)) (ke0 : ∀ y : Int32, o = .inr y → ∀ (u3 u4 : Option Value), Ex (Runs (D)) cd_X3_bestRoad (w, z, LAY t) 85 [some (.ref 34), some (.int y), some (.int x2), u3, u4] [] s (LAY t)) : Ex (Runs (D)) cd_X3_bestRoad (w, z, LAY t) 14 [some (.ref 34), some (.int x1), some (.int x2), some (.int x3), u4] [] s (LAY t) := by
  unfold X3_bestRoad_b14 at h
  refine Ex_br 3 (8 ≤ x3) (fun _ => rfl) (fun hc2 => ?_) (fun hc2 => ?_)
  · rw [if_pos hc2] at h
    obtain rfl := Option.some.inj h
    exact ke0 _ rfl _ _
  · rw [if_neg hc2] at h
    obtain ⟨hg3, h⟩ := m_ite h
    refine Ex_gd 10 (fun _ => rfl) hg3 ?_
    obtain ⟨hg4, h⟩ := m_ite h
    refine Ex_gd 4 (fun _ => rfl) hg4 ?_
    refine Ex_br 1 ((s.1 43 x1.toNatClampNeg) < (s.1 43 ((x2 * 8) + x3).toNatClampNeg)) (fun _ => rfl) (fun hc5 => ?_) (fun hc5 => ?_)
    · rw [if_pos hc5] at h
      exact T_X3_bestRoad_j76_14 D t w z x2 x3 ((x2 * 8) + x3) s _ _ h kc ke0
    · rw [if_neg hc5] at h
      refine Ex_gd 4 (fun _ => rfl) hg3 ?_
      refine Ex_gd 4 (fun _ => rfl) hg4 ?_
      refine Ex_br 1 ((s.1 43 ((x2 * 8) + x3).toNatClampNeg) = (s.1 43 x1.toNatClampNeg)) (fun _ => rfl) (fun hc6 => ?_) (fun hc6 => ?_)
      · rw [if_pos hc6] at h
        refine Ex_gd 4 (fun _ => rfl) hg3 ?_
        refine Ex_gd 4 (fun _ => rfl) hg4 ?_
        refine Ex_br 1 ((s.1 44 x1.toNatClampNeg) ≤ (s.1 44 ((x2 * 8) + x3).toNatClampNeg)) (fun _ => rfl) (fun hc7 => ?_) (fun hc7 => ?_)
        · rw [if_pos hc7] at h
          exact T_X3_bestRoad_j79_14 D t w z x1 x2 x3 s _ _ h kc ke0
        · rw [if_neg hc7] at h
          exact T_X3_bestRoad_j76_14 D t w z x2 x3 ((x2 * 8) + x3) s _ _ h kc ke0
      · rw [if_neg hc6] at h
        exact T_X3_bestRoad_j79_14 D t w z x1 x2 x3 s _ _ h kc ke0

theorem T_X3_bestRoad_l14 (D : Nat) (t : mTX) (w : Option Value) (z : mSG) (x2 : Int32) (s : mSG) (v : Int32 × Int32) (e : Int32) (h : X3_bestRoad_l14 x2 s v = some e) (ke0 : ∀ y : Int32, e = y → ∀ (u3 u4 : Option Value), Ex (Runs (D)) cd_X3_bestRoad (w, z, LAY t) 85 [some (.ref 34), some (.int y), some (.int x2), u3, u4] [] s (LAY t)) : ∀ (u4 : Option Value), Ex (Runs (D)) cd_X3_bestRoad (w, z, LAY t) 14 [some (.ref 34), some (.int v.1), some (.int x2), some (.int v.2), u4] [] s (LAY t) :=
  m_iter (P := fun v : Int32 × Int32 => ∀ (u4 : Option Value), Ex (Runs (D)) cd_X3_bestRoad (w, z, LAY t) 14 [some (.ref 34), some (.int v.1), some (.int x2), some (.int v.2), u4] [] s (LAY t)) (Q := fun e : Int32 => (∀ y : Int32, e = y → ∀ (u3 u4 : Option Value), Ex (Runs (D)) cd_X3_bestRoad (w, z, LAY t) 85 [some (.ref 34), some (.int y), some (.int x2), u3, u4] [] s (LAY t))) (fun x o hx kc kq u4 => T_X3_bestRoad_b14 D t w z x2 x.1 x.2 s u4 o hx kc (fun e he => kq _ he e rfl)) mFU v e h ke0
set_option maxRecDepth 20000 in
theorem T_X3_bestRoad_b4 (D : Nat) (t : mTX) (w : Option Value) (z : mSG) (x1 : Int32) (x2 : Int32) (s : mSG) (u3 u4 : Option Value) (o : (Int32 × Int32) ⊕ Int32) (h : X3_bestRoad_b4 x1 x2 s = some o) (kc : ∀ y : Int32 × Int32, o = .inl y → ∀ (u3 u4 : Option Value), Ex (Runs (D)) cd_X3_bestRoad (w, z, LAY t) 4 [some (.ref 34), some (.int y.1), some (.int y.2), u3, u4] [] s (LAY t)) (ke0 : ∀ y : Int32, o = .inr y → ∀ (u0 u2 u3 u4 : Option Value), Ex (Runs (D)) cd_X3_bestRoad (w, z, LAY t) 91 [u0, some (.int y), u2, u3, u4] [] s (LAY t)) : Ex (Runs (D)) cd_X3_bestRoad (w, z, LAY t) 4 [some (.ref 34), some (.int x1), some (.int x2), u3, u4] [] s (LAY t) := by
  unfold X3_bestRoad_b4 at h
  refine Ex_br 3 (8 ≤ x2) (fun _ => rfl) (fun hc1 => ?_) (fun hc1 => ?_)
  · rw [if_pos hc1] at h
    obtain rfl := Option.some.inj h
    exact ke0 _ rfl _ _ _ _
  · rw [if_neg hc1] at h
    refine Ex_sti 4 (fun _ => rfl) ?_
    obtain ⟨e14, hl, h⟩ := m_bind h
    refine T_X3_bestRoad_l14 D t w z x2 s (x1, x2 + 1) _ hl (fun y0 hy0 => ?_) _
    · obtain ⟨e14, rfl⟩ : ∃ q, q = y0 := ⟨_, rfl⟩
      subst hy0
      intro vu3 vu4
      refine Ex_sti 2 (fun _ => rfl) ?_
      obtain rfl := Option.some.inj h
      exact kc _ rfl _ _

theorem T_X3_bestRoad_l4 (D : Nat) (t : mTX) (w : Option Value) (z : mSG) (s : mSG) (v : Int32 × Int32) (e : Int32) (h : X3_bestRoad_l4 s v = some e) (ke0 : ∀ y : Int32, e = y → ∀ (u0 u2 u3 u4 : Option Value), Ex (Runs (D)) cd_X3_bestRoad (w, z, LAY t) 91 [u0, some (.int y), u2, u3, u4] [] s (LAY t)) : ∀ (u3 u4 : Option Value), Ex (Runs (D)) cd_X3_bestRoad (w, z, LAY t) 4 [some (.ref 34), some (.int v.1), some (.int v.2), u3, u4] [] s (LAY t) :=
  m_iter (P := fun v : Int32 × Int32 => ∀ (u3 u4 : Option Value), Ex (Runs (D)) cd_X3_bestRoad (w, z, LAY t) 4 [some (.ref 34), some (.int v.1), some (.int v.2), u3, u4] [] s (LAY t)) (Q := fun e : Int32 => (∀ y : Int32, e = y → ∀ (u0 u2 u3 u4 : Option Value), Ex (Runs (D)) cd_X3_bestRoad (w, z, LAY t) 91 [u0, some (.int y), u2, u3, u4] [] s (LAY t))) (fun x o hx kc kq u3 u4 => T_X3_bestRoad_b4 D t w z  x.1 x.2 s u3 u4 o hx kc (fun e he => kq _ he e rfl)) mFU v e h ke0
set_option maxRecDepth 20000 in
theorem T_X3_bestRoad (D : Nat) (t : mTX) (s : mSG) (o : Int32) (h : X3_bestRoad s = some o) : Runs (D + 1) 43 [.ref 34] s (LAY t) (some (.int o), s, LAY t) := by
  refine Runs_mk (d := D) rfl ?_
  show Ex (Runs (D)) cd_X3_bestRoad (some (.int o), s, LAY t) 0 [some (.ref 34), none, none, none, none] [] s (LAY t)
  unfold X3_bestRoad at h
  refine Ex_sti 4 (fun _ => rfl) ?_
  obtain ⟨e4, hl, h⟩ := m_bind h
  refine T_X3_bestRoad_l4 D t (some (.int o)) s  s (1, 0) _ hl (fun y0 hy0 => ?_) _ _
  · obtain ⟨e4, rfl⟩ : ∃ q, q = y0 := ⟨_, rfl⟩
    subst hy0
    intro vu0 vu2 vu3 vu4
    obtain rfl := Option.some.inj h
    exact Ex_ret 2 (fun _ => rfl) rfl

set_option maxRecDepth 20000 in
theorem T_X3_comersBy (D : Nat) (t : mTX) (x1 : Int32) (s : mSG) (o : Int32) (h : X3_comersBy x1 s = some o) : Runs (D + 2) 44 [.ref 34, .int x1] s (LAY t) (some (.int o), s, LAY t) := by
  refine Runs_mk (d := D + 1) rfl ?_
  show Ex (Runs (D + 1)) cd_X3_comersBy (some (.int o), s, LAY t) 0 [some (.ref 34), some (.int x1)] [] s (LAY t)
  unfold X3_comersBy at h
  refine Ex_call 3 (fun _ => rfl) (T_X8_isWithin D t x1 63 s _ rfl) rfl rfl ?_
  refine Ex_brZ 1 (X8_isWithin x1 63) (fun _ => rfl) (fun hc => ?_) (fun hc => ?_)
  · rw [if_neg (m_nt hc)] at h
    obtain rfl := Option.some.inj h
    exact Ex_ret 2 (fun _ => rfl) rfl
  · rw [if_pos hc] at h
    obtain ⟨hg1, h⟩ := m_ite h
    refine Ex_gd 4 (fun _ => rfl) hg1 ?_
    obtain rfl := Option.some.inj h
    exact Ex_ret 2 (fun _ => rfl) rfl

set_option maxRecDepth 20000 in
theorem T_X3_hoursBy (D : Nat) (t : mTX) (x1 : Int32) (s : mSG) (o : Int32) (h : X3_hoursBy x1 s = some o) : Runs (D + 2) 45 [.ref 34, .int x1] s (LAY t) (some (.int o), s, LAY t) := by
  refine Runs_mk (d := D + 1) rfl ?_
  show Ex (Runs (D + 1)) cd_X3_hoursBy (some (.int o), s, LAY t) 0 [some (.ref 34), some (.int x1)] [] s (LAY t)
  unfold X3_hoursBy at h
  refine Ex_call 3 (fun _ => rfl) (T_X8_isWithin D t x1 63 s _ rfl) rfl rfl ?_
  refine Ex_brZ 1 (X8_isWithin x1 63) (fun _ => rfl) (fun hc => ?_) (fun hc => ?_)
  · rw [if_neg (m_nt hc)] at h
    obtain rfl := Option.some.inj h
    exact Ex_ret 2 (fun _ => rfl) rfl
  · rw [if_pos hc] at h
    obtain ⟨hg1, h⟩ := m_ite h
    refine Ex_gd 4 (fun _ => rfl) hg1 ?_
    obtain rfl := Option.some.inj h
    exact Ex_ret 2 (fun _ => rfl) rfl

set_option maxRecDepth 20000 in
theorem T_X8_road_b27 (D : Nat) (t : mTX) (w : Option Value) (z : mSG) (x1 : Int32) (x2 : Int32) (x3 : Int32) (s : mSG) (o : (Int32 × mSG) ⊕ mSG) (h : X8_road_b27 t x1 x2 x3 s = some o) (kc : ∀ y : Int32 × mSG, o = .inl y → Ex (Runs (D + 7)) cd_X8_road (w, z, LAY t) 27 [some (.ref 6), some (.int x1), some (.int x2), some (.int y.1)] [] y.2 (LAY t)) (ke0 : ∀ y : mSG, o = .inr y → ∀ (u1 u3 : Option Value), Ex (Runs (D + 7)) cd_X8_road (w, z, LAY t) 89 [some (.ref 6), u1, some (.int x2), u3] [] y (LAY t)) : Ex (Runs (D + 7)) cd_X8_road (w, z, LAY t) 27 [some (.ref 6), some (.int x1), some (.int x2), some (.int x3)] [] s (LAY t) := by
  unfold X8_road_b27 at h
  refine Ex_br 5 ((s.1 7 4) ≤ x3) (fun _ => rfl) (fun hc2 => ?_) (fun hc2 => ?_)
  · rw [if_pos hc2] at h
    obtain rfl := Option.some.inj h
    exact ke0 _ rfl _ _
  · rw [if_neg hc2] at h
    obtain ⟨r3, hr, h⟩ := m_bind h
    refine Ex_call 9 (fun _ => rfl) (T_X8_ruleOf_7 (D + 5) t  s r3 hr) rfl rfl ?_
    obtain ⟨r4, hr, h⟩ := m_bind h
    refine Ex_call 1 (fun _ => rfl) (T_X0_be_28_7 (D + 3) t x3 r3 s r4 hr) rfl rfl ?_
    obtain ⟨r5, hr, h⟩ := m_bind h
    refine Ex_call 11 (fun _ => rfl) (T_X5_trait_7 (D + 4) t x3 0 r4 r5 hr) rfl rfl ?_
    obtain ⟨r6, hr, h⟩ := m_bind h
    refine Ex_call 2 (fun _ => rfl) (T_X3_tryRoads_28_7 D t r5 x1 r4 r6 hr) rfl rfl ?_
    refine Ex_sti 2 (fun _ => rfl) ?_
    obtain rfl := Option.some.inj h
    exact kc _ rfl 

theorem T_X8_road_l27 (D : Nat) (t : mTX) (w : Option Value) (z : mSG) (x1 : Int32) (x2 : Int32) (v : Int32 × mSG) (e : mSG) (h : X8_road_l27 t x1 x2 v = some e) (ke0 : ∀ y : mSG, e = y → ∀ (u1 u3 : Option Value), Ex (Runs (D + 7)) cd_X8_road (w, z, LAY t) 89 [some (.ref 6), u1, some (.int x2), u3] [] y (LAY t)) : Ex (Runs (D + 7)) cd_X8_road (w, z, LAY t) 27 [some (.ref 6), some (.int x1), some (.int x2), some (.int v.1)] [] v.2 (LAY t) :=
  m_iter (P := fun v : Int32 × mSG => Ex (Runs (D + 7)) cd_X8_road (w, z, LAY t) 27 [some (.ref 6), some (.int x1), some (.int x2), some (.int v.1)] [] v.2 (LAY t)) (Q := fun e : mSG => (∀ y : mSG, e = y → ∀ (u1 u3 : Option Value), Ex (Runs (D + 7)) cd_X8_road (w, z, LAY t) 89 [some (.ref 6), u1, some (.int x2), u3] [] y (LAY t))) (fun x o hx kc kq  => T_X8_road_b27 D t w z x1 x2 x.1 x.2  o hx kc (fun e he => kq _ he e rfl)) mFU v e h ke0
set_option maxRecDepth 20000 in
theorem T_X8_road (D : Nat) (t : mTX) (x1 : Int32) (x2 : Int32) (s : mSG) (o : Int32 × mSG) (h : X8_road t x1 x2 s = some o) : Runs (D + 8) 96 [.ref 6, .int x1, .int x2] s (LAY t) (some (.int o.1), o.2, LAY t) := by
  refine Runs_mk (d := D + 7) rfl ?_
  show Ex (Runs (D + 7)) cd_X8_road (some (.int o.1), o.2, LAY t) 0 [some (.ref 6), some (.int x1), some (.int x2), none] [] s (LAY t)
  unfold X8_road at h
  refine Ex_call 2 (fun _ => rfl) (T_X8_isStone (D + 5) t x1 s _ rfl) rfl rfl ?_
  refine Ex_brZ 1 (X8_isStone x1) (fun _ => rfl) (fun hc => ?_) (fun hc => ?_)
  · rw [if_neg (m_nt hc)] at h
    obtain rfl := Option.some.inj h
    exact Ex_ret 2 (fun _ => rfl) rfl
  · rw [if_pos hc] at h
    refine Ex_call 3 (fun _ => rfl) (T_X8_isWithin (D + 6) t x2 2 s _ rfl) rfl rfl ?_
    refine Ex_brZ 1 (X8_isWithin x2 2) (fun _ => rfl) (fun hc => ?_) (fun hc => ?_)
    · rw [if_neg (m_nt hc)] at h
      obtain rfl := Option.some.inj h
      exact Ex_ret 2 (fun _ => rfl) rfl
    · rw [if_pos hc] at h
      obtain ⟨r1, hr, h⟩ := m_bind h
      refine Ex_call 3 (fun _ => rfl) (T_X3_clearRoads (D + 5) t  s r1 hr) rfl rfl ?_
      refine Ex_sti 2 (fun _ => rfl) ?_
      obtain ⟨e27, hl, h⟩ := m_bind h
      refine T_X8_road_l27 D t (some (.int o.1)) o.2 x1 x2  (0, r1) _ hl (fun y0 hy0 => ?_) 
      · obtain ⟨e27, rfl⟩ : ∃ q, q = y0 := ⟨_, rfl⟩
        subst hy0
        intro vu1 vu3
        obtain ⟨r10, hr, h⟩ := m_bind h
        refine Ex_call 3 (fun _ => rfl) (T_X3_bestRoad (D + 6) t  e27 r10 hr) rfl rfl ?_
        refine Ex_sw 3 (fun _ => rfl) ?_
        refine mSwE_cons (fun hc => ?_) (fun hc => ?_)
        · rw [if_pos hc] at h
          refine Ex_gd 3 (fun _ => rfl) (by decide) ?_
          refine Ex_gd 5 (fun _ => rfl) (by decide) ?_
          obtain rfl := Option.some.inj h
          exact Ex_ret 2 (fun _ => rfl) rfl
        · rw [if_neg hc] at h
          refine mSwE_cons (fun hc => ?_) (fun hc => ?_)
          · rw [if_pos hc] at h
            obtain ⟨r11, hr, h⟩ := m_bind h
            refine Ex_call 4 (fun _ => rfl) (T_X3_comersBy (D + 5) t r10 e27 r11 hr) rfl rfl ?_
            obtain rfl := Option.some.inj h
            exact Ex_ret 1 (fun _ => rfl) rfl
          · rw [if_neg hc] at h
            refine mSwE_nil ?_
            obtain ⟨r12, hr, h⟩ := m_bind h
            refine Ex_call 4 (fun _ => rfl) (T_X3_hoursBy (D + 5) t r10 e27 r12 hr) rfl rfl ?_
            obtain rfl := Option.some.inj h
            exact Ex_ret 1 (fun _ => rfl) rfl

set_option maxRecDepth 20000 in
theorem T_X5_become_17_7 (D : Nat) (t : mTX) (s : mSG) (o : mSG) (h : X5_become_17_7 s = some o) : Runs (D + 1) 53 [.ref 17, .ref 7] s (LAY t) (none, o, LAY t) := by
  refine Runs_mk (d := D) rfl ?_
  show Ex (Runs (D)) cd_X5_become (none, o, LAY t) 0 [some (.ref 17), some (.ref 7)] [] s (LAY t)
  unfold X5_become_17_7 at h
  refine Ex_gd2 10 (fun _ => rfl) (show ¬ (0 : Int32) < 0 ∧ ¬ (0 : Int32) < 0 ∧ ¬ (Int32.ofNat 64) < 0 ∧ (0 : Int32).toNatClampNeg + (Int32.ofNat 64).toNatClampNeg ≤ 64 ∧ (0 : Int32).toNatClampNeg + (Int32.ofNat 64).toNatClampNeg ≤ 64 from by decide) (Nat.le_of_ble_eq_true rfl) ?_
  refine Ex_gd2 10 (fun _ => rfl) (show ¬ (0 : Int32) < 0 ∧ ¬ (0 : Int32) < 0 ∧ ¬ (Int32.ofNat 30) < 0 ∧ (0 : Int32).toNatClampNeg + (Int32.ofNat 30).toNatClampNeg ≤ 30 ∧ (0 : Int32).toNatClampNeg + (Int32.ofNat 30).toNatClampNeg ≤ 30 from by decide) (Nat.le_of_ble_eq_true rfl) ?_
  refine Ex_gd2 10 (fun _ => rfl) (show ¬ (0 : Int32) < 0 ∧ ¬ (0 : Int32) < 0 ∧ ¬ (Int32.ofNat 25) < 0 ∧ (0 : Int32).toNatClampNeg + (Int32.ofNat 25).toNatClampNeg ≤ 25 ∧ (0 : Int32).toNatClampNeg + (Int32.ofNat 25).toNatClampNeg ≤ 25 from by decide) (Nat.le_of_ble_eq_true rfl) ?_
  refine Ex_gd2 10 (fun _ => rfl) (show ¬ (0 : Int32) < 0 ∧ ¬ (0 : Int32) < 0 ∧ ¬ (Int32.ofNat 24) < 0 ∧ (0 : Int32).toNatClampNeg + (Int32.ofNat 24).toNatClampNeg ≤ 24 ∧ (0 : Int32).toNatClampNeg + (Int32.ofNat 24).toNatClampNeg ≤ 24 from by decide) (Nat.le_of_ble_eq_true rfl) ?_
  obtain rfl := Option.some.inj h
  exact Ex_ret 13 (fun _ => rfl) rfl

set_option maxRecDepth 20000 in
theorem T_X5_isOne_17 (D : Nat) (t : mTX) (x1 : Int32) (s : mSG) (o : Bool) (h : X5_isOne_17 x1 s = o) : Runs (D + 2) 54 [.ref 17, .int x1] s (LAY t) (some (.int (b2i o)), s, LAY t) := by
  refine Runs_mk (d := D + 1) rfl ?_
  show Ex (Runs (D + 1)) cd_X5_isOne (some (.int (b2i o)), s, LAY t) 0 [some (.ref 17), some (.int x1)] [] s (LAY t)
  unfold X5_isOne_17 at h
  refine Ex_call 6 (fun _ => rfl) (T_X8_isWithin D t x1 ((s.1 17 4) - 1) s _ rfl) rfl rfl ?_
  refine Ex_brZ 1 (X8_isWithin x1 ((s.1 17 4) - 1)) (fun _ => rfl) (fun hc => ?_) (fun hc => ?_)
  · rw [if_neg (m_nt hc)] at h
    subst h
    exact Ex_retZ 2 (fun _ => rfl) (Or.inl rfl) rfl
  · rw [if_pos hc] at h
    refine Ex_br 3 (5 ≤ x1) (fun _ => rfl) (fun hc1 => ?_) (fun hc1 => ?_)
    · rw [if_pos hc1] at h
      subst h
      exact Ex_retZ 2 (fun _ => rfl) (Or.inl rfl) rfl
    · rw [if_neg hc1] at h
      subst h
      exact Ex_retZ 3 (fun _ => rfl) (Or.inr rfl) rfl

set_option maxRecDepth 20000 in
theorem T_X8_ruleOf_17 (D : Nat) (t : mTX) (s : mSG) (o : Nat) (h : X8_ruleOf_17 s = some o) : Runs (D + 2) 115 [.ref 6, .ref 17] s (LAY t) (some (.ref o), s, LAY t) := by
  refine Runs_mk (d := D + 1) rfl ?_
  show Ex (Runs (D + 1)) cd_X8_ruleOf (some (.ref o), s, LAY t) 0 [some (.ref 6), some (.ref 17)] [] s (LAY t)
  unfold X8_ruleOf_17 at h
  refine Ex_call 7 (fun _ => rfl) (T_X8_isWithin D t (s.1 17 6) ((s.1 6 11) - 1) s _ rfl) rfl rfl ?_
  refine Ex_brZ 1 (X8_isWithin (s.1 17 6) ((s.1 6 11) - 1)) (fun _ => rfl) (fun hc => ?_) (fun hc => ?_)
  · rw [if_neg (m_nt hc)] at h
    obtain ⟨hg, h⟩ := m_ite h
    obtain ⟨a1, hq, h⟩ := m_bind h
    refine Ex_aald 4 (fun _ => rfl) hg hq ?_
    obtain rfl := Option.some.inj h
    exact Ex_ret 1 (fun _ => rfl) rfl
  · rw [if_pos hc] at h
    obtain ⟨hg, h⟩ := m_ite h
    obtain ⟨a2, hq, h⟩ := m_bind h
    refine Ex_aald 5 (fun _ => rfl) hg hq ?_
    obtain rfl := Option.some.inj h
    exact Ex_ret 2 (fun _ => rfl) rfl

set_option maxRecDepth 20000 in
theorem T_X5_trait_17 (D : Nat) (t : mTX) (x1 : Int32) (x2 : Int32) (s : mSG) (o : Int32) (h : X5_trait_17 x1 x2 s = some o) : Runs (D + 3) 55 [.ref 17, .int x1, .int x2] s (LAY t) (some (.int o), s, LAY t) := by
  refine Runs_mk (d := D + 2) rfl ?_
  show Ex (Runs (D + 2)) cd_X5_trait (some (.int o), s, LAY t) 0 [some (.ref 17), some (.int x1), some (.int x2)] [] s (LAY t)
  unfold X5_trait_17 at h
  refine Ex_call 3 (fun _ => rfl) (T_X5_isOne_17 D t x1 s _ rfl) rfl rfl ?_
  refine Ex_brZ 1 (X5_isOne_17 x1 s) (fun _ => rfl) (fun hc => ?_) (fun hc => ?_)
  · rw [if_neg (m_nt hc)] at h
    obtain rfl := Option.some.inj h
    exact Ex_ret 2 (fun _ => rfl) rfl
  · rw [if_pos hc] at h
    refine Ex_call 3 (fun _ => rfl) (T_X8_isWithin (D + 1) t x2 5 s _ rfl) rfl rfl ?_
    refine Ex_brZ 1 (X8_isWithin x2 5) (fun _ => rfl) (fun hc => ?_) (fun hc => ?_)
    · rw [if_neg (m_nt hc)] at h
      obtain rfl := Option.some.inj h
      exact Ex_ret 2 (fun _ => rfl) rfl
    · rw [if_pos hc] at h
      obtain ⟨hg1, h⟩ := m_ite h
      refine Ex_gd 8 (fun _ => rfl) hg1 ?_
      obtain rfl := Option.some.inj h
      exact Ex_ret 2 (fun _ => rfl) rfl

set_option maxRecDepth 20000 in
theorem T_X5_rainIn_17 (D : Nat) (t : mTX) (x1 : Int32) (s : mSG) (o : Int32) (h : X5_rainIn_17 x1 s = some o) : Runs (D + 2) 61 [.ref 17, .int x1] s (LAY t) (some (.int o), s, LAY t) := by
  refine Runs_mk (d := D + 1) rfl ?_
  show Ex (Runs (D + 1)) cd_X5_rainIn (some (.int o), s, LAY t) 0 [some (.ref 17), some (.int x1)] [] s (LAY t)
  unfold X5_rainIn_17 at h
  obtain ⟨r1, hr, h⟩ := m_bind h
  refine Ex_call 8 (fun _ => rfl) (T_J9_floorMod D t ((s.1 17 5) + x1) 24 s r1 hr) rfl rfl ?_
  obtain ⟨hg2, h⟩ := m_ite h
  refine Ex_gd 1 (fun _ => rfl) hg2 ?_
  obtain rfl := Option.some.inj h
  exact Ex_ret 1 (fun _ => rfl) rfl

set_option maxRecDepth 20000 in
theorem T_X5_rainNow_17 (D : Nat) (t : mTX) (s : mSG) (o : Int32) (h : X5_rainNow_17 s = some o) : Runs (D + 3) 60 [.ref 17] s (LAY t) (some (.int o), s, LAY t) := by
  refine Runs_mk (d := D + 2) rfl ?_
  show Ex (Runs (D + 2)) cd_X5_rainNow (some (.int o), s, LAY t) 0 [some (.ref 17)] [] s (LAY t)
  unfold X5_rainNow_17 at h
  obtain ⟨r1, hr, h⟩ := m_bind h
  refine Ex_call 3 (fun _ => rfl) (T_X5_rainIn_17 D t 0 s r1 hr) rfl rfl ?_
  obtain rfl := Option.some.inj h
  exact Ex_ret 1 (fun _ => rfl) rfl

set_option maxRecDepth 20000 in
theorem T_X0_be_28_17 (D : Nat) (t : mTX) (x2 : Int32) (a3_ : Nat) (s : mSG) (o : mSG) (h : X0_be_28_17 x2 a3_ s = some o) : Runs (D + 4) 1 [.ref 28, .ref 17, .int x2, .ref a3_] s (LAY t) (none, o, LAY t) := by
  refine Runs_mk (d := D + 3) rfl ?_
  show Ex (Runs (D + 3)) cd_X0_be (none, o, LAY t) 0 [some (.ref 28), some (.ref 17), some (.int x2), some (.ref a3_)] [] s (LAY t)
  unfold X0_be_28_17 at h
  obtain ⟨r1, hr, h⟩ := m_bind h
  refine Ex_call 8 (fun _ => rfl) (T_X5_trait_17 D t x2 5 (sQ s 28 2 a3_) r1 hr) rfl rfl ?_
  obtain ⟨r2, hr, h⟩ := m_bind h
  refine Ex_call 6 (fun _ => rfl) (T_X5_trait_17 D t x2 4 (sI (sQ s 28 2 a3_) 28 3 r1) r2 hr) rfl rfl ?_
  obtain ⟨r3, hr, h⟩ := m_bind h
  refine Ex_call 6 (fun _ => rfl) (T_X5_trait_17 D t x2 1 (sI (sI (sQ s 28 2 a3_) 28 3 r1) 28 4 r2) r3 hr) rfl rfl ?_
  obtain ⟨r4, hr, h⟩ := m_bind h
  refine Ex_call 6 (fun _ => rfl) (T_X5_trait_17 D t x2 3 (sI (sI (sI (sQ s 28 2 a3_) 28 3 r1) 28 4 r2) 28 5 r3) r4 hr) rfl rfl ?_
  obtain ⟨r5, hr, h⟩ := m_bind h
  refine Ex_call 6 (fun _ => rfl) (T_X5_trait_17 D t x2 2 (sI (sI (sI (sI (sQ s 28 2 a3_) 28 3 r1) 28 4 r2) 28 5 r3) 28 6 r4) r5 hr) rfl rfl ?_
  obtain ⟨r6, hr, h⟩ := m_bind h
  refine Ex_call 4 (fun _ => rfl) (T_X5_rainNow_17 D t  (sI (sI (sI (sI (sI (sQ s 28 2 a3_) 28 3 r1) 28 4 r2) 28 5 r3) 28 6 r4) 28 7 r5) r6 hr) rfl rfl ?_
  obtain rfl := Option.some.inj h
  exact Ex_ret 2 (fun _ => rfl) rfl

