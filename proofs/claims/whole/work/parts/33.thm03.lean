set_option maxRecDepth 20000 in
theorem T_X5_mudBetween_17 (D : Nat) (t : mTX) (x1 : Int32) (x2 : Int32) (s : mSG) (o : Int32) (h : X5_mudBetween_17 x1 x2 s = some o) : Runs (D + 4) 57 [.ref 17, .int x1, .int x2] s (LAY t) (some (.int o), s, LAY t) := by
  refine Runs_mk (d := D + 3) rfl ?_
  show Ex (Runs (D + 3)) cd_X5_mudBetween (some (.int o), s, LAY t) 0 [some (.ref 17), some (.int x1), some (.int x2)] [] s (LAY t)
  unfold X5_mudBetween_17 at h
  refine Ex_call 3 (fun _ => rfl) (T_X8_areTwoStones D t x1 x2 s _ rfl) rfl rfl ?_
  refine Ex_brZ 1 (X8_areTwoStones x1 x2) (fun _ => rfl) (fun hc => ?_) (fun hc => ?_)
  · rw [if_neg (m_nt hc)] at h
    obtain rfl := Option.some.inj h
    exact Ex_ret 2 (fun _ => rfl) rfl
  · rw [if_pos hc] at h
    obtain ⟨hg1, h⟩ := m_ite h
    refine Ex_gd 8 (fun _ => rfl) hg1 ?_
    obtain rfl := Option.some.inj h
    exact Ex_ret 2 (fun _ => rfl) rfl

set_option maxRecDepth 20000 in
theorem T_X5_put_17 (D : Nat) (t : mTX) (x1 : Int32) (x2 : Int32) (x3 : Int32) (s : mSG) (o : mSG) (h : X5_put_17 x1 x2 x3 s = some o) : Runs (D + 3) 56 [.ref 17, .int x1, .int x2, .int x3] s (LAY t) (none, o, LAY t) := by
  refine Runs_mk (d := D + 2) rfl ?_
  show Ex (Runs (D + 2)) cd_X5_put (none, o, LAY t) 0 [some (.ref 17), some (.int x1), some (.int x2), some (.int x3)] [] s (LAY t)
  unfold X5_put_17 at h
  refine Ex_call 3 (fun _ => rfl) (T_X5_isOne_17 D t x1 s _ rfl) rfl rfl ?_
  refine Ex_brZ 1 (X5_isOne_17 x1 s) (fun _ => rfl) (fun hc => ?_) (fun hc => ?_)
  · rw [if_neg (m_nt hc)] at h
    obtain rfl := Option.some.inj h
    exact Ex_ret 1 (fun _ => rfl) rfl
  · rw [if_pos hc] at h
    refine Ex_call 3 (fun _ => rfl) (T_X8_isWithin (D + 1) t x2 5 s _ rfl) rfl rfl ?_
    refine Ex_brZ 1 (X8_isWithin x2 5) (fun _ => rfl) (fun hc => ?_) (fun hc => ?_)
    · rw [if_neg (m_nt hc)] at h
      obtain rfl := Option.some.inj h
      exact Ex_ret 1 (fun _ => rfl) rfl
    · rw [if_pos hc] at h
      obtain ⟨hg1, h⟩ := m_ite h
      refine Ex_gd 9 (fun _ => rfl) hg1 ?_
      obtain rfl := Option.some.inj h
      exact Ex_ret 1 (fun _ => rfl) rfl

set_option maxRecDepth 20000 in
theorem T_X8_moves_17 (D : Nat) (t : mTX) (x2 : Int32) (x3 : Int32) (s : mSG) (o : Bool × mSG) (h : X8_moves_17 t x2 x3 s = some o) : Runs (D + 5) 116 [.ref 6, .ref 17, .int x2, .int x3] s (LAY t) (some (.int (b2i o.1)), o.2, LAY t) := by
  refine Runs_mk (d := D + 4) rfl ?_
  show Ex (Runs (D + 4)) cd_X8_moves (some (.int (b2i o.1)), o.2, LAY t) 0 [some (.ref 6), some (.ref 17), some (.int x2), some (.int x3), none, none] [] s (LAY t)
  unfold X8_moves_17 at h
  obtain ⟨r1, hr, h⟩ := m_bind h
  refine Ex_call 7 (fun _ => rfl) (T_X8_ruleOf_17 (D + 2) t  s r1 hr) rfl rfl ?_
  obtain ⟨r2, hr, h⟩ := m_bind h
  refine Ex_call 1 (fun _ => rfl) (T_X0_be_28_17 D t x2 r1 s r2 hr) rfl rfl ?_
  obtain ⟨r3, hr, h⟩ := m_bind h
  refine Ex_call 4 (fun _ => rfl) (T_X5_trait_17 (D + 1) t x2 0 r2 r3 hr) rfl rfl ?_
  obtain ⟨r4, hr, h⟩ := m_bind h
  refine Ex_call 9 (fun _ => rfl) (T_X5_mudBetween_17 D t r3 x3 r2 r4 hr) rfl rfl ?_
  obtain ⟨r5, hr, h⟩ := m_bind h
  refine Ex_call 1 (fun _ => rfl) (T_X0_hours_28 D t r3 x3 r4 r2 r5 hr) rfl rfl ?_
  refine Ex_br 3 (r5.1 = 0) (fun _ => rfl) (fun hc6 => ?_) (fun hc6 => ?_)
  · rw [if_pos hc6] at h
    obtain rfl := Option.some.inj h
    exact Ex_retZ 2 (fun _ => rfl) (Or.inl rfl) rfl
  · rw [if_neg hc6] at h
    obtain ⟨r7, hr, h⟩ := m_bind h
    refine Ex_call 3 (fun _ => rfl) (T_X0_soak_28 D t  r5.2 r7 hr) rfl rfl ?_
    obtain ⟨r8, hr, h⟩ := m_bind h
    refine Ex_call 5 (fun _ => rfl) (T_X5_put_17 (D + 1) t x2 0 x3 r7 r8 hr) rfl rfl ?_
    obtain ⟨r9, hr, h⟩ := m_bind h
    refine Ex_call 7 (fun _ => rfl) (T_X5_put_17 (D + 1) t x2 2 (r8.1 28 7) r8 r9 hr) rfl rfl ?_
    refine Ex_call 7 (fun _ => rfl) (T_J9_min (D + 3) t 9999 ((r9.1 17 5) + r5.1) r9 _ rfl) rfl rfl ?_
    obtain rfl := Option.some.inj h
    exact Ex_retZ 3 (fun _ => rfl) (Or.inr rfl) rfl

set_option maxRecDepth 20000 in
theorem T_X8_judge_b53 (D : Nat) (t : mTX) (w : Option Value) (z : mSG) (a2_ : Nat) (x3 : Int32) (s : mSG) (u1 u4 u5 : Option Value) (o : (Int32 × mSG) ⊕ ((Int32 × mSG) ⊕ mSG)) (h : X8_judge_b53 t a2_ x3 s = some o) (kc : ∀ y : Int32 × mSG, o = .inl y → ∀ (u1 u4 u5 : Option Value), Ex (Runs (D + 5)) cd_X8_judge (w, z, LAY t) 53 [some (.ref 6), u1, some (.ref a2_), some (.int y.1), u4, u5] [] y.2 (LAY t)) (ke0 : ∀ y : Int32 × mSG, o = .inr (.inl y) → ∀ (u0 u1 u2 u4 u5 : Option Value), Ex (Runs (D + 5)) cd_X8_judge (w, z, LAY t) 118 [u0, u1, u2, some (.int y.1), u4, u5] [] y.2 (LAY t)) (ke1 : ∀ y : mSG, o = .inr (.inr y) → ∀ (u0 u1 u2 u3 u4 u5 : Option Value), Ex (Runs (D + 5)) cd_X8_judge (w, z, LAY t) 126 [u0, u1, u2, u3, u4, u5] [] y (LAY t)) : Ex (Runs (D + 5)) cd_X8_judge (w, z, LAY t) 53 [some (.ref 6), u1, some (.ref a2_), some (.int x3), u4, u5] [] s (LAY t) := by
  unfold X8_judge_b53 at h
  obtain ⟨hg, h⟩ := m_ite h
  refine Ex_if 3 (fun _ => rfl) hg ?_
  refine Ex_gd 2 (fun _ => rfl) (by decide) ?_
  refine Ex_br 1 (((s.1 a2_ 2) / 2) ≤ x3) (fun _ => rfl) (fun hc5 => ?_) (fun hc5 => ?_)
  · rw [if_pos hc5] at h
    obtain rfl := Option.some.inj h
    exact ke1 _ rfl _ _ _ _ _ _
  · rw [if_neg hc5] at h
    obtain ⟨hk, h⟩ := m_ite h
    obtain ⟨r6, hr, h⟩ := m_bind h
    refine Ex_callK 5 (fun _ => rfl) ⟨hk, Nat.le_of_ble_eq_true rfl⟩ (T_X4_item (D + 3) t a2_ (2 * x3) s r6 hr) rfl rfl ?_
    obtain ⟨hk, h⟩ := m_ite h
    obtain ⟨r7, hr, h⟩ := m_bind h
    refine Ex_callK 8 (fun _ => rfl) ⟨hk, Nat.le_of_ble_eq_true rfl⟩ (T_X4_item (D + 3) t a2_ ((2 * x3) + 1) s r7 hr) rfl rfl ?_
    refine Ex_call 5 (fun _ => rfl) (T_X5_isOne_17 (D + 3) t r6 s _ rfl) rfl rfl ?_
    refine Ex_brZ 1 (X5_isOne_17 r6 s) (fun _ => rfl) (fun hc => ?_) (fun hc => ?_)
    · rw [if_neg (m_nt hc)] at h
      obtain rfl := Option.some.inj h
      exact ke0 _ rfl _ _ _ _ _
    · rw [if_pos hc] at h
      refine Ex_call 2 (fun _ => rfl) (T_X8_isStone (D + 3) t r7 s _ rfl) rfl rfl ?_
      refine Ex_brZ 1 (X8_isStone r7) (fun _ => rfl) (fun hc => ?_) (fun hc => ?_)
      · rw [if_neg (m_nt hc)] at h
        obtain rfl := Option.some.inj h
        exact ke0 _ rfl _ _ _ _ _
      · rw [if_pos hc] at h
        obtain ⟨r8, hr, h⟩ := m_bind h
        refine Ex_call 6 (fun _ => rfl) (T_X8_moves_17 D t r6 r7 s r8 hr) rfl rfl ?_
        refine Ex_brZ 1 (r8.1) (fun _ => rfl) (fun hc => ?_) (fun hc => ?_)
        · rw [if_neg (m_nt hc)] at h
          obtain rfl := Option.some.inj h
          exact ke0 _ rfl _ _ _ _ _
        · rw [if_pos hc] at h
          refine Ex_sti 2 (fun _ => rfl) ?_
          obtain rfl := Option.some.inj h
          exact kc _ rfl _ _ _

theorem T_X8_judge_l53 (D : Nat) (t : mTX) (w : Option Value) (z : mSG) (a2_ : Nat) (v : Int32 × mSG) (e : ((Int32 × mSG) ⊕ mSG)) (h : X8_judge_l53 t a2_ v = some e) (ke0 : ∀ y : Int32 × mSG, e = (.inl y) → ∀ (u0 u1 u2 u4 u5 : Option Value), Ex (Runs (D + 5)) cd_X8_judge (w, z, LAY t) 118 [u0, u1, u2, some (.int y.1), u4, u5] [] y.2 (LAY t)) (ke1 : ∀ y : mSG, e = (.inr y) → ∀ (u0 u1 u2 u3 u4 u5 : Option Value), Ex (Runs (D + 5)) cd_X8_judge (w, z, LAY t) 126 [u0, u1, u2, u3, u4, u5] [] y (LAY t)) : ∀ (u1 u4 u5 : Option Value), Ex (Runs (D + 5)) cd_X8_judge (w, z, LAY t) 53 [some (.ref 6), u1, some (.ref a2_), some (.int v.1), u4, u5] [] v.2 (LAY t) :=
  m_iter (P := fun v : Int32 × mSG => ∀ (u1 u4 u5 : Option Value), Ex (Runs (D + 5)) cd_X8_judge (w, z, LAY t) 53 [some (.ref 6), u1, some (.ref a2_), some (.int v.1), u4, u5] [] v.2 (LAY t)) (Q := fun e : ((Int32 × mSG) ⊕ mSG) => (∀ y : Int32 × mSG, e = (.inl y) → ∀ (u0 u1 u2 u4 u5 : Option Value), Ex (Runs (D + 5)) cd_X8_judge (w, z, LAY t) 118 [u0, u1, u2, some (.int y.1), u4, u5] [] y.2 (LAY t)) ∧ (∀ y : mSG, e = (.inr y) → ∀ (u0 u1 u2 u3 u4 u5 : Option Value), Ex (Runs (D + 5)) cd_X8_judge (w, z, LAY t) 126 [u0, u1, u2, u3, u4, u5] [] y (LAY t))) (fun x o hx kc kq u1 u4 u5 => T_X8_judge_b53 D t w z a2_ x.1 x.2 u1 u4 u5 o hx kc (fun e he => (kq _ (by rw [he])).1 e rfl) (fun e he => (kq _ (by rw [he])).2 e rfl)) mFU v e h ⟨ke0, ke1⟩
set_option maxRecDepth 20000 in
theorem T_X8_judge (D : Nat) (t : mTX) (x1 : Int32) (s : mSG) (o : Int32 × mSG) (h : X8_judge t x1 s = some o) : Runs (D + 6) 97 [.ref 6, .int x1] s (LAY t) (some (.int o.1), o.2, LAY t) := by
  refine Runs_mk (d := D + 5) rfl ?_
  show Ex (Runs (D + 5)) cd_X8_judge (some (.int o.1), o.2, LAY t) 0 [some (.ref 6), some (.int x1), none, none, none, none] [] s (LAY t)
  unfold X8_judge at h
  refine Ex_call 3 (fun _ => rfl) (T_X8_isWithin (D + 4) t x1 3 s _ rfl) rfl rfl ?_
  refine Ex_brZ 1 (X8_isWithin x1 3) (fun _ => rfl) (fun hc => ?_) (fun hc => ?_)
  · rw [if_neg (m_nt hc)] at h
    obtain rfl := Option.some.inj h
    exact Ex_ret 2 (fun _ => rfl) rfl
  · rw [if_pos hc] at h
    obtain ⟨hg, h⟩ := m_ite h
    obtain ⟨a1, hq, h⟩ := m_bind h
    refine Ex_aald 4 (fun _ => rfl) hg hq ?_
    obtain ⟨hk, h⟩ := m_ite h
    obtain ⟨r2, hr, h⟩ := m_bind h
    refine Ex_callK 3 (fun _ => rfl) ⟨hk, Nat.le_of_ble_eq_true rfl⟩ (T_X4_isMissing (D + 4) t a1 s r2 hr) rfl rfl ?_
    refine Ex_brZ 1 (r2) (fun _ => rfl) (fun hc => ?_) (fun hc => ?_)
    · rw [if_neg (m_nt hc)] at h
      obtain ⟨hg, h⟩ := m_ite h
      refine Ex_if 2 (fun _ => rfl) hg ?_
      refine Ex_gd 2 (fun _ => rfl) (by decide) ?_
      refine Ex_br 1 (((s.1 a1 2) - (s.1 a1 2) / 2 * 2) = 0) (fun _ => rfl) (fun hc3 => ?_) (fun hc3 => ?_)
      · rw [if_pos hc3] at h
        obtain ⟨r4, hr, h⟩ := m_bind h
        refine Ex_call 5 (fun _ => rfl) (T_X5_become_17_7 (D + 4) t  s r4 hr) rfl rfl ?_
        refine Ex_sti 2 (fun _ => rfl) ?_
        obtain ⟨e53, hl, h⟩ := m_bind h
        refine T_X8_judge_l53 D t (some (.int o.1)) o.2 a1  (0, r4) _ hl (fun y0 hy0 => ?_) (fun y1 hy1 => ?_) _ _ _
        · obtain ⟨e53_0, rfl⟩ : ∃ q, q = y0 := ⟨_, rfl⟩
          subst hy0
          simp only [Sum.elim_inl, Sum.elim_inr] at h
          intro vu0 vu1 vu2 vu4 vu5
          obtain rfl := Option.some.inj h
          exact Ex_ret 2 (fun _ => rfl) rfl
        · obtain ⟨e53_1, rfl⟩ : ∃ q, q = y1 := ⟨_, rfl⟩
          subst hy1
          simp only [Sum.elim_inl, Sum.elim_inr] at h
          intro vu0 vu1 vu2 vu3 vu4 vu5
          obtain rfl := Option.some.inj h
          exact Ex_ret 2 (fun _ => rfl) rfl
      · rw [if_neg hc3] at h
        obtain rfl := Option.some.inj h
        exact Ex_ret 2 (fun _ => rfl) rfl
    · rw [if_pos hc] at h
      obtain rfl := Option.some.inj h
      exact Ex_ret 2 (fun _ => rfl) rfl

set_option maxRecDepth 20000 in
theorem T_X8_drawnTo_b26 (D : Nat) (t : mTX) (w : Option Value) (z : mSG) (x2 : Int32) (x3 : Int32) (x5 : Int32) (x4 : Int32) (x6 : Int32) (s : mSG) (u1 : Option Value) (o : (Int32 × Int32 × mSG) ⊕ Int32 × mSG) (h : X8_drawnTo_b26 t x2 x3 x5 x4 x6 s = some o) (kc : ∀ y : Int32 × Int32 × mSG, o = .inl y → ∀ (u1 : Option Value), Ex (Runs (D + 5)) cd_X8_drawnTo (w, z, LAY t) 26 [some (.ref 6), u1, some (.int x2), some (.int x3), some (.int y.1), some (.int x5), some (.int y.2.1)] [] y.2.2 (LAY t)) (ke0 : ∀ y : Int32 × mSG, o = .inr y → ∀ (u1 u6 : Option Value), Ex (Runs (D + 5)) cd_X8_drawnTo (w, z, LAY t) 75 [some (.ref 6), u1, some (.int x2), some (.int x3), some (.int y.1), some (.int x5), u6] [] y.2 (LAY t)) : Ex (Runs (D + 5)) cd_X8_drawnTo (w, z, LAY t) 26 [some (.ref 6), u1, some (.int x2), some (.int x3), some (.int x4), some (.int x5), some (.int x6)] [] s (LAY t) := by
  unfold X8_drawnTo_b26 at h
  refine Ex_br 5 ((s.1 17 4) ≤ x6) (fun _ => rfl) (fun hc3 => ?_) (fun hc3 => ?_)
  · rw [if_pos hc3] at h
    obtain rfl := Option.some.inj h
    exact ke0 _ rfl _ _
  · rw [if_neg hc3] at h
    refine Ex_gd 15 (fun _ => rfl) (by decide) ?_
    obtain ⟨r4, hr, h⟩ := m_bind h
    refine Ex_call 1 (fun _ => rfl) (T_X8_moves_17 D t x6 (((((x4 * 1103515245) + 12345).toUInt32 >>> ((9 : Int32).toUInt32 &&& Int32.toUInt32 31)).toInt32) - ((((x4 * 1103515245) + 12345).toUInt32 >>> ((9 : Int32).toUInt32 &&& Int32.toUInt32 31)).toInt32) / 8 * 8) s r4 hr) rfl rfl ?_
    refine Ex_sti 3 (fun _ => rfl) ?_
    obtain rfl := Option.some.inj h
    exact kc _ rfl _

theorem T_X8_drawnTo_l26 (D : Nat) (t : mTX) (w : Option Value) (z : mSG) (x2 : Int32) (x3 : Int32) (x5 : Int32) (v : Int32 × Int32 × mSG) (e : Int32 × mSG) (h : X8_drawnTo_l26 t x2 x3 x5 v = some e) (ke0 : ∀ y : Int32 × mSG, e = y → ∀ (u1 u6 : Option Value), Ex (Runs (D + 5)) cd_X8_drawnTo (w, z, LAY t) 75 [some (.ref 6), u1, some (.int x2), some (.int x3), some (.int y.1), some (.int x5), u6] [] y.2 (LAY t)) : ∀ (u1 : Option Value), Ex (Runs (D + 5)) cd_X8_drawnTo (w, z, LAY t) 26 [some (.ref 6), u1, some (.int x2), some (.int x3), some (.int v.1), some (.int x5), some (.int v.2.1)] [] v.2.2 (LAY t) :=
  m_iter (P := fun v : Int32 × Int32 × mSG => ∀ (u1 : Option Value), Ex (Runs (D + 5)) cd_X8_drawnTo (w, z, LAY t) 26 [some (.ref 6), u1, some (.int x2), some (.int x3), some (.int v.1), some (.int x5), some (.int v.2.1)] [] v.2.2 (LAY t)) (Q := fun e : Int32 × mSG => (∀ y : Int32 × mSG, e = y → ∀ (u1 u6 : Option Value), Ex (Runs (D + 5)) cd_X8_drawnTo (w, z, LAY t) 75 [some (.ref 6), u1, some (.int x2), some (.int x3), some (.int y.1), some (.int x5), u6] [] y.2 (LAY t))) (fun x o hx kc kq u1 => T_X8_drawnTo_b26 D t w z x2 x3 x5 x.1 x.2.1 x.2.2 u1 o hx kc (fun e he => kq _ he e rfl)) mFU v e h ke0
set_option maxRecDepth 20000 in
theorem T_X8_drawnTo_b17 (D : Nat) (t : mTX) (w : Option Value) (z : mSG) (x2 : Int32) (x3 : Int32) (x4 : Int32) (x5 : Int32) (s : mSG) (u1 u6 : Option Value) (o : (Int32 × Int32 × mSG) ⊕ mSG) (h : X8_drawnTo_b17 t x2 x3 x4 x5 s = some o) (kc : ∀ y : Int32 × Int32 × mSG, o = .inl y → ∀ (u1 u6 : Option Value), Ex (Runs (D + 5)) cd_X8_drawnTo (w, z, LAY t) 17 [some (.ref 6), u1, some (.int x2), some (.int x3), some (.int y.1), some (.int y.2.1), u6] [] y.2.2 (LAY t)) (ke0 : ∀ y : mSG, o = .inr y → ∀ (u1 u2 u4 u5 u6 : Option Value), Ex (Runs (D + 5)) cd_X8_drawnTo (w, z, LAY t) 81 [some (.ref 6), u1, u2, some (.int x3), u4, u5, u6] [] y (LAY t)) : Ex (Runs (D + 5)) cd_X8_drawnTo (w, z, LAY t) 17 [some (.ref 6), u1, some (.int x2), some (.int x3), some (.int x4), some (.int x5), u6] [] s (LAY t) := by
  unfold X8_drawnTo_b17 at h
  refine Ex_br 3 (x2 ≤ x5) (fun _ => rfl) (fun hc2 => ?_) (fun hc2 => ?_)
  · rw [if_pos hc2] at h
    obtain rfl := Option.some.inj h
    exact ke0 _ rfl _ _ _ _ _
  · rw [if_neg hc2] at h
    refine Ex_sti 2 (fun _ => rfl) ?_
    obtain ⟨e26, hl, h⟩ := m_bind h
    refine T_X8_drawnTo_l26 D t w z x2 x3 x5  (x4, 0, s) _ hl (fun y0 hy0 => ?_) _
    · obtain ⟨e26, rfl⟩ : ∃ q, q = y0 := ⟨_, rfl⟩
      subst hy0
      intro vu1 vu6
      refine Ex_sti 2 (fun _ => rfl) ?_
      obtain rfl := Option.some.inj h
      exact kc _ rfl _ _

theorem T_X8_drawnTo_l17 (D : Nat) (t : mTX) (w : Option Value) (z : mSG) (x2 : Int32) (x3 : Int32) (v : Int32 × Int32 × mSG) (e : mSG) (h : X8_drawnTo_l17 t x2 x3 v = some e) (ke0 : ∀ y : mSG, e = y → ∀ (u1 u2 u4 u5 u6 : Option Value), Ex (Runs (D + 5)) cd_X8_drawnTo (w, z, LAY t) 81 [some (.ref 6), u1, u2, some (.int x3), u4, u5, u6] [] y (LAY t)) : ∀ (u1 u6 : Option Value), Ex (Runs (D + 5)) cd_X8_drawnTo (w, z, LAY t) 17 [some (.ref 6), u1, some (.int x2), some (.int x3), some (.int v.1), some (.int v.2.1), u6] [] v.2.2 (LAY t) :=
  m_iter (P := fun v : Int32 × Int32 × mSG => ∀ (u1 u6 : Option Value), Ex (Runs (D + 5)) cd_X8_drawnTo (w, z, LAY t) 17 [some (.ref 6), u1, some (.int x2), some (.int x3), some (.int v.1), some (.int v.2.1), u6] [] v.2.2 (LAY t)) (Q := fun e : mSG => (∀ y : mSG, e = y → ∀ (u1 u2 u4 u5 u6 : Option Value), Ex (Runs (D + 5)) cd_X8_drawnTo (w, z, LAY t) 81 [some (.ref 6), u1, u2, some (.int x3), u4, u5, u6] [] y (LAY t))) (fun x o hx kc kq u1 u6 => T_X8_drawnTo_b17 D t w z x2 x3 x.1 x.2.1 x.2.2 u1 u6 o hx kc (fun e he => kq _ he e rfl)) mFU v e h ke0
set_option maxRecDepth 20000 in
theorem T_X8_drawnTo_j116_87 (D : Nat) (t : mTX) (w : Option Value) (z : mSG) (x3 : Int32) (x5 : Int32) (x6 : Int32) (s : mSG) (u1 u2 u4 : Option Value) (o : (Int32 × Int32) ⊕ Int32) (h : X8_drawnTo_j116_87 t x3 x5 x6 s = some o) (kc : ∀ y : Int32 × Int32, o = .inl y → ∀ (u1 u2 u4 : Option Value), Ex (Runs (D + 5)) cd_X8_drawnTo (w, z, LAY t) 87 [some (.ref 6), u1, u2, some (.int x3), u4, some (.int y.1), some (.int y.2)] [] s (LAY t)) (ke0 : ∀ y : Int32, o = .inr y → ∀ (u0 u1 u2 u3 u4 u6 : Option Value), Ex (Runs (D + 5)) cd_X8_drawnTo (w, z, LAY t) 122 [u0, u1, u2, u3, u4, some (.int y), u6] [] s (LAY t)) : Ex (Runs (D + 5)) cd_X8_drawnTo (w, z, LAY t) 116 [some (.ref 6), u1, u2, some (.int x3), u4, some (.int x5), some (.int x6)] [] s (LAY t) := by
  unfold X8_drawnTo_j116_87 at h
  refine Ex_sti 2 (fun _ => rfl) ?_
  obtain rfl := Option.some.inj h
  exact kc _ rfl _ _ _

set_option maxRecDepth 20000 in
theorem T_X8_drawnTo_b87 (D : Nat) (t : mTX) (w : Option Value) (z : mSG) (x3 : Int32) (x5 : Int32) (x6 : Int32) (s : mSG) (u1 u2 u4 : Option Value) (o : (Int32 × Int32) ⊕ Int32) (h : X8_drawnTo_b87 t x3 x5 x6 s = some o) (kc : ∀ y : Int32 × Int32, o = .inl y → ∀ (u1 u2 u4 : Option Value), Ex (Runs (D + 5)) cd_X8_drawnTo (w, z, LAY t) 87 [some (.ref 6), u1, u2, some (.int x3), u4, some (.int y.1), some (.int y.2)] [] s (LAY t)) (ke0 : ∀ y : Int32, o = .inr y → ∀ (u0 u1 u2 u3 u4 u6 : Option Value), Ex (Runs (D + 5)) cd_X8_drawnTo (w, z, LAY t) 122 [u0, u1, u2, u3, u4, some (.int y), u6] [] s (LAY t)) : Ex (Runs (D + 5)) cd_X8_drawnTo (w, z, LAY t) 87 [some (.ref 6), u1, u2, some (.int x3), u4, some (.int x5), some (.int x6)] [] s (LAY t) := by
  unfold X8_drawnTo_b87 at h
  refine Ex_br 5 ((s.1 17 4) ≤ x6) (fun _ => rfl) (fun hc5 => ?_) (fun hc5 => ?_)
  · rw [if_pos hc5] at h
    obtain rfl := Option.some.inj h
    exact ke0 _ rfl _ _ _ _ _ _
  · rw [if_neg hc5] at h
    obtain ⟨r6, hr, h⟩ := m_bind h
    refine Ex_call 5 (fun _ => rfl) (T_X5_trait_17 (D + 2) t x6 0 s r6 hr) rfl rfl ?_
    refine Ex_br 2 (r6 = x3) (fun _ => rfl) (fun hc7 => ?_) (fun hc7 => ?_)
    · rw [if_pos hc7] at h
      refine Ex_sti 1 (fun _ => rfl) ?_
      exact T_X8_drawnTo_j116_87 D t w z x3 (x5 + 1) x6 s _ _ _ _ h kc ke0
    · rw [if_neg hc7] at h
      exact T_X8_drawnTo_j116_87 D t w z x3 x5 x6 s _ _ _ _ h kc ke0

theorem T_X8_drawnTo_l87 (D : Nat) (t : mTX) (w : Option Value) (z : mSG) (x3 : Int32) (s : mSG) (v : Int32 × Int32) (e : Int32) (h : X8_drawnTo_l87 t x3 s v = some e) (ke0 : ∀ y : Int32, e = y → ∀ (u0 u1 u2 u3 u4 u6 : Option Value), Ex (Runs (D + 5)) cd_X8_drawnTo (w, z, LAY t) 122 [u0, u1, u2, u3, u4, some (.int y), u6] [] s (LAY t)) : ∀ (u1 u2 u4 : Option Value), Ex (Runs (D + 5)) cd_X8_drawnTo (w, z, LAY t) 87 [some (.ref 6), u1, u2, some (.int x3), u4, some (.int v.1), some (.int v.2)] [] s (LAY t) :=
  m_iter (P := fun v : Int32 × Int32 => ∀ (u1 u2 u4 : Option Value), Ex (Runs (D + 5)) cd_X8_drawnTo (w, z, LAY t) 87 [some (.ref 6), u1, u2, some (.int x3), u4, some (.int v.1), some (.int v.2)] [] s (LAY t)) (Q := fun e : Int32 => (∀ y : Int32, e = y → ∀ (u0 u1 u2 u3 u4 u6 : Option Value), Ex (Runs (D + 5)) cd_X8_drawnTo (w, z, LAY t) 122 [u0, u1, u2, u3, u4, some (.int y), u6] [] s (LAY t))) (fun x o hx kc kq u1 u2 u4 => T_X8_drawnTo_b87 D t w z x3 x.1 x.2 s u1 u2 u4 o hx kc (fun e he => kq _ he e rfl)) mFU v e h ke0
set_option maxRecDepth 20000 in
theorem T_X8_drawnTo (D : Nat) (t : mTX) (x1 : Int32) (x2 : Int32) (x3 : Int32) (s : mSG) (o : Int32 × mSG) (h : X8_drawnTo t x1 x2 x3 s = some o) : Runs (D + 6) 123 [.ref 6, .int x1, .int x2, .int x3] s (LAY t) (some (.int o.1), o.2, LAY t) := by
  refine Runs_mk (d := D + 5) rfl ?_
  show Ex (Runs (D + 5)) cd_X8_drawnTo (some (.int o.1), o.2, LAY t) 0 [some (.ref 6), some (.int x1), some (.int x2), some (.int x3), none, none, none] [] s (LAY t)
  unfold X8_drawnTo at h
  obtain ⟨r1, hr, h⟩ := m_bind h
  refine Ex_call 5 (fun _ => rfl) (T_X5_become_17_7 (D + 4) t  s r1 hr) rfl rfl ?_
  refine Ex_sti 4 (fun _ => rfl) ?_
  obtain ⟨e17, hl, h⟩ := m_bind h
  refine T_X8_drawnTo_l17 D t (some (.int o.1)) o.2 x2 x3  (x1, 0, r1) _ hl (fun y0 hy0 => ?_) _ _
  · obtain ⟨e17, rfl⟩ : ∃ q, q = y0 := ⟨_, rfl⟩
    subst hy0
    intro vu1 vu2 vu4 vu5 vu6
    refine Ex_sti 4 (fun _ => rfl) ?_
    obtain ⟨e87, hl, h⟩ := m_bind h
    refine T_X8_drawnTo_l87 D t (some (.int o.1)) o.2 x3 e17 (0, 0) _ hl (fun y0 hy0 => ?_) _ _ _
    · obtain ⟨e87, rfl⟩ : ∃ q, q = y0 := ⟨_, rfl⟩
      subst hy0
      intro vu0 vu1 vu2 vu3 vu4 vu6
      obtain rfl := Option.some.inj h
      exact Ex_ret 2 (fun _ => rfl) rfl

set_option maxRecDepth 20000 in
theorem T_X8_drawn (D : Nat) (t : mTX) (x1 : Int32) (x2 : Int32) (x3 : Int32) (s : mSG) (o : Int32 × mSG) (h : X8_drawn t x1 x2 x3 s = some o) : Runs (D + 7) 98 [.ref 6, .int x1, .int x2, .int x3] s (LAY t) (some (.int o.1), o.2, LAY t) := by
  refine Runs_mk (d := D + 6) rfl ?_
  show Ex (Runs (D + 6)) cd_X8_drawn (some (.int o.1), o.2, LAY t) 0 [some (.ref 6), some (.int x1), some (.int x2), some (.int x3)] [] s (LAY t)
  unfold X8_drawn at h
  refine Ex_call 3 (fun _ => rfl) (T_X8_isWithin (D + 5) t x2 30 s _ rfl) rfl rfl ?_
  refine Ex_brZ 1 (X8_isWithin x2 30) (fun _ => rfl) (fun hc => ?_) (fun hc => ?_)
  · rw [if_neg (m_nt hc)] at h
    obtain rfl := Option.some.inj h
    exact Ex_ret 2 (fun _ => rfl) rfl
  · rw [if_pos hc] at h
    refine Ex_call 2 (fun _ => rfl) (T_X8_isStone (D + 4) t x3 s _ rfl) rfl rfl ?_
    refine Ex_brZ 1 (X8_isStone x3) (fun _ => rfl) (fun hc => ?_) (fun hc => ?_)
    · rw [if_neg (m_nt hc)] at h
      obtain rfl := Option.some.inj h
      exact Ex_ret 2 (fun _ => rfl) rfl
    · rw [if_pos hc] at h
      obtain ⟨r1, hr, h⟩ := m_bind h
      refine Ex_call 5 (fun _ => rfl) (T_X8_drawnTo D t x1 x2 x3 s r1 hr) rfl rfl ?_
      obtain rfl := Option.some.inj h
      exact Ex_ret 1 (fun _ => rfl) rfl

set_option maxRecDepth 20000 in
theorem T_X8_commonMeasure_j21_2 (D : Nat) (t : mTX) (w : Option Value) (z : mSG) (x0 : Int32) (x1 : Int32) (x2 : Int32) (s : mSG) (o : Int32 ⊕ (Int32 ⊕ Unit)) (h : X8_commonMeasure_j21_2 x0 x1 x2 = some o) (kc : ∀ y : Int32, o = .inl y → Ex (Runs (D)) cd_X8_commonMeasure (w, z, LAY t) 2 [some (.int x0), some (.int x1), some (.int y)] [] s (LAY t)) (ke0 : ∀ y : Int32, o = .inr (.inl y) → ∀ (u0 u1 : Option Value), Ex (Runs (D)) cd_X8_commonMeasure (w, z, LAY t) 19 [u0, u1, some (.int y)] [] s (LAY t)) (ke1 : ∀ y : Unit, o = .inr (.inr y) → ∀ (u0 u1 u2 : Option Value), Ex (Runs (D)) cd_X8_commonMeasure (w, z, LAY t) 27 [u0, u1, u2] [] s (LAY t)) : Ex (Runs (D)) cd_X8_commonMeasure (w, z, LAY t) 21 [some (.int x0), some (.int x1), some (.int x2)] [] s (LAY t) := by
  unfold X8_commonMeasure_j21_2 at h
  refine Ex_sti 2 (fun _ => rfl) ?_
  obtain rfl := Option.some.inj h
  exact kc _ rfl 

set_option maxRecDepth 20000 in
theorem T_X8_commonMeasure_b2 (D : Nat) (t : mTX) (w : Option Value) (z : mSG) (x0 : Int32) (x1 : Int32) (x2 : Int32) (s : mSG) (o : Int32 ⊕ (Int32 ⊕ Unit)) (h : X8_commonMeasure_b2 x0 x1 x2 = some o) (kc : ∀ y : Int32, o = .inl y → Ex (Runs (D)) cd_X8_commonMeasure (w, z, LAY t) 2 [some (.int x0), some (.int x1), some (.int y)] [] s (LAY t)) (ke0 : ∀ y : Int32, o = .inr (.inl y) → ∀ (u0 u1 : Option Value), Ex (Runs (D)) cd_X8_commonMeasure (w, z, LAY t) 19 [u0, u1, some (.int y)] [] s (LAY t)) (ke1 : ∀ y : Unit, o = .inr (.inr y) → ∀ (u0 u1 u2 : Option Value), Ex (Runs (D)) cd_X8_commonMeasure (w, z, LAY t) 27 [u0, u1, u2] [] s (LAY t)) : Ex (Runs (D)) cd_X8_commonMeasure (w, z, LAY t) 2 [some (.int x0), some (.int x1), some (.int x2)] [] s (LAY t) := by
  unfold X8_commonMeasure_b2 at h
  refine Ex_br 3 (x2 ≤ 1) (fun _ => rfl) (fun hc1 => ?_) (fun hc1 => ?_)
  · rw [if_pos hc1] at h
    obtain rfl := Option.some.inj h
    exact ke1 _ rfl _ _ _
  · rw [if_neg hc1] at h
    obtain ⟨hg5, h⟩ := m_ite h
    refine Ex_gd 3 (fun _ => rfl) hg5 ?_
    refine Ex_br 1 ((x0 - x0 / x2 * x2) = 0) (fun _ => rfl) (fun hc2 => ?_) (fun hc2 => ?_)
    · rw [if_pos hc2] at h
      obtain ⟨hg4, h⟩ := m_ite h
      refine Ex_gd 3 (fun _ => rfl) hg4 ?_
      refine Ex_br 1 ((x1 - x1 / x2 * x2) = 0) (fun _ => rfl) (fun hc3 => ?_) (fun hc3 => ?_)
      · rw [if_pos hc3] at h
        obtain rfl := Option.some.inj h
        exact ke0 _ rfl _ _
      · rw [if_neg hc3] at h
        exact T_X8_commonMeasure_j21_2 D t w z x0 x1 x2 s  _ h kc ke0 ke1
    · rw [if_neg hc2] at h
      exact T_X8_commonMeasure_j21_2 D t w z x0 x1 x2 s  _ h kc ke0 ke1

theorem T_X8_commonMeasure_l2 (D : Nat) (t : mTX) (w : Option Value) (z : mSG) (x0 : Int32) (x1 : Int32) (s : mSG) (v : Int32) (e : (Int32 ⊕ Unit)) (h : X8_commonMeasure_l2 x0 x1 v = some e) (ke0 : ∀ y : Int32, e = (.inl y) → ∀ (u0 u1 : Option Value), Ex (Runs (D)) cd_X8_commonMeasure (w, z, LAY t) 19 [u0, u1, some (.int y)] [] s (LAY t)) (ke1 : ∀ y : Unit, e = (.inr y) → ∀ (u0 u1 u2 : Option Value), Ex (Runs (D)) cd_X8_commonMeasure (w, z, LAY t) 27 [u0, u1, u2] [] s (LAY t)) : Ex (Runs (D)) cd_X8_commonMeasure (w, z, LAY t) 2 [some (.int x0), some (.int x1), some (.int v)] [] s (LAY t) :=
  m_iter (P := fun v : Int32 => Ex (Runs (D)) cd_X8_commonMeasure (w, z, LAY t) 2 [some (.int x0), some (.int x1), some (.int v)] [] s (LAY t)) (Q := fun e : (Int32 ⊕ Unit) => (∀ y : Int32, e = (.inl y) → ∀ (u0 u1 : Option Value), Ex (Runs (D)) cd_X8_commonMeasure (w, z, LAY t) 19 [u0, u1, some (.int y)] [] s (LAY t)) ∧ (∀ y : Unit, e = (.inr y) → ∀ (u0 u1 u2 : Option Value), Ex (Runs (D)) cd_X8_commonMeasure (w, z, LAY t) 27 [u0, u1, u2] [] s (LAY t))) (fun x o hx kc kq  => T_X8_commonMeasure_b2 D t w z x0 x1 x s  o hx kc (fun e he => (kq _ (by rw [he])).1 e rfl) (fun e he => (kq _ (by rw [he])).2 e rfl)) mFU v e h ⟨ke0, ke1⟩
set_option maxRecDepth 20000 in
theorem T_X8_commonMeasure (D : Nat) (t : mTX) (x0 : Int32) (x1 : Int32) (s : mSG) (o : Int32) (h : X8_commonMeasure x0 x1 = some o) : Runs (D + 1) 124 [.int x0, .int x1] s (LAY t) (some (.int o), s, LAY t) := by
  refine Runs_mk (d := D) rfl ?_
  show Ex (Runs (D)) cd_X8_commonMeasure (some (.int o), s, LAY t) 0 [some (.int x0), some (.int x1), none] [] s (LAY t)
  unfold X8_commonMeasure at h
  refine Ex_sti 2 (fun _ => rfl) ?_
  obtain ⟨e2, hl, h⟩ := m_bind h
  refine T_X8_commonMeasure_l2 D t (some (.int o)) s x0 x1 s x1 _ hl (fun y0 hy0 => ?_) (fun y1 hy1 => ?_) 
  · obtain ⟨e2_0, rfl⟩ : ∃ q, q = y0 := ⟨_, rfl⟩
    subst hy0
    simp only [Sum.elim_inl, Sum.elim_inr] at h
    intro vu0 vu1
    obtain rfl := Option.some.inj h
    exact Ex_ret 2 (fun _ => rfl) rfl
  · obtain ⟨e2_1, rfl⟩ : ∃ q, q = y1 := ⟨_, rfl⟩
    subst hy1
    simp only [Sum.elim_inl, Sum.elim_inr] at h
    intro vu0 vu1 vu2
    obtain rfl := Option.some.inj h
    exact Ex_ret 2 (fun _ => rfl) rfl

set_option maxRecDepth 20000 in
theorem T_X8_chance_j72_49 (D : Nat) (t : mTX) (w : Option Value) (z : mSG) (x1 : Int32) (x2 : Int32) (x3 : Int32) (x4 : Int32) (x5 : Int32) (x6 : Int32) (x7 : Int32) (s : mSG) (o : (Int32 × Int32 × mSG) ⊕ Int32 × mSG) (h : X8_chance_j72_49 t x1 x2 x3 x4 x5 x6 x7 s = some o) (kc : ∀ y : Int32 × Int32 × mSG, o = .inl y → Ex (Runs (D + 6)) cd_X8_chance (w, z, LAY t) 49 [some (.ref 6), some (.int x1), some (.int x2), some (.int x3), some (.int x4), some (.int x5), some (.int y.1), some (.int y.2.1)] [] y.2.2 (LAY t)) (ke0 : ∀ y : Int32 × mSG, o = .inr y → ∀ (u0 u1 u3 u4 u7 : Option Value), Ex (Runs (D + 6)) cd_X8_chance (w, z, LAY t) 78 [u0, u1, some (.int x2), u3, u4, some (.int x5), some (.int y.1), u7] [] y.2 (LAY t)) : Ex (Runs (D + 6)) cd_X8_chance (w, z, LAY t) 72 [some (.ref 6), some (.int x1), some (.int x2), some (.int x3), some (.int x4), some (.int x5), some (.int x6), some (.int x7)] [] s (LAY t) := by
  unfold X8_chance_j72_49 at h
  refine Ex_sti 2 (fun _ => rfl) ?_
  obtain rfl := Option.some.inj h
  exact kc _ rfl 

set_option maxRecDepth 20000 in
theorem T_X8_chance_b49 (D : Nat) (t : mTX) (w : Option Value) (z : mSG) (x1 : Int32) (x2 : Int32) (x3 : Int32) (x4 : Int32) (x5 : Int32) (x6 : Int32) (x7 : Int32) (s : mSG) (o : (Int32 × Int32 × mSG) ⊕ Int32 × mSG) (h : X8_chance_b49 t x1 x2 x3 x4 x5 x6 x7 s = some o) (kc : ∀ y : Int32 × Int32 × mSG, o = .inl y → Ex (Runs (D + 6)) cd_X8_chance (w, z, LAY t) 49 [some (.ref 6), some (.int x1), some (.int x2), some (.int x3), some (.int x4), some (.int x5), some (.int y.1), some (.int y.2.1)] [] y.2.2 (LAY t)) (ke0 : ∀ y : Int32 × mSG, o = .inr y → ∀ (u0 u1 u3 u4 u7 : Option Value), Ex (Runs (D + 6)) cd_X8_chance (w, z, LAY t) 78 [u0, u1, some (.int x2), u3, u4, some (.int x5), some (.int y.1), u7] [] y.2 (LAY t)) : Ex (Runs (D + 6)) cd_X8_chance (w, z, LAY t) 49 [some (.ref 6), some (.int x1), some (.int x2), some (.int x3), some (.int x4), some (.int x5), some (.int x6), some (.int x7)] [] s (LAY t) := by
  unfold X8_chance_b49 at h
  refine Ex_br 3 (x2 ≤ x7) (fun _ => rfl) (fun hc2 => ?_) (fun hc2 => ?_)
  · rw [if_pos hc2] at h
    obtain rfl := Option.some.inj h
    exact ke0 _ rfl _ _ _ _ _
  · rw [if_neg hc2] at h
    obtain ⟨r3, hr, h⟩ := m_bind h
    refine Ex_call 7 (fun _ => rfl) (T_X8_drawnTo D t (x1 + x7) x3 x4 s r3 hr) rfl rfl ?_
    refine Ex_br 1 (r3.1 ≤ 0) (fun _ => rfl) (fun hc4 => ?_) (fun hc4 => ?_)
    · rw [if_pos hc4] at h
      exact T_X8_chance_j72_49 D t w z x1 x2 x3 x4 x5 x6 x7 r3.2  _ h kc ke0
    · rw [if_neg hc4] at h
      refine Ex_sti 1 (fun _ => rfl) ?_
      exact T_X8_chance_j72_49 D t w z x1 x2 x3 x4 x5 (x6 + 1) x7 r3.2  _ h kc ke0

theorem T_X8_chance_l49 (D : Nat) (t : mTX) (w : Option Value) (z : mSG) (x1 : Int32) (x2 : Int32) (x3 : Int32) (x4 : Int32) (x5 : Int32) (v : Int32 × Int32 × mSG) (e : Int32 × mSG) (h : X8_chance_l49 t x1 x2 x3 x4 x5 v = some e) (ke0 : ∀ y : Int32 × mSG, e = y → ∀ (u0 u1 u3 u4 u7 : Option Value), Ex (Runs (D + 6)) cd_X8_chance (w, z, LAY t) 78 [u0, u1, some (.int x2), u3, u4, some (.int x5), some (.int y.1), u7] [] y.2 (LAY t)) : Ex (Runs (D + 6)) cd_X8_chance (w, z, LAY t) 49 [some (.ref 6), some (.int x1), some (.int x2), some (.int x3), some (.int x4), some (.int x5), some (.int v.1), some (.int v.2.1)] [] v.2.2 (LAY t) :=
  m_iter (P := fun v : Int32 × Int32 × mSG => Ex (Runs (D + 6)) cd_X8_chance (w, z, LAY t) 49 [some (.ref 6), some (.int x1), some (.int x2), some (.int x3), some (.int x4), some (.int x5), some (.int v.1), some (.int v.2.1)] [] v.2.2 (LAY t)) (Q := fun e : Int32 × mSG => (∀ y : Int32 × mSG, e = y → ∀ (u0 u1 u3 u4 u7 : Option Value), Ex (Runs (D + 6)) cd_X8_chance (w, z, LAY t) 78 [u0, u1, some (.int x2), u3, u4, some (.int x5), some (.int y.1), u7] [] y.2 (LAY t))) (fun x o hx kc kq  => T_X8_chance_b49 D t w z x1 x2 x3 x4 x5 x.1 x.2.1 x.2.2  o hx kc (fun e he => kq _ he e rfl)) mFU v e h ke0
set_option maxRecDepth 20000 in
theorem T_X8_chance (D : Nat) (t : mTX) (x1 : Int32) (x2 : Int32) (x3 : Int32) (x4 : Int32) (x5 : Int32) (s : mSG) (o : Int64 × mSG) (h : X8_chance t x1 x2 x3 x4 x5 s = some o) : Runs (D + 7) 99 [.ref 6, .int x1, .int x2, .int x3, .int x4, .int x5] s (LAY t) (some (.long o.1), o.2, LAY t) := by
  refine Runs_mk (d := D + 6) rfl ?_
  show Ex (Runs (D + 6)) cd_X8_chance (some (.long o.1), o.2, LAY t) 0 [some (.ref 6), some (.int x1), some (.int x2), some (.int x3), some (.int x4), some (.int x5), none, none] [] s (LAY t)
  unfold X8_chance at h
  refine Ex_call 3 (fun _ => rfl) (T_X8_isWithin (D + 5) t x2 20 s _ rfl) rfl rfl ?_
  refine Ex_brZ 1 (X8_isWithin x2 20) (fun _ => rfl) (fun hc => ?_) (fun hc => ?_)
  · rw [if_neg (m_nt hc)] at h
    obtain rfl := Option.some.inj h
    exact Ex_ret 2 (fun _ => rfl) rfl
  · rw [if_pos hc] at h
    refine Ex_br 2 (x2 = 0) (fun _ => rfl) (fun hc1 => ?_) (fun hc1 => ?_)
    · rw [if_pos hc1] at h
      obtain rfl := Option.some.inj h
      exact Ex_ret 2 (fun _ => rfl) rfl
    · rw [if_neg hc1] at h
      refine Ex_call 3 (fun _ => rfl) (T_X8_isWithin (D + 5) t x3 30 s _ rfl) rfl rfl ?_
      refine Ex_brZ 1 (X8_isWithin x3 30) (fun _ => rfl) (fun hc => ?_) (fun hc => ?_)
      · rw [if_neg (m_nt hc)] at h
        obtain rfl := Option.some.inj h
        exact Ex_ret 2 (fun _ => rfl) rfl
      · rw [if_pos hc] at h
        refine Ex_call 2 (fun _ => rfl) (T_X8_isStone (D + 4) t x4 s _ rfl) rfl rfl ?_
        refine Ex_brZ 1 (X8_isStone x4) (fun _ => rfl) (fun hc => ?_) (fun hc => ?_)
        · rw [if_neg (m_nt hc)] at h
          obtain rfl := Option.some.inj h
          exact Ex_ret 2 (fun _ => rfl) rfl
        · rw [if_pos hc] at h
          refine Ex_call 3 (fun _ => rfl) (T_X8_isWithin (D + 5) t x5 1 s _ rfl) rfl rfl ?_
          refine Ex_brZ 1 (X8_isWithin x5 1) (fun _ => rfl) (fun hc => ?_) (fun hc => ?_)
          · rw [if_neg (m_nt hc)] at h
            obtain rfl := Option.some.inj h
            exact Ex_ret 2 (fun _ => rfl) rfl
          · rw [if_pos hc] at h
            refine Ex_sti 4 (fun _ => rfl) ?_
            obtain ⟨e49, hl, h⟩ := m_bind h
            refine T_X8_chance_l49 D t (some (.long o.1)) o.2 x1 x2 x3 x4 x5  (0, 0, s) _ hl (fun y0 hy0 => ?_) 
            · obtain ⟨e49, rfl⟩ : ∃ q, q = y0 := ⟨_, rfl⟩
              subst hy0
              intro vu0 vu1 vu3 vu4 vu7
              obtain ⟨r9, hr, h⟩ := m_bind h
              refine Ex_call 3 (fun _ => rfl) (T_X8_commonMeasure (D + 5) t e49.1 x2 e49.2 r9 hr) rfl rfl ?_
              refine Ex_br 3 (x5 = 0) (fun _ => rfl) (fun hc10 => ?_) (fun hc10 => ?_)
              · rw [if_pos hc10] at h
                obtain ⟨hg11, h⟩ := m_ite h
                refine Ex_gd 3 (fun _ => rfl) hg11 ?_
                obtain rfl := Option.some.inj h
                exact Ex_ret 3 (fun _ => rfl) rfl
              · rw [if_neg hc10] at h
                obtain ⟨hg12, h⟩ := m_ite h
                refine Ex_gd 3 (fun _ => rfl) hg12 ?_
                obtain rfl := Option.some.inj h
                exact Ex_ret 2 (fun _ => rfl) rfl

set_option maxRecDepth 20000 in
theorem T_X5_become_12_7 (D : Nat) (t : mTX) (s : mSG) (o : mSG) (h : X5_become_12_7 s = some o) : Runs (D + 1) 53 [.ref 12, .ref 7] s (LAY t) (none, o, LAY t) := by
  refine Runs_mk (d := D) rfl ?_
  show Ex (Runs (D)) cd_X5_become (none, o, LAY t) 0 [some (.ref 12), some (.ref 7)] [] s (LAY t)
  unfold X5_become_12_7 at h
  refine Ex_gd2 10 (fun _ => rfl) (show ¬ (0 : Int32) < 0 ∧ ¬ (0 : Int32) < 0 ∧ ¬ (Int32.ofNat 64) < 0 ∧ (0 : Int32).toNatClampNeg + (Int32.ofNat 64).toNatClampNeg ≤ 64 ∧ (0 : Int32).toNatClampNeg + (Int32.ofNat 64).toNatClampNeg ≤ 64 from by decide) (Nat.le_of_ble_eq_true rfl) ?_
  refine Ex_gd2 10 (fun _ => rfl) (show ¬ (0 : Int32) < 0 ∧ ¬ (0 : Int32) < 0 ∧ ¬ (Int32.ofNat 30) < 0 ∧ (0 : Int32).toNatClampNeg + (Int32.ofNat 30).toNatClampNeg ≤ 30 ∧ (0 : Int32).toNatClampNeg + (Int32.ofNat 30).toNatClampNeg ≤ 30 from by decide) (Nat.le_of_ble_eq_true rfl) ?_
  refine Ex_gd2 10 (fun _ => rfl) (show ¬ (0 : Int32) < 0 ∧ ¬ (0 : Int32) < 0 ∧ ¬ (Int32.ofNat 25) < 0 ∧ (0 : Int32).toNatClampNeg + (Int32.ofNat 25).toNatClampNeg ≤ 25 ∧ (0 : Int32).toNatClampNeg + (Int32.ofNat 25).toNatClampNeg ≤ 25 from by decide) (Nat.le_of_ble_eq_true rfl) ?_
  refine Ex_gd2 10 (fun _ => rfl) (show ¬ (0 : Int32) < 0 ∧ ¬ (0 : Int32) < 0 ∧ ¬ (Int32.ofNat 24) < 0 ∧ (0 : Int32).toNatClampNeg + (Int32.ofNat 24).toNatClampNeg ≤ 24 ∧ (0 : Int32).toNatClampNeg + (Int32.ofNat 24).toNatClampNeg ≤ 24 from by decide) (Nat.le_of_ble_eq_true rfl) ?_
  obtain rfl := Option.some.inj h
  exact Ex_ret 13 (fun _ => rfl) rfl

set_option maxRecDepth 20000 in
theorem T_X8_image (D : Nat) (t : mTX) (s : mSG) (o : Int32 × mSG) (h : X8_image s = some o) : Runs (D + 2) 100 [.ref 6] s (LAY t) (some (.int o.1), o.2, LAY t) := by
  refine Runs_mk (d := D + 1) rfl ?_
  show Ex (Runs (D + 1)) cd_X8_image (some (.int o.1), o.2, LAY t) 0 [some (.ref 6)] [] s (LAY t)
  unfold X8_image at h
  obtain ⟨r1, hr, h⟩ := m_bind h
  refine Ex_call 5 (fun _ => rfl) (T_X5_become_12_7 D t  s r1 hr) rfl rfl ?_
  refine Ex_gd 3 (fun _ => rfl) (Or.inr rfl) ?_
  obtain rfl := Option.some.inj h
  exact Ex_ret 4 (fun _ => rfl) rfl

set_option maxRecDepth 20000 in
theorem T_X5_become_7_12 (D : Nat) (t : mTX) (s : mSG) (o : mSG) (h : X5_become_7_12 s = some o) : Runs (D + 1) 53 [.ref 7, .ref 12] s (LAY t) (none, o, LAY t) := by
  refine Runs_mk (d := D) rfl ?_
  show Ex (Runs (D)) cd_X5_become (none, o, LAY t) 0 [some (.ref 7), some (.ref 12)] [] s (LAY t)
  unfold X5_become_7_12 at h
  refine Ex_gd2 10 (fun _ => rfl) (show ¬ (0 : Int32) < 0 ∧ ¬ (0 : Int32) < 0 ∧ ¬ (Int32.ofNat 64) < 0 ∧ (0 : Int32).toNatClampNeg + (Int32.ofNat 64).toNatClampNeg ≤ 64 ∧ (0 : Int32).toNatClampNeg + (Int32.ofNat 64).toNatClampNeg ≤ 64 from by decide) (Nat.le_of_ble_eq_true rfl) ?_
  refine Ex_gd2 10 (fun _ => rfl) (show ¬ (0 : Int32) < 0 ∧ ¬ (0 : Int32) < 0 ∧ ¬ (Int32.ofNat 30) < 0 ∧ (0 : Int32).toNatClampNeg + (Int32.ofNat 30).toNatClampNeg ≤ 30 ∧ (0 : Int32).toNatClampNeg + (Int32.ofNat 30).toNatClampNeg ≤ 30 from by decide) (Nat.le_of_ble_eq_true rfl) ?_
  refine Ex_gd2 10 (fun _ => rfl) (show ¬ (0 : Int32) < 0 ∧ ¬ (0 : Int32) < 0 ∧ ¬ (Int32.ofNat 25) < 0 ∧ (0 : Int32).toNatClampNeg + (Int32.ofNat 25).toNatClampNeg ≤ 25 ∧ (0 : Int32).toNatClampNeg + (Int32.ofNat 25).toNatClampNeg ≤ 25 from by decide) (Nat.le_of_ble_eq_true rfl) ?_
  refine Ex_gd2 10 (fun _ => rfl) (show ¬ (0 : Int32) < 0 ∧ ¬ (0 : Int32) < 0 ∧ ¬ (Int32.ofNat 24) < 0 ∧ (0 : Int32).toNatClampNeg + (Int32.ofNat 24).toNatClampNeg ≤ 24 ∧ (0 : Int32).toNatClampNeg + (Int32.ofNat 24).toNatClampNeg ≤ 24 from by decide) (Nat.le_of_ble_eq_true rfl) ?_
  obtain rfl := Option.some.inj h
  exact Ex_ret 13 (fun _ => rfl) rfl

set_option maxRecDepth 20000 in
theorem T_X8_back (D : Nat) (t : mTX) (s : mSG) (o : Int32 × mSG) (h : X8_back s = some o) : Runs (D + 2) 101 [.ref 6] s (LAY t) (some (.int o.1), o.2, LAY t) := by
  refine Runs_mk (d := D + 1) rfl ?_
  show Ex (Runs (D + 1)) cd_X8_back (some (.int o.1), o.2, LAY t) 0 [some (.ref 6)] [] s (LAY t)
  unfold X8_back at h
  refine Ex_br 3 ((s.1 6 10) = 0) (fun _ => rfl) (fun hc1 => ?_) (fun hc1 => ?_)
  · rw [if_pos hc1] at h
    obtain rfl := Option.some.inj h
    exact Ex_ret 2 (fun _ => rfl) rfl
  · rw [if_neg hc1] at h
    obtain ⟨r2, hr, h⟩ := m_bind h
    refine Ex_call 5 (fun _ => rfl) (T_X5_become_7_12 D t  s r2 hr) rfl rfl ?_
    obtain rfl := Option.some.inj h
    exact Ex_ret 4 (fun _ => rfl) rfl

set_option maxRecDepth 20000 in
theorem T_X5_muddyPairs_7_j32_14 (D : Nat) (t : mTX) (w : Option Value) (z : mSG) (x1 : Int32) (x2 : Int32) (x3 : Int32) (s : mSG) (o : (Int32 × Int32) ⊕ Int32) (h : X5_muddyPairs_7_j32_14 x1 x2 x3 s = some o) (kc : ∀ y : Int32 × Int32, o = .inl y → Ex (Runs (D + 4)) cd_X5_muddyPairs (w, z, LAY t) 14 [some (.ref 7), some (.int y.1), some (.int x2), some (.int y.2)] [] s (LAY t)) (ke0 : ∀ y : Int32, o = .inr y → ∀ (u3 : Option Value), Ex (Runs (D + 4)) cd_X5_muddyPairs (w, z, LAY t) 38 [some (.ref 7), some (.int y), some (.int x2), u3] [] s (LAY t)) : Ex (Runs (D + 4)) cd_X5_muddyPairs (w, z, LAY t) 32 [some (.ref 7), some (.int x1), some (.int x2), some (.int x3)] [] s (LAY t) := by
  unfold X5_muddyPairs_7_j32_14 at h
  refine Ex_sti 2 (fun _ => rfl) ?_
  obtain rfl := Option.some.inj h
  exact kc _ rfl 

set_option maxRecDepth 20000 in
theorem T_X5_muddyPairs_7_b14 (D : Nat) (t : mTX) (w : Option Value) (z : mSG) (x2 : Int32) (x1 : Int32) (x3 : Int32) (s : mSG) (o : (Int32 × Int32) ⊕ Int32) (h : X5_muddyPairs_7_b14 x2 x1 x3 s = some o) (kc : ∀ y : Int32 × Int32, o = .inl y → Ex (Runs (D + 4)) cd_X5_muddyPairs (w, z, LAY t) 14 [some (.ref 7), some (.int y.1), some (.int x2), some (.int y.2)] [] s (LAY t)) (ke0 : ∀ y : Int32, o = .inr y → ∀ (u3 : Option Value), Ex (Runs (D + 4)) cd_X5_muddyPairs (w, z, LAY t) 38 [some (.ref 7), some (.int y), some (.int x2), u3] [] s (LAY t)) : Ex (Runs (D + 4)) cd_X5_muddyPairs (w, z, LAY t) 14 [some (.ref 7), some (.int x1), some (.int x2), some (.int x3)] [] s (LAY t) := by
  unfold X5_muddyPairs_7_b14 at h
  refine Ex_br 3 (8 ≤ x3) (fun _ => rfl) (fun hc2 => ?_) (fun hc2 => ?_)
  · rw [if_pos hc2] at h
    obtain rfl := Option.some.inj h
    exact ke0 _ rfl _
  · rw [if_neg hc2] at h
    obtain ⟨r3, hr, h⟩ := m_bind h
    refine Ex_call 4 (fun _ => rfl) (T_X5_mudBetween_7 D t x2 x3 s r3 hr) rfl rfl ?_
    refine Ex_br 1 (r3 ≤ 0) (fun _ => rfl) (fun hc4 => ?_) (fun hc4 => ?_)
    · rw [if_pos hc4] at h
      exact T_X5_muddyPairs_7_j32_14 D t w z x1 x2 x3 s  _ h kc ke0
    · rw [if_neg hc4] at h
      refine Ex_sti 1 (fun _ => rfl) ?_
      exact T_X5_muddyPairs_7_j32_14 D t w z (x1 + 1) x2 x3 s  _ h kc ke0

theorem T_X5_muddyPairs_7_l14 (D : Nat) (t : mTX) (w : Option Value) (z : mSG) (x2 : Int32) (s : mSG) (v : Int32 × Int32) (e : Int32) (h : X5_muddyPairs_7_l14 x2 s v = some e) (ke0 : ∀ y : Int32, e = y → ∀ (u3 : Option Value), Ex (Runs (D + 4)) cd_X5_muddyPairs (w, z, LAY t) 38 [some (.ref 7), some (.int y), some (.int x2), u3] [] s (LAY t)) : Ex (Runs (D + 4)) cd_X5_muddyPairs (w, z, LAY t) 14 [some (.ref 7), some (.int v.1), some (.int x2), some (.int v.2)] [] s (LAY t) :=
  m_iter (P := fun v : Int32 × Int32 => Ex (Runs (D + 4)) cd_X5_muddyPairs (w, z, LAY t) 14 [some (.ref 7), some (.int v.1), some (.int x2), some (.int v.2)] [] s (LAY t)) (Q := fun e : Int32 => (∀ y : Int32, e = y → ∀ (u3 : Option Value), Ex (Runs (D + 4)) cd_X5_muddyPairs (w, z, LAY t) 38 [some (.ref 7), some (.int y), some (.int x2), u3] [] s (LAY t))) (fun x o hx kc kq  => T_X5_muddyPairs_7_b14 D t w z x2 x.1 x.2 s  o hx kc (fun e he => kq _ he e rfl)) mFU v e h ke0
set_option maxRecDepth 20000 in
theorem T_X5_muddyPairs_7_b4 (D : Nat) (t : mTX) (w : Option Value) (z : mSG) (x1 : Int32) (x2 : Int32) (s : mSG) (u3 : Option Value) (o : (Int32 × Int32) ⊕ Int32) (h : X5_muddyPairs_7_b4 x1 x2 s = some o) (kc : ∀ y : Int32 × Int32, o = .inl y → ∀ (u3 : Option Value), Ex (Runs (D + 4)) cd_X5_muddyPairs (w, z, LAY t) 4 [some (.ref 7), some (.int y.1), some (.int y.2), u3] [] s (LAY t)) (ke0 : ∀ y : Int32, o = .inr y → ∀ (u0 u2 u3 : Option Value), Ex (Runs (D + 4)) cd_X5_muddyPairs (w, z, LAY t) 44 [u0, some (.int y), u2, u3] [] s (LAY t)) : Ex (Runs (D + 4)) cd_X5_muddyPairs (w, z, LAY t) 4 [some (.ref 7), some (.int x1), some (.int x2), u3] [] s (LAY t) := by
  unfold X5_muddyPairs_7_b4 at h
  refine Ex_br 3 (8 ≤ x2) (fun _ => rfl) (fun hc1 => ?_) (fun hc1 => ?_)
  · rw [if_pos hc1] at h
    obtain rfl := Option.some.inj h
    exact ke0 _ rfl _ _ _
  · rw [if_neg hc1] at h
    refine Ex_sti 4 (fun _ => rfl) ?_
    obtain ⟨e14, hl, h⟩ := m_bind h
    refine T_X5_muddyPairs_7_l14 D t w z x2 s (x1, x2 + 1) _ hl (fun y0 hy0 => ?_) 
    · obtain ⟨e14, rfl⟩ : ∃ q, q = y0 := ⟨_, rfl⟩
      subst hy0
      intro vu3
      refine Ex_sti 2 (fun _ => rfl) ?_
      obtain rfl := Option.some.inj h
      exact kc _ rfl _

theorem T_X5_muddyPairs_7_l4 (D : Nat) (t : mTX) (w : Option Value) (z : mSG) (s : mSG) (v : Int32 × Int32) (e : Int32) (h : X5_muddyPairs_7_l4 s v = some e) (ke0 : ∀ y : Int32, e = y → ∀ (u0 u2 u3 : Option Value), Ex (Runs (D + 4)) cd_X5_muddyPairs (w, z, LAY t) 44 [u0, some (.int y), u2, u3] [] s (LAY t)) : ∀ (u3 : Option Value), Ex (Runs (D + 4)) cd_X5_muddyPairs (w, z, LAY t) 4 [some (.ref 7), some (.int v.1), some (.int v.2), u3] [] s (LAY t) :=
  m_iter (P := fun v : Int32 × Int32 => ∀ (u3 : Option Value), Ex (Runs (D + 4)) cd_X5_muddyPairs (w, z, LAY t) 4 [some (.ref 7), some (.int v.1), some (.int v.2), u3] [] s (LAY t)) (Q := fun e : Int32 => (∀ y : Int32, e = y → ∀ (u0 u2 u3 : Option Value), Ex (Runs (D + 4)) cd_X5_muddyPairs (w, z, LAY t) 44 [u0, some (.int y), u2, u3] [] s (LAY t))) (fun x o hx kc kq u3 => T_X5_muddyPairs_7_b4 D t w z  x.1 x.2 s u3 o hx kc (fun e he => kq _ he e rfl)) mFU v e h ke0
set_option maxRecDepth 20000 in
theorem T_X5_muddyPairs_7 (D : Nat) (t : mTX) (s : mSG) (o : Int32) (h : X5_muddyPairs_7 s = some o) : Runs (D + 5) 59 [.ref 7] s (LAY t) (some (.int o), s, LAY t) := by
  refine Runs_mk (d := D + 4) rfl ?_
  show Ex (Runs (D + 4)) cd_X5_muddyPairs (some (.int o), s, LAY t) 0 [some (.ref 7), none, none, none] [] s (LAY t)
  unfold X5_muddyPairs_7 at h
  refine Ex_sti 4 (fun _ => rfl) ?_
  obtain ⟨e4, hl, h⟩ := m_bind h
  refine T_X5_muddyPairs_7_l4 D t (some (.int o)) s  s (0, 0) _ hl (fun y0 hy0 => ?_) _
  · obtain ⟨e4, rfl⟩ : ∃ q, q = y0 := ⟨_, rfl⟩
    subst hy0
    intro vu0 vu2 vu3
    obtain rfl := Option.some.inj h
    exact Ex_ret 2 (fun _ => rfl) rfl

set_option maxRecDepth 20000 in
theorem T_X5_allDebts_7_b4 (D : Nat) (t : mTX) (w : Option Value) (z : mSG) (x1 : Int32) (x2 : Int32) (s : mSG) (o : (Int32 × Int32) ⊕ Int32) (h : X5_allDebts_7_b4 x1 x2 s = some o) (kc : ∀ y : Int32 × Int32, o = .inl y → Ex (Runs (D + 4)) cd_X5_allDebts (w, z, LAY t) 4 [some (.ref 7), some (.int y.1), some (.int y.2)] [] s (LAY t)) (ke0 : ∀ y : Int32, o = .inr y → ∀ (u0 u2 : Option Value), Ex (Runs (D + 4)) cd_X5_allDebts (w, z, LAY t) 26 [u0, some (.int y), u2] [] s (LAY t)) : Ex (Runs (D + 4)) cd_X5_allDebts (w, z, LAY t) 4 [some (.ref 7), some (.int x1), some (.int x2)] [] s (LAY t) := by
  unfold X5_allDebts_7_b4 at h
  refine Ex_br 4 ((s.1 7 4) ≤ x2) (fun _ => rfl) (fun hc1 => ?_) (fun hc1 => ?_)
  · rw [if_pos hc1] at h
    obtain rfl := Option.some.inj h
    exact ke0 _ rfl _ _
  · rw [if_neg hc1] at h
    obtain ⟨r2, hr, h⟩ := m_bind h
    refine Ex_call 4 (fun _ => rfl) (T_X5_owes_7 D t x2 s r2 hr) rfl rfl ?_
    refine Ex_sti 4 (fun _ => rfl) ?_
    obtain rfl := Option.some.inj h
    exact kc _ rfl 

theorem T_X5_allDebts_7_l4 (D : Nat) (t : mTX) (w : Option Value) (z : mSG) (s : mSG) (v : Int32 × Int32) (e : Int32) (h : X5_allDebts_7_l4 s v = some e) (ke0 : ∀ y : Int32, e = y → ∀ (u0 u2 : Option Value), Ex (Runs (D + 4)) cd_X5_allDebts (w, z, LAY t) 26 [u0, some (.int y), u2] [] s (LAY t)) : Ex (Runs (D + 4)) cd_X5_allDebts (w, z, LAY t) 4 [some (.ref 7), some (.int v.1), some (.int v.2)] [] s (LAY t) :=
  m_iter (P := fun v : Int32 × Int32 => Ex (Runs (D + 4)) cd_X5_allDebts (w, z, LAY t) 4 [some (.ref 7), some (.int v.1), some (.int v.2)] [] s (LAY t)) (Q := fun e : Int32 => (∀ y : Int32, e = y → ∀ (u0 u2 : Option Value), Ex (Runs (D + 4)) cd_X5_allDebts (w, z, LAY t) 26 [u0, some (.int y), u2] [] s (LAY t))) (fun x o hx kc kq  => T_X5_allDebts_7_b4 D t w z  x.1 x.2 s  o hx kc (fun e he => kq _ he e rfl)) mFU v e h ke0
set_option maxRecDepth 20000 in
theorem T_X5_allDebts_7 (D : Nat) (t : mTX) (s : mSG) (o : Int32) (h : X5_allDebts_7 s = some o) : Runs (D + 5) 66 [.ref 7] s (LAY t) (some (.int o), s, LAY t) := by
  refine Runs_mk (d := D + 4) rfl ?_
  show Ex (Runs (D + 4)) cd_X5_allDebts (some (.int o), s, LAY t) 0 [some (.ref 7), none, none] [] s (LAY t)
  unfold X5_allDebts_7 at h
  refine Ex_sti 4 (fun _ => rfl) ?_
  obtain ⟨e4, hl, h⟩ := m_bind h
  refine T_X5_allDebts_7_l4 D t (some (.int o)) s  s (0, 0) _ hl (fun y0 hy0 => ?_) 
  · obtain ⟨e4, rfl⟩ : ∃ q, q = y0 := ⟨_, rfl⟩
    subst hy0
    intro vu0 vu2
    obtain rfl := Option.some.inj h
    exact Ex_ret 2 (fun _ => rfl) rfl

set_option maxRecDepth 20000 in
theorem T_X8_count (D : Nat) (t : mTX) (x1 : Int32) (s : mSG) (o : Int32) (h : X8_count x1 s = some o) : Runs (D + 6) 102 [.ref 6, .int x1] s (LAY t) (some (.int o), s, LAY t) := by
  refine Runs_mk (d := D + 5) rfl ?_
  show Ex (Runs (D + 5)) cd_X8_count (some (.int o), s, LAY t) 0 [some (.ref 6), some (.int x1)] [] s (LAY t)
  unfold X8_count at h
  refine Ex_sw 2 (fun _ => rfl) ?_
  refine mSwE_cons (fun hc => ?_) (fun hc => ?_)
  · rw [if_pos hc] at h
    obtain rfl := Option.some.inj h
    exact Ex_ret 4 (fun _ => rfl) rfl
  · rw [if_neg hc] at h
    refine mSwE_cons (fun hc => ?_) (fun hc => ?_)
    · rw [if_pos hc] at h
      obtain ⟨r1, hr, h⟩ := m_bind h
      refine Ex_call 3 (fun _ => rfl) (T_X5_muddyPairs_7 D t  s r1 hr) rfl rfl ?_
      obtain rfl := Option.some.inj h
      exact Ex_ret 1 (fun _ => rfl) rfl
    · rw [if_neg hc] at h
      refine mSwE_cons (fun hc => ?_) (fun hc => ?_)
      · rw [if_pos hc] at h
        obtain rfl := Option.some.inj h
        exact Ex_ret 4 (fun _ => rfl) rfl
      · rw [if_neg hc] at h
        refine mSwE_cons (fun hc => ?_) (fun hc => ?_)
        · rw [if_pos hc] at h
          obtain ⟨r2, hr, h⟩ := m_bind h
          refine Ex_call 3 (fun _ => rfl) (T_X5_rainNow_7 (D + 2) t  s r2 hr) rfl rfl ?_
          obtain rfl := Option.some.inj h
          exact Ex_ret 1 (fun _ => rfl) rfl
        · rw [if_neg hc] at h
          refine mSwE_cons (fun hc => ?_) (fun hc => ?_)
          · rw [if_pos hc] at h
            obtain rfl := Option.some.inj h
            exact Ex_ret 3 (fun _ => rfl) rfl
          · rw [if_neg hc] at h
            refine mSwE_cons (fun hc => ?_) (fun hc => ?_)
            · rw [if_pos hc] at h
              obtain rfl := Option.some.inj h
              exact Ex_ret 3 (fun _ => rfl) rfl
            · rw [if_neg hc] at h
              refine mSwE_cons (fun hc => ?_) (fun hc => ?_)
              · rw [if_pos hc] at h
                obtain rfl := Option.some.inj h
                exact Ex_ret 4 (fun _ => rfl) rfl
              · rw [if_neg hc] at h
                refine mSwE_cons (fun hc => ?_) (fun hc => ?_)
                · rw [if_pos hc] at h
                  obtain ⟨r3, hr, h⟩ := m_bind h
                  refine Ex_call 3 (fun _ => rfl) (T_X5_allDebts_7 D t  s r3 hr) rfl rfl ?_
                  obtain rfl := Option.some.inj h
                  exact Ex_ret 1 (fun _ => rfl) rfl
                · rw [if_neg hc] at h
                  refine mSwE_nil ?_
                  obtain rfl := Option.some.inj h
                  exact Ex_ret 2 (fun _ => rfl) rfl

set_option maxRecDepth 20000 in
theorem T_J7_fill_b5 (D : Nat) (t : mTX) (w : Option Value) (z : mSG) (a0_ : Nat) (x1 : Int32) (x3 : Int32) (x2 : Int32) (s : mSG) (o : (Int32 × mSG) ⊕ mSG) (h : J7_fill_b5 t a0_ x1 x3 x2 s = some o) (kc : ∀ y : Int32 × mSG, o = .inl y → Ex (Runs (D)) cd_J7_fill_53178 (w, z, LAY t) 5 [some (.ref a0_), some (.int x1), some (.int y.1), some (.int x3)] [] y.2 (LAY t)) (ke0 : ∀ y : mSG, o = .inr y → ∀ (u0 u1 u2 u3 : Option Value), Ex (Runs (D)) cd_J7_fill_53178 (w, z, LAY t) 20 [u0, u1, u2, u3] [] y (LAY t)) : Ex (Runs (D)) cd_J7_fill_53178 (w, z, LAY t) 5 [some (.ref a0_), some (.int x1), some (.int x2), some (.int x3)] [] s (LAY t) := by
  unfold J7_fill_b5 at h
  refine Ex_br 3 (x3 ≤ x2) (fun _ => rfl) (fun hc1 => ?_) (fun hc1 => ?_)
  · rw [if_pos hc1] at h
    obtain rfl := Option.some.inj h
    exact ke0 _ rfl _ _ _ _
  · rw [if_neg hc1] at h
    obtain ⟨hg, h⟩ := m_ite h
    refine Ex_ifg 4 (fun _ => rfl) hg.1 hg.2 ?_
    refine Ex_sti 2 (fun _ => rfl) ?_
    obtain rfl := Option.some.inj h
    exact kc _ rfl 

theorem T_J7_fill_l5 (D : Nat) (t : mTX) (w : Option Value) (z : mSG) (a0_ : Nat) (x1 : Int32) (x3 : Int32) (v : Int32 × mSG) (e : mSG) (h : J7_fill_l5 t a0_ x1 x3 v = some e) (ke0 : ∀ y : mSG, e = y → ∀ (u0 u1 u2 u3 : Option Value), Ex (Runs (D)) cd_J7_fill_53178 (w, z, LAY t) 20 [u0, u1, u2, u3] [] y (LAY t)) : Ex (Runs (D)) cd_J7_fill_53178 (w, z, LAY t) 5 [some (.ref a0_), some (.int x1), some (.int v.1), some (.int x3)] [] v.2 (LAY t) :=
  m_iter (P := fun v : Int32 × mSG => Ex (Runs (D)) cd_J7_fill_53178 (w, z, LAY t) 5 [some (.ref a0_), some (.int x1), some (.int v.1), some (.int x3)] [] v.2 (LAY t)) (Q := fun e : mSG => (∀ y : mSG, e = y → ∀ (u0 u1 u2 u3 : Option Value), Ex (Runs (D)) cd_J7_fill_53178 (w, z, LAY t) 20 [u0, u1, u2, u3] [] y (LAY t))) (fun x o hx kc kq  => T_J7_fill_b5 D t w z a0_ x1 x3 x.1 x.2  o hx kc (fun e he => kq _ he e rfl)) mFU v e h ke0
set_option maxRecDepth 20000 in
theorem T_J7_fill (D : Nat) (t : mTX) (a0_ : Nat) (x1 : Int32) (s : mSG) (o : mSG) (h : J7_fill t a0_ x1 s = some o) : Runs (D + 1) 237 [.ref a0_, .int x1] s (LAY t) (none, o, LAY t) := by
  refine Runs_mk (d := D) rfl ?_
  show Ex (Runs (D)) cd_J7_fill_53178 (none, o, LAY t) 0 [some (.ref a0_), some (.int x1), none, none] [] s (LAY t)
  unfold J7_fill at h
  obtain ⟨hg, h⟩ := m_ite h
  refine Ex_ifE 4 (fun _ => rfl) ⟨by rw [hg]; decide, by rw [hg]; decide⟩ ?_
  refine Ex_sti 1 (fun _ => rfl) ?_
  obtain ⟨e5, hl, h⟩ := m_bind h
  refine T_J7_fill_l5 D t none o a0_ x1 (Int32.ofNat (mKl (LAY t) a0_).2)  (0, s) _ hl (fun y0 hy0 => ?_) 
  · obtain ⟨e5, rfl⟩ : ∃ q, q = y0 := ⟨_, rfl⟩
    subst hy0
    intro vu0 vu1 vu2 vu3
    obtain rfl := Option.some.inj h
    exact Ex_ret 1 (fun _ => rfl) rfl

set_option maxRecDepth 20000 in
theorem T_X4_become (D : Nat) (t : mTX) (a0_ : Nat) (x1 : Int32) (x2 : Int32) (s : mSG) (o : mSG) (h : X4_become t a0_ x1 x2 s = some o) : Runs (D + 3) 48 [.ref a0_, .int x1, .int x2] s (LAY t) (none, o, LAY t) := by
  refine Runs_mk (d := D + 2) rfl ?_
  show Ex (Runs (D + 2)) cd_X4_become (none, o, LAY t) 0 [some (.ref a0_), some (.int x1), some (.int x2)] [] s (LAY t)
  unfold X4_become at h
  obtain ⟨hg, h⟩ := m_ite h
  refine Ex_if 3 (fun _ => rfl) hg ?_
  refine Ex_call 5 (fun _ => rfl) (T_X8_bounded D t x2 0 40 (sI s a0_ 1 x1) _ rfl) rfl rfl ?_
  obtain ⟨hg, h⟩ := m_ite h
  refine Ex_if 1 (fun _ => rfl) hg ?_
  obtain ⟨hg, h⟩ := m_ite h
  obtain ⟨a1, hq, h⟩ := m_bind h
  refine Ex_getF 2 (fun _ => rfl) hg hq ?_
  obtain ⟨r2, hr, h⟩ := m_bind h
  refine Ex_call 2 (fun _ => rfl) (T_J7_fill (D + 1) t a1 0 (sI (sI s a0_ 1 x1) a0_ 2 (X8_bounded x2 0 40)) r2 hr) rfl rfl ?_
  obtain rfl := Option.some.inj h
  exact Ex_ret 1 (fun _ => rfl) rfl

set_option maxRecDepth 20000 in
theorem T_X8_sheet (D : Nat) (t : mTX) (x1 : Int32) (x2 : Int32) (x3 : Int32) (s : mSG) (o : Int32 × mSG) (h : X8_sheet t x1 x2 x3 s = some o) : Runs (D + 4) 103 [.ref 6, .int x1, .int x2, .int x3] s (LAY t) (some (.int o.1), o.2, LAY t) := by
  refine Runs_mk (d := D + 3) rfl ?_
  show Ex (Runs (D + 3)) cd_X8_sheet (some (.int o.1), o.2, LAY t) 0 [some (.ref 6), some (.int x1), some (.int x2), some (.int x3)] [] s (LAY t)
  unfold X8_sheet at h
  refine Ex_call 3 (fun _ => rfl) (T_X8_isWithin (D + 2) t x1 3 s _ rfl) rfl rfl ?_
  refine Ex_brZ 1 (X8_isWithin x1 3) (fun _ => rfl) (fun hc => ?_) (fun hc => ?_)
  · rw [if_neg (m_nt hc)] at h
    obtain rfl := Option.some.inj h
    exact Ex_ret 2 (fun _ => rfl) rfl
  · rw [if_pos hc] at h
    refine Ex_br 3 (x2 < (-1)) (fun _ => rfl) (fun hc1 => ?_) (fun hc1 => ?_)
    · rw [if_pos hc1] at h
      obtain rfl := Option.some.inj h
      exact Ex_ret 2 (fun _ => rfl) rfl
    · rw [if_neg hc1] at h
      refine Ex_br 3 (x2 < 3) (fun _ => rfl) (fun hc2 => ?_) (fun hc2 => ?_)
      · rw [if_pos hc2] at h
        refine Ex_br 3 (x2 = (-1)) (fun _ => rfl) (fun hc3 => ?_) (fun hc3 => ?_)
        · rw [if_pos hc3] at h
          obtain ⟨hg, h⟩ := m_ite h
          obtain ⟨a4, hq, h⟩ := m_bind h
          refine Ex_aald 4 (fun _ => rfl) hg hq ?_
          obtain ⟨hk, h⟩ := m_ite h
          obtain ⟨r5, hr, h⟩ := m_bind h
          refine Ex_callK 3 (fun _ => rfl) ⟨hk, Nat.le_of_ble_eq_true rfl⟩ (T_X4_become D t a4 (-1) 0 s r5 hr) rfl rfl ?_
          obtain rfl := Option.some.inj h
          exact Ex_ret 2 (fun _ => rfl) rfl
        · rw [if_neg hc3] at h
          refine Ex_br 3 (x3 ≤ 40) (fun _ => rfl) (fun hc6 => ?_) (fun hc6 => ?_)
          · rw [if_pos hc6] at h
            refine Ex_br 2 (0 ≤ x3) (fun _ => rfl) (fun hc7 => ?_) (fun hc7 => ?_)
            · rw [if_pos hc7] at h
              obtain ⟨hg, h⟩ := m_ite h
              obtain ⟨a8, hq, h⟩ := m_bind h
              refine Ex_aald 4 (fun _ => rfl) hg hq ?_
              obtain ⟨hk, h⟩ := m_ite h
              obtain ⟨r9, hr, h⟩ := m_bind h
              refine Ex_callK 3 (fun _ => rfl) ⟨hk, Nat.le_of_ble_eq_true rfl⟩ (T_X4_become D t a8 x2 x3 s r9 hr) rfl rfl ?_
              obtain rfl := Option.some.inj h
              exact Ex_ret 2 (fun _ => rfl) rfl
            · rw [if_neg hc7] at h
              obtain rfl := Option.some.inj h
              exact Ex_ret 2 (fun _ => rfl) rfl
          · rw [if_neg hc6] at h
            obtain rfl := Option.some.inj h
            exact Ex_ret 2 (fun _ => rfl) rfl
      · rw [if_neg hc2] at h
        obtain rfl := Option.some.inj h
        exact Ex_ret 2 (fun _ => rfl) rfl

set_option maxRecDepth 20000 in
theorem T_X4_put (D : Nat) (t : mTX) (a0_ : Nat) (x1 : Int32) (x2 : Int32) (s : mSG) (o : mSG) (h : X4_put t a0_ x1 x2 s = some o) : Runs (D + 2) 50 [.ref a0_, .int x1, .int x2] s (LAY t) (none, o, LAY t) := by
  refine Runs_mk (d := D + 1) rfl ?_
  show Ex (Runs (D + 1)) cd_X4_put (none, o, LAY t) 0 [some (.ref a0_), some (.int x1), some (.int x2)] [] s (LAY t)
  unfold X4_put at h
  obtain ⟨hg, h⟩ := m_ite h
  refine Ex_if 3 (fun _ => rfl) hg ?_
  refine Ex_call 3 (fun _ => rfl) (T_X8_isWithin D t x1 ((s.1 a0_ 2) - 1) s _ rfl) rfl rfl ?_
  refine Ex_brZ 1 (X8_isWithin x1 ((s.1 a0_ 2) - 1)) (fun _ => rfl) (fun hc => ?_) (fun hc => ?_)
  · rw [if_neg (m_nt hc)] at h
    obtain rfl := Option.some.inj h
    exact Ex_ret 1 (fun _ => rfl) rfl
  · rw [if_pos hc] at h
    obtain ⟨hg, h⟩ := m_ite h
    obtain ⟨a1, hq, h⟩ := m_bind h
    refine Ex_getF 2 (fun _ => rfl) hg hq ?_
    obtain ⟨hg, h⟩ := m_ite h
    refine Ex_if 3 (fun _ => rfl) hg ?_
    refine Ex_br 1 ((s.1 a0_ 1) = 0) (fun _ => rfl) (fun hc2 => ?_) (fun hc2 => ?_)
    · rw [if_pos hc2] at h
      obtain ⟨hg, h⟩ := m_ite h
      refine Ex_ifg 4 (fun _ => rfl) hg.1 hg.2 ?_
      obtain rfl := Option.some.inj h
      exact Ex_ret 1 (fun _ => rfl) rfl
    · rw [if_neg hc2] at h
      obtain ⟨hg, h⟩ := m_ite h
      refine Ex_if 2 (fun _ => rfl) hg ?_
      refine Ex_br 2 ((s.1 a0_ 1) = 1) (fun _ => rfl) (fun hc3 => ?_) (fun hc3 => ?_)
      · rw [if_pos hc3] at h
        obtain ⟨hg, h⟩ := m_ite h
        refine Ex_ifg 4 (fun _ => rfl) hg.1 hg.2 ?_
        obtain rfl := Option.some.inj h
        exact Ex_ret 1 (fun _ => rfl) rfl
      · rw [if_neg hc3] at h
        obtain ⟨hg, h⟩ := m_ite h
        refine Ex_ifg 2 (fun _ => rfl) hg.1 hg.2 ?_
        obtain rfl := Option.some.inj h
        exact Ex_ret 1 (fun _ => rfl) rfl

set_option maxRecDepth 20000 in
theorem T_X8_cell (D : Nat) (t : mTX) (x1 : Int32) (x2 : Int32) (x3 : Int32) (s : mSG) (o : Int32 × mSG) (h : X8_cell t x1 x2 x3 s = some o) : Runs (D + 3) 104 [.ref 6, .int x1, .int x2, .int x3] s (LAY t) (some (.int o.1), o.2, LAY t) := by
  refine Runs_mk (d := D + 2) rfl ?_
  show Ex (Runs (D + 2)) cd_X8_cell (some (.int o.1), o.2, LAY t) 0 [some (.ref 6), some (.int x1), some (.int x2), some (.int x3), none] [] s (LAY t)
  unfold X8_cell at h
  refine Ex_call 3 (fun _ => rfl) (T_X8_isWithin (D + 1) t x1 3 s _ rfl) rfl rfl ?_
  refine Ex_brZ 1 (X8_isWithin x1 3) (fun _ => rfl) (fun hc => ?_) (fun hc => ?_)
  · rw [if_neg (m_nt hc)] at h
    obtain rfl := Option.some.inj h
    exact Ex_ret 2 (fun _ => rfl) rfl
  · rw [if_pos hc] at h
    obtain ⟨hg, h⟩ := m_ite h
    obtain ⟨a1, hq, h⟩ := m_bind h
    refine Ex_aald 4 (fun _ => rfl) hg hq ?_
    obtain ⟨hk, h⟩ := m_ite h
    obtain ⟨r2, hr, h⟩ := m_bind h
    refine Ex_callK 3 (fun _ => rfl) ⟨hk, Nat.le_of_ble_eq_true rfl⟩ (T_X4_isMissing (D + 1) t a1 s r2 hr) rfl rfl ?_
    refine Ex_brZ 1 (r2) (fun _ => rfl) (fun hc => ?_) (fun hc => ?_)
    · rw [if_neg (m_nt hc)] at h
      obtain ⟨hg, h⟩ := m_ite h
      refine Ex_if 3 (fun _ => rfl) hg ?_
      refine Ex_call 3 (fun _ => rfl) (T_X8_isWithin (D + 1) t x2 ((s.1 a1 2) - 1) s _ rfl) rfl rfl ?_
      refine Ex_brZ 1 (X8_isWithin x2 ((s.1 a1 2) - 1)) (fun _ => rfl) (fun hc => ?_) (fun hc => ?_)
      · rw [if_neg (m_nt hc)] at h
        obtain rfl := Option.some.inj h
        exact Ex_ret 2 (fun _ => rfl) rfl
      · rw [if_pos hc] at h
        obtain ⟨hk, h⟩ := m_ite h
        obtain ⟨r3, hr, h⟩ := m_bind h
        refine Ex_callK 4 (fun _ => rfl) ⟨hk, Nat.le_of_ble_eq_true rfl⟩ (T_X4_put D t a1 x2 x3 s r3 hr) rfl rfl ?_
        obtain rfl := Option.some.inj h
        exact Ex_ret 2 (fun _ => rfl) rfl
    · rw [if_pos hc] at h
      obtain rfl := Option.some.inj h
      exact Ex_ret 2 (fun _ => rfl) rfl

set_option maxRecDepth 20000 in
theorem T_X4_hasRun (D : Nat) (t : mTX) (a0_ : Nat) (x1 : Int32) (x2 : Int32) (s : mSG) (o : Bool) (h : X4_hasRun t a0_ x1 x2 s = some o) : Runs (D + 1) 51 [.ref a0_, .int x1, .int x2] s (LAY t) (some (.int (b2i o)), s, LAY t) := by
  refine Runs_mk (d := D) rfl ?_
  show Ex (Runs (D)) cd_X4_hasRun (some (.int (b2i o)), s, LAY t) 0 [some (.ref a0_), some (.int x1), some (.int x2)] [] s (LAY t)
  unfold X4_hasRun at h
  refine Ex_br 2 (x1 < 0) (fun _ => rfl) (fun hc1 => ?_) (fun hc1 => ?_)
  · rw [if_pos hc1] at h
    obtain rfl := Option.some.inj h
    exact Ex_retZ 2 (fun _ => rfl) (Or.inl rfl) rfl
  · rw [if_neg hc1] at h
    refine Ex_br 2 (x2 < 0) (fun _ => rfl) (fun hc2 => ?_) (fun hc2 => ?_)
    · rw [if_pos hc2] at h
      obtain rfl := Option.some.inj h
      exact Ex_retZ 2 (fun _ => rfl) (Or.inl rfl) rfl
    · rw [if_neg hc2] at h
      obtain ⟨hg, h⟩ := m_ite h
      refine Ex_if 3 (fun _ => rfl) hg ?_
      refine Ex_br 3 (((s.1 a0_ 2) - x1) < x2) (fun _ => rfl) (fun hc3 => ?_) (fun hc3 => ?_)
      · rw [if_pos hc3] at h
        obtain rfl := Option.some.inj h
        exact Ex_retZ 2 (fun _ => rfl) (Or.inl rfl) rfl
      · rw [if_neg hc3] at h
        obtain rfl := Option.some.inj h
        exact Ex_retZ 3 (fun _ => rfl) (Or.inr rfl) rfl

set_option maxRecDepth 20000 in
theorem T_X8_copy (D : Nat) (t : mTX) (x1 : Int32) (x2 : Int32) (x3 : Int32) (x4 : Int32) (x5 : Int32) (s : mSG) (o : Int32 × mSG) (h : X8_copy t x1 x2 x3 x4 x5 s = some o) : Runs (D + 2) 105 [.ref 6, .int x1, .int x2, .int x3, .int x4, .int x5] s (LAY t) (some (.int o.1), o.2, LAY t) := by
  refine Runs_mk (d := D + 1) rfl ?_
  show Ex (Runs (D + 1)) cd_X8_copy (some (.int o.1), o.2, LAY t) 0 [some (.ref 6), some (.int x1), some (.int x2), some (.int x3), some (.int x4), some (.int x5), none, none] [] s (LAY t)
  unfold X8_copy at h
  refine Ex_call 3 (fun _ => rfl) (T_X8_isWithin D t x1 3 s _ rfl) rfl rfl ?_
  refine Ex_brZ 1 (X8_isWithin x1 3) (fun _ => rfl) (fun hc => ?_) (fun hc => ?_)
  · rw [if_neg (m_nt hc)] at h
    obtain rfl := Option.some.inj h
    exact Ex_ret 2 (fun _ => rfl) rfl
  · rw [if_pos hc] at h
    refine Ex_call 3 (fun _ => rfl) (T_X8_isWithin D t x3 3 s _ rfl) rfl rfl ?_
    refine Ex_brZ 1 (X8_isWithin x3 3) (fun _ => rfl) (fun hc => ?_) (fun hc => ?_)
    · rw [if_neg (m_nt hc)] at h
      obtain rfl := Option.some.inj h
      exact Ex_ret 2 (fun _ => rfl) rfl
    · rw [if_pos hc] at h
      obtain ⟨hg, h⟩ := m_ite h
      obtain ⟨a1, hq, h⟩ := m_bind h
      refine Ex_aald 4 (fun _ => rfl) hg hq ?_
      obtain ⟨hg, h⟩ := m_ite h
      obtain ⟨a2, hq, h⟩ := m_bind h
      refine Ex_aald 5 (fun _ => rfl) hg hq ?_
      obtain ⟨hk, h⟩ := m_ite h
      obtain ⟨r3, hr, h⟩ := m_bind h
      refine Ex_callK 3 (fun _ => rfl) ⟨hk, Nat.le_of_ble_eq_true rfl⟩ (T_X4_isMissing D t a1 s r3 hr) rfl rfl ?_
      refine Ex_brZ 1 (r3) (fun _ => rfl) (fun hc => ?_) (fun hc => ?_)
      · rw [if_neg (m_nt hc)] at h
        obtain ⟨hk, h⟩ := m_ite h
        obtain ⟨r4, hr, h⟩ := m_bind h
        refine Ex_callK 2 (fun _ => rfl) ⟨hk, Nat.le_of_ble_eq_true rfl⟩ (T_X4_isMissing D t a2 s r4 hr) rfl rfl ?_
        refine Ex_brZ 1 (r4) (fun _ => rfl) (fun hc => ?_) (fun hc => ?_)
        · rw [if_neg (m_nt hc)] at h
          obtain ⟨hg, h⟩ := m_ite h
          refine Ex_if 2 (fun _ => rfl) hg ?_
          obtain ⟨hg, h⟩ := m_ite h
          refine Ex_if 2 (fun _ => rfl) hg ?_
          refine Ex_br 1 ((s.1 a1 1) = (s.1 a2 1)) (fun _ => rfl) (fun hc5 => ?_) (fun hc5 => ?_)
          · rw [if_pos hc5] at h
            obtain ⟨hk, h⟩ := m_ite h
            obtain ⟨r6, hr, h⟩ := m_bind h
            refine Ex_callK 4 (fun _ => rfl) ⟨hk, Nat.le_of_ble_eq_true rfl⟩ (T_X4_hasRun D t a1 x2 x5 s r6 hr) rfl rfl ?_
            refine Ex_brZ 1 (r6) (fun _ => rfl) (fun hc => ?_) (fun hc => ?_)
            · rw [if_neg (m_nt hc)] at h
              obtain rfl := Option.some.inj h
              exact Ex_ret 2 (fun _ => rfl) rfl
            · rw [if_pos hc] at h
              obtain ⟨hk, h⟩ := m_ite h
              obtain ⟨r7, hr, h⟩ := m_bind h
              refine Ex_callK 4 (fun _ => rfl) ⟨hk, Nat.le_of_ble_eq_true rfl⟩ (T_X4_hasRun D t a2 x4 x5 s r7 hr) rfl rfl ?_
              refine Ex_brZ 1 (r7) (fun _ => rfl) (fun hc => ?_) (fun hc => ?_)
              · rw [if_neg (m_nt hc)] at h
                obtain rfl := Option.some.inj h
                exact Ex_ret 2 (fun _ => rfl) rfl
              · rw [if_pos hc] at h
                obtain ⟨hg, h⟩ := m_ite h
                obtain ⟨a8, hq, h⟩ := m_bind h
                refine Ex_getF 2 (fun _ => rfl) hg hq ?_
                obtain ⟨hg, h⟩ := m_ite h
                obtain ⟨a9, hq, h⟩ := m_bind h
                refine Ex_getF 3 (fun _ => rfl) hg hq ?_
                obtain ⟨hg, h⟩ := m_ite h
                refine Ex_ifgg 3 (fun _ => rfl) hg.1 hg.2 (Nat.le_of_ble_eq_true rfl) ?_
                obtain rfl := Option.some.inj h
                exact Ex_ret 2 (fun _ => rfl) rfl
          · rw [if_neg hc5] at h
            obtain rfl := Option.some.inj h
            exact Ex_ret 2 (fun _ => rfl) rfl
        · rw [if_pos hc] at h
          obtain rfl := Option.some.inj h
          exact Ex_ret 2 (fun _ => rfl) rfl
      · rw [if_pos hc] at h
        obtain rfl := Option.some.inj h
        exact Ex_ret 2 (fun _ => rfl) rfl

set_option maxRecDepth 20000 in
theorem T_X8_muds_j133_66 (D : Nat) (t : mTX) (w : Option Value) (z : mSG) (x3 : Int32) (x4 : Int32) (a5_ : Nat) (x6 : Int32) (x7 : Int32) (s : mSG) (u1 u2 u8 : Option Value) (o : (Int32 × Int32 × mSG) ⊕ (mSG ⊕ Int32 × mSG)) (h : X8_muds_j133_66 t x3 x4 a5_ x6 x7 s = some o) (kc : ∀ y : Int32 × Int32 × mSG, o = .inl y → ∀ (u1 u2 u8 : Option Value), Ex (Runs (D + 4)) cd_X8_muds (w, z, LAY t) 66 [some (.ref 6), u1, u2, some (.int x3), some (.int x4), some (.ref a5_), some (.int y.1), some (.int y.2.1), u8] [] y.2.2 (LAY t)) (ke0 : ∀ y : mSG, o = .inr (.inl y) → ∀ (u0 u1 u2 u3 u4 u5 u6 u7 u8 : Option Value), Ex (Runs (D + 4)) cd_X8_muds (w, z, LAY t) 92 [u0, u1, u2, u3, u4, u5, u6, u7, u8] [] y (LAY t)) (ke1 : ∀ y : Int32 × mSG, o = .inr (.inr y) → ∀ (u0 u1 u2 u3 u4 u5 u7 u8 : Option Value), Ex (Runs (D + 4)) cd_X8_muds (w, z, LAY t) 139 [u0, u1, u2, u3, u4, u5, some (.int y.1), u7, u8] [] y.2 (LAY t)) : Ex (Runs (D + 4)) cd_X8_muds (w, z, LAY t) 133 [some (.ref 6), u1, u2, some (.int x3), some (.int x4), some (.ref a5_), some (.int x6), some (.int x7), u8] [] s (LAY t) := by
  unfold X8_muds_j133_66 at h
  refine Ex_sti 2 (fun _ => rfl) ?_
  obtain rfl := Option.some.inj h
  exact kc _ rfl _ _ _

set_option maxRecDepth 20000 in
theorem T_X8_muds_b66 (D : Nat) (t : mTX) (w : Option Value) (z : mSG) (x3 : Int32) (x4 : Int32) (a5_ : Nat) (x6 : Int32) (x7 : Int32) (s : mSG) (u1 u2 u8 : Option Value) (o : (Int32 × Int32 × mSG) ⊕ (mSG ⊕ Int32 × mSG)) (h : X8_muds_b66 t x3 x4 a5_ x6 x7 s = some o) (kc : ∀ y : Int32 × Int32 × mSG, o = .inl y → ∀ (u1 u2 u8 : Option Value), Ex (Runs (D + 4)) cd_X8_muds (w, z, LAY t) 66 [some (.ref 6), u1, u2, some (.int x3), some (.int x4), some (.ref a5_), some (.int y.1), some (.int y.2.1), u8] [] y.2.2 (LAY t)) (ke0 : ∀ y : mSG, o = .inr (.inl y) → ∀ (u0 u1 u2 u3 u4 u5 u6 u7 u8 : Option Value), Ex (Runs (D + 4)) cd_X8_muds (w, z, LAY t) 92 [u0, u1, u2, u3, u4, u5, u6, u7, u8] [] y (LAY t)) (ke1 : ∀ y : Int32 × mSG, o = .inr (.inr y) → ∀ (u0 u1 u2 u3 u4 u5 u7 u8 : Option Value), Ex (Runs (D + 4)) cd_X8_muds (w, z, LAY t) 139 [u0, u1, u2, u3, u4, u5, some (.int y.1), u7, u8] [] y.2 (LAY t)) : Ex (Runs (D + 4)) cd_X8_muds (w, z, LAY t) 66 [some (.ref 6), u1, u2, some (.int x3), some (.int x4), some (.ref a5_), some (.int x6), some (.int x7), u8] [] s (LAY t) := by
  unfold X8_muds_b66 at h
  refine Ex_br 3 (x4 ≤ x7) (fun _ => rfl) (fun hc4 => ?_) (fun hc4 => ?_)
  · rw [if_pos hc4] at h
    obtain rfl := Option.some.inj h
    exact ke1 _ rfl _ _ _ _ _ _ _ _
  · rw [if_neg hc4] at h
    obtain ⟨hk, h⟩ := m_ite h
    obtain ⟨r5, hr, h⟩ := m_bind h
    refine Ex_callK 10 (fun _ => rfl) ⟨hk, Nat.le_of_ble_eq_true rfl⟩ (T_X4_hasRun (D + 3) t a5_ (x3 + (3 * x7)) 3 s r5 hr) rfl rfl ?_
    refine Ex_brZ 1 (r5) (fun _ => rfl) (fun hc => ?_) (fun hc => ?_)
    · rw [if_neg (m_nt hc)] at h
      obtain rfl := Option.some.inj h
      exact ke0 _ rfl _ _ _ _ _ _ _ _ _
    · rw [if_pos hc] at h
      obtain ⟨hk, h⟩ := m_ite h
      obtain ⟨r6, hr, h⟩ := m_bind h
      refine Ex_callK 5 (fun _ => rfl) ⟨hk, Nat.le_of_ble_eq_true rfl⟩ (T_X4_item (D + 2) t a5_ (x3 + (3 * x7)) s r6 hr) rfl rfl ?_
      obtain ⟨hk, h⟩ := m_ite h
      obtain ⟨r7, hr, h⟩ := m_bind h
      refine Ex_callK 5 (fun _ => rfl) ⟨hk, Nat.le_of_ble_eq_true rfl⟩ (T_X4_item (D + 2) t a5_ ((x3 + (3 * x7)) + 1) s r7 hr) rfl rfl ?_
      obtain ⟨hk, h⟩ := m_ite h
      obtain ⟨r8, hr, h⟩ := m_bind h
      refine Ex_callK 5 (fun _ => rfl) ⟨hk, Nat.le_of_ble_eq_true rfl⟩ (T_X4_item (D + 2) t a5_ ((x3 + (3 * x7)) + 2) s r8 hr) rfl rfl ?_
      obtain ⟨r9, hr, h⟩ := m_bind h
      refine Ex_call 1 (fun _ => rfl) (T_X5_putMud_7 D t r6 r7 r8 s r9 hr) rfl rfl ?_
      refine Ex_brZ 1 (r9.1) (fun _ => rfl) (fun hc => ?_) (fun hc => ?_)
      · rw [if_neg (m_nt hc)] at h
        exact T_X8_muds_j133_66 D t w z x3 x4 a5_ x6 x7 r9.2 _ _ _ _ h kc ke0 ke1
      · rw [if_pos hc] at h
        refine Ex_sti 1 (fun _ => rfl) ?_
        exact T_X8_muds_j133_66 D t w z x3 x4 a5_ (x6 + 1) x7 r9.2 _ _ _ _ h kc ke0 ke1

theorem T_X8_muds_l66 (D : Nat) (t : mTX) (w : Option Value) (z : mSG) (x3 : Int32) (x4 : Int32) (a5_ : Nat) (v : Int32 × Int32 × mSG) (e : (mSG ⊕ Int32 × mSG)) (h : X8_muds_l66 t x3 x4 a5_ v = some e) (ke0 : ∀ y : mSG, e = (.inl y) → ∀ (u0 u1 u2 u3 u4 u5 u6 u7 u8 : Option Value), Ex (Runs (D + 4)) cd_X8_muds (w, z, LAY t) 92 [u0, u1, u2, u3, u4, u5, u6, u7, u8] [] y (LAY t)) (ke1 : ∀ y : Int32 × mSG, e = (.inr y) → ∀ (u0 u1 u2 u3 u4 u5 u7 u8 : Option Value), Ex (Runs (D + 4)) cd_X8_muds (w, z, LAY t) 139 [u0, u1, u2, u3, u4, u5, some (.int y.1), u7, u8] [] y.2 (LAY t)) : ∀ (u1 u2 u8 : Option Value), Ex (Runs (D + 4)) cd_X8_muds (w, z, LAY t) 66 [some (.ref 6), u1, u2, some (.int x3), some (.int x4), some (.ref a5_), some (.int v.1), some (.int v.2.1), u8] [] v.2.2 (LAY t) :=
  m_iter (P := fun v : Int32 × Int32 × mSG => ∀ (u1 u2 u8 : Option Value), Ex (Runs (D + 4)) cd_X8_muds (w, z, LAY t) 66 [some (.ref 6), u1, u2, some (.int x3), some (.int x4), some (.ref a5_), some (.int v.1), some (.int v.2.1), u8] [] v.2.2 (LAY t)) (Q := fun e : (mSG ⊕ Int32 × mSG) => (∀ y : mSG, e = (.inl y) → ∀ (u0 u1 u2 u3 u4 u5 u6 u7 u8 : Option Value), Ex (Runs (D + 4)) cd_X8_muds (w, z, LAY t) 92 [u0, u1, u2, u3, u4, u5, u6, u7, u8] [] y (LAY t)) ∧ (∀ y : Int32 × mSG, e = (.inr y) → ∀ (u0 u1 u2 u3 u4 u5 u7 u8 : Option Value), Ex (Runs (D + 4)) cd_X8_muds (w, z, LAY t) 139 [u0, u1, u2, u3, u4, u5, some (.int y.1), u7, u8] [] y.2 (LAY t))) (fun x o hx kc kq u1 u2 u8 => T_X8_muds_b66 D t w z x3 x4 a5_ x.1 x.2.1 x.2.2 u1 u2 u8 o hx kc (fun e he => (kq _ (by rw [he])).1 e rfl) (fun e he => (kq _ (by rw [he])).2 e rfl)) mFU v e h ⟨ke0, ke1⟩
set_option maxRecDepth 20000 in
theorem T_X8_muds (D : Nat) (t : mTX) (x1 : Int32) (x2 : Int32) (x3 : Int32) (x4 : Int32) (s : mSG) (o : Int32 × mSG) (h : X8_muds t x1 x2 x3 x4 s = some o) : Runs (D + 5) 106 [.ref 6, .int x1, .int x2, .int x3, .int x4] s (LAY t) (some (.int o.1), o.2, LAY t) := by
  refine Runs_mk (d := D + 4) rfl ?_
  show Ex (Runs (D + 4)) cd_X8_muds (some (.int o.1), o.2, LAY t) 0 [some (.ref 6), some (.int x1), some (.int x2), some (.int x3), some (.int x4), none, none, none, none] [] s (LAY t)
  unfold X8_muds at h
  refine Ex_call 3 (fun _ => rfl) (T_X8_isWithin (D + 3) t x1 3 s _ rfl) rfl rfl ?_
  refine Ex_brZ 1 (X8_isWithin x1 3) (fun _ => rfl) (fun hc => ?_) (fun hc => ?_)
  · rw [if_neg (m_nt hc)] at h
    obtain rfl := Option.some.inj h
    exact Ex_ret 2 (fun _ => rfl) rfl
  · rw [if_pos hc] at h
    refine Ex_call 3 (fun _ => rfl) (T_X8_isWithin (D + 3) t x2 2 s _ rfl) rfl rfl ?_
    refine Ex_brZ 1 (X8_isWithin x2 2) (fun _ => rfl) (fun hc => ?_) (fun hc => ?_)
    · rw [if_neg (m_nt hc)] at h
      obtain rfl := Option.some.inj h
      exact Ex_ret 2 (fun _ => rfl) rfl
    · rw [if_pos hc] at h
      refine Ex_call 3 (fun _ => rfl) (T_X8_isWithin (D + 3) t x4 13 s _ rfl) rfl rfl ?_
      refine Ex_brZ 1 (X8_isWithin x4 13) (fun _ => rfl) (fun hc => ?_) (fun hc => ?_)
      · rw [if_neg (m_nt hc)] at h
        obtain rfl := Option.some.inj h
        exact Ex_ret 2 (fun _ => rfl) rfl
      · rw [if_pos hc] at h
        obtain ⟨hg, h⟩ := m_ite h
        obtain ⟨a1, hq, h⟩ := m_bind h
        refine Ex_aald 4 (fun _ => rfl) hg hq ?_
        obtain ⟨hk, h⟩ := m_ite h
        obtain ⟨r2, hr, h⟩ := m_bind h
        refine Ex_callK 3 (fun _ => rfl) ⟨hk, Nat.le_of_ble_eq_true rfl⟩ (T_X4_isMissing (D + 3) t a1 s r2 hr) rfl rfl ?_
        refine Ex_brZ 1 (r2) (fun _ => rfl) (fun hc => ?_) (fun hc => ?_)
        · rw [if_neg (m_nt hc)] at h
          obtain ⟨hg, h⟩ := m_ite h
          refine Ex_if 2 (fun _ => rfl) hg ?_
          refine Ex_br 2 ((s.1 a1 1) = x2) (fun _ => rfl) (fun hc3 => ?_) (fun hc3 => ?_)
          · rw [if_pos hc3] at h
            refine Ex_sti 4 (fun _ => rfl) ?_
            obtain ⟨e66, hl, h⟩ := m_bind h
            refine T_X8_muds_l66 D t (some (.int o.1)) o.2 x3 x4 a1  (0, 0, s) _ hl (fun y0 hy0 => ?_) (fun y1 hy1 => ?_) _ _ _
            · obtain ⟨e66_0, rfl⟩ : ∃ q, q = y0 := ⟨_, rfl⟩
              subst hy0
              simp only [Sum.elim_inl, Sum.elim_inr] at h
              intro vu0 vu1 vu2 vu3 vu4 vu5 vu6 vu7 vu8
              obtain rfl := Option.some.inj h
              exact Ex_ret 2 (fun _ => rfl) rfl
            · obtain ⟨e66_1, rfl⟩ : ∃ q, q = y1 := ⟨_, rfl⟩
              subst hy1
              simp only [Sum.elim_inl, Sum.elim_inr] at h
              intro vu0 vu1 vu2 vu3 vu4 vu5 vu7 vu8
              obtain rfl := Option.some.inj h
              exact Ex_ret 2 (fun _ => rfl) rfl
          · rw [if_neg hc3] at h
            obtain rfl := Option.some.inj h
            exact Ex_ret 2 (fun _ => rfl) rfl
        · rw [if_pos hc] at h
          obtain rfl := Option.some.inj h
          exact Ex_ret 2 (fun _ => rfl) rfl

set_option maxRecDepth 20000 in
theorem T_X2_isUnder_b4 (D : Nat) (t : mTX) (w : Option Value) (z : mSG) (x1 : Int32) (x2 : Int32) (x3 : Int32) (s : mSG) (u0 : Option Value) (o : (Int32 × Int32) ⊕ (Unit ⊕ Unit)) (h : X2_isUnder_b4 x1 x2 x3 s = some o) (kc : ∀ y : Int32 × Int32, o = .inl y → ∀ (u0 : Option Value), Ex (Runs (D + 1)) cd_X2_isUnder (w, z, LAY t) 4 [u0, some (.int x1), some (.int y.1), some (.int y.2)] [] s (LAY t)) (ke0 : ∀ y : Unit, o = .inr (.inl y) → ∀ (u0 u1 u2 u3 : Option Value), Ex (Runs (D + 1)) cd_X2_isUnder (w, z, LAY t) 23 [u0, u1, u2, u3] [] s (LAY t)) (ke1 : ∀ y : Unit, o = .inr (.inr y) → ∀ (u0 u1 u2 u3 : Option Value), Ex (Runs (D + 1)) cd_X2_isUnder (w, z, LAY t) 37 [u0, u1, u2, u3] [] s (LAY t)) : Ex (Runs (D + 1)) cd_X2_isUnder (w, z, LAY t) 4 [u0, some (.int x1), some (.int x2), some (.int x3)] [] s (LAY t) := by
  unfold X2_isUnder_b4 at h
  refine Ex_br 3 (6 ≤ x3) (fun _ => rfl) (fun hc1 => ?_) (fun hc1 => ?_)
  · rw [if_pos hc1] at h
    obtain rfl := Option.some.inj h
    exact ke1 _ rfl _ _ _ _
  · rw [if_neg hc1] at h
    refine Ex_call 3 (fun _ => rfl) (T_X8_isWithin D t x2 5 s _ rfl) rfl rfl ?_
    refine Ex_brZ 1 (X8_isWithin x2 5) (fun _ => rfl) (fun hc => ?_) (fun hc => ?_)
    · rw [if_neg (m_nt hc)] at h
      obtain rfl := Option.some.inj h
      exact ke1 _ rfl _ _ _ _
    · rw [if_pos hc] at h
      refine Ex_br 3 (x2 = x1) (fun _ => rfl) (fun hc2 => ?_) (fun hc2 => ?_)
      · rw [if_pos hc2] at h
        obtain rfl := Option.some.inj h
        exact ke0 _ rfl _ _ _ _
      · rw [if_neg hc2] at h
        obtain ⟨hg3, h⟩ := m_ite h
        refine Ex_gd 3 (fun _ => rfl) hg3 ?_
        refine Ex_sti 3 (fun _ => rfl) ?_
        obtain rfl := Option.some.inj h
        exact kc _ rfl _

theorem T_X2_isUnder_l4 (D : Nat) (t : mTX) (w : Option Value) (z : mSG) (x1 : Int32) (s : mSG) (v : Int32 × Int32) (e : (Unit ⊕ Unit)) (h : X2_isUnder_l4 x1 s v = some e) (ke0 : ∀ y : Unit, e = (.inl y) → ∀ (u0 u1 u2 u3 : Option Value), Ex (Runs (D + 1)) cd_X2_isUnder (w, z, LAY t) 23 [u0, u1, u2, u3] [] s (LAY t)) (ke1 : ∀ y : Unit, e = (.inr y) → ∀ (u0 u1 u2 u3 : Option Value), Ex (Runs (D + 1)) cd_X2_isUnder (w, z, LAY t) 37 [u0, u1, u2, u3] [] s (LAY t)) : ∀ (u0 : Option Value), Ex (Runs (D + 1)) cd_X2_isUnder (w, z, LAY t) 4 [u0, some (.int x1), some (.int v.1), some (.int v.2)] [] s (LAY t) :=
  m_iter (P := fun v : Int32 × Int32 => ∀ (u0 : Option Value), Ex (Runs (D + 1)) cd_X2_isUnder (w, z, LAY t) 4 [u0, some (.int x1), some (.int v.1), some (.int v.2)] [] s (LAY t)) (Q := fun e : (Unit ⊕ Unit) => (∀ y : Unit, e = (.inl y) → ∀ (u0 u1 u2 u3 : Option Value), Ex (Runs (D + 1)) cd_X2_isUnder (w, z, LAY t) 23 [u0, u1, u2, u3] [] s (LAY t)) ∧ (∀ y : Unit, e = (.inr y) → ∀ (u0 u1 u2 u3 : Option Value), Ex (Runs (D + 1)) cd_X2_isUnder (w, z, LAY t) 37 [u0, u1, u2, u3] [] s (LAY t))) (fun x o hx kc kq u0 => T_X2_isUnder_b4 D t w z x1 x.1 x.2 s u0 o hx kc (fun e he => (kq _ (by rw [he])).1 e rfl) (fun e he => (kq _ (by rw [he])).2 e rfl)) mFU v e h ⟨ke0, ke1⟩
set_option maxRecDepth 20000 in
theorem T_X2_isUnder (D : Nat) (t : mTX) (x0 : Int32) (x1 : Int32) (s : mSG) (o : Bool) (h : X2_isUnder x0 x1 s = some o) : Runs (D + 2) 28 [.int x0, .int x1] s (LAY t) (some (.int (b2i o)), s, LAY t) := by
  refine Runs_mk (d := D + 1) rfl ?_
  show Ex (Runs (D + 1)) cd_X2_isUnder (some (.int (b2i o)), s, LAY t) 0 [some (.int x0), some (.int x1), none, none] [] s (LAY t)
  unfold X2_isUnder at h
  refine Ex_sti 4 (fun _ => rfl) ?_
  obtain ⟨e4, hl, h⟩ := m_bind h
  refine T_X2_isUnder_l4 D t (some (.int (b2i o))) s x1 s (x0, 0) _ hl (fun y0 hy0 => ?_) (fun y1 hy1 => ?_) _
  · obtain ⟨e4_0, rfl⟩ : ∃ q, q = y0 := ⟨_, rfl⟩
    subst hy0
    simp only [Sum.elim_inl, Sum.elim_inr] at h
    intro vu0 vu1 vu2 vu3
    obtain rfl := Option.some.inj h
    exact Ex_retZ 2 (fun _ => rfl) (Or.inr rfl) rfl
  · obtain ⟨e4_1, rfl⟩ : ∃ q, q = y1 := ⟨_, rfl⟩
    subst hy1
    simp only [Sum.elim_inl, Sum.elim_inr] at h
    intro vu0 vu1 vu2 vu3
    obtain rfl := Option.some.inj h
    exact Ex_retZ 2 (fun _ => rfl) (Or.inl rfl) rfl

set_option maxRecDepth 20000 in
theorem T_X8_taken (D : Nat) (t : mTX) (x1 : Int32) (x2 : Int32) (s : mSG) (o : Int32) (h : X8_taken x1 x2 s = some o) : Runs (D + 4) 107 [.ref 6, .int x1, .int x2] s (LAY t) (some (.int o), s, LAY t) := by
  refine Runs_mk (d := D + 3) rfl ?_
  show Ex (Runs (D + 3)) cd_X8_taken (some (.int o), s, LAY t) 0 [some (.ref 6), some (.int x1), some (.int x2)] [] s (LAY t)
  unfold X8_taken at h
  refine Ex_call 3 (fun _ => rfl) (T_X8_isWithin (D + 2) t x2 5 s _ rfl) rfl rfl ?_
  refine Ex_brZ 1 (X8_isWithin x2 5) (fun _ => rfl) (fun hc => ?_) (fun hc => ?_)
  · rw [if_neg (m_nt hc)] at h
    obtain rfl := Option.some.inj h
    exact Ex_ret 2 (fun _ => rfl) rfl
  · rw [if_pos hc] at h
    refine Ex_call 4 (fun _ => rfl) (T_X5_isOne_7 (D + 1) t x1 s _ rfl) rfl rfl ?_
    refine Ex_brZ 1 (X5_isOne_7 x1 s) (fun _ => rfl) (fun hc => ?_) (fun hc => ?_)
    · rw [if_neg (m_nt hc)] at h
      obtain rfl := Option.some.inj h
      exact Ex_ret 2 (fun _ => rfl) rfl
    · rw [if_pos hc] at h
      obtain ⟨r1, hr, h⟩ := m_bind h
      refine Ex_call 5 (fun _ => rfl) (T_X5_trait_7 D t x1 5 s r1 hr) rfl rfl ?_
      obtain ⟨r2, hr, h⟩ := m_bind h
      refine Ex_call 2 (fun _ => rfl) (T_X2_isUnder (D + 1) t r1 x2 s r2 hr) rfl rfl ?_
      refine Ex_brZ 1 (r2) (fun _ => rfl) (fun hc => ?_) (fun hc => ?_)
      · rw [if_neg (m_nt hc)] at h
        obtain rfl := Option.some.inj h
        exact Ex_ret 2 (fun _ => rfl) rfl
      · rw [if_pos hc] at h
        obtain ⟨r3, hr, h⟩ := m_bind h
        refine Ex_call 5 (fun _ => rfl) (T_X5_trait_7 D t x1 4 s r3 hr) rfl rfl ?_
        obtain rfl := Option.some.inj h
        exact Ex_ret 2 (fun _ => rfl) rfl

set_option maxRecDepth 20000 in
theorem T_X9_in (D : Nat) (t : mTX) (j0 : Int64) (j2 : Int64) (j4 : Int64) (s : mSG) (o : Bool) (h : X9_in j0 j2 j4 = o) : Runs (D + 1) 125 [.long j0, .long j2, .long j4] s (LAY t) (some (.int (b2i o)), s, LAY t) := by
  refine Runs_mk (d := D) rfl ?_
  show Ex (Runs (D)) cd_X9_in (some (.int (b2i o)), s, LAY t) 0 [some (.long j0), none, some (.long j2), none, some (.long j4), none] [] s (LAY t)
  unfold X9_in at h
  refine Ex_br 4 ((lg_cmp j0 j2) < 0) (fun _ => rfl) (fun hc1 => ?_) (fun hc1 => ?_)
  · rw [if_pos hc1] at h
    subst h
    exact Ex_retZ 2 (fun _ => rfl) (Or.inl rfl) rfl
  · rw [if_neg hc1] at h
    refine Ex_br 4 (0 < (lg_cmp j0 j4)) (fun _ => rfl) (fun hc2 => ?_) (fun hc2 => ?_)
    · rw [if_pos hc2] at h
      subst h
      exact Ex_retZ 2 (fun _ => rfl) (Or.inl rfl) rfl
    · rw [if_neg hc2] at h
      subst h
      exact Ex_retZ 3 (fun _ => rfl) (Or.inr rfl) rfl

set_option maxRecDepth 20000 in
theorem T_X9_within (D : Nat) (t : mTX) (x0 : Int32) (x1 : Int32) (x2 : Int32) (s : mSG) (o : Int32) (h : X9_within x0 x1 x2 = o) : Runs (D + 1) 126 [.int x0, .int x1, .int x2] s (LAY t) (some (.int o), s, LAY t) := by
  refine Runs_mk (d := D) rfl ?_
  show Ex (Runs (D)) cd_X9_within (some (.int o), s, LAY t) 0 [some (.int x0), some (.int x1), some (.int x2)] [] s (LAY t)
  unfold X9_within at h
  refine Ex_br 3 (x1 ≤ x0) (fun _ => rfl) (fun hc1 => ?_) (fun hc1 => ?_)
  · rw [if_pos hc1] at h
    refine Ex_br 3 (x0 ≤ x2) (fun _ => rfl) (fun hc2 => ?_) (fun hc2 => ?_)
    · rw [if_pos hc2] at h
      subst h
      exact Ex_ret 2 (fun _ => rfl) rfl
    · rw [if_neg hc2] at h
      subst h
      exact Ex_ret 3 (fun _ => rfl) rfl
  · rw [if_neg hc1] at h
    subst h
    exact Ex_ret 3 (fun _ => rfl) rfl

set_option maxRecDepth 20000 in
theorem T_X9_spell (D : Nat) (t : mTX) (x1 : Int32) (x2 : Int32) (x3 : Int32) (x4 : Int32) (x5 : Int32) (x6 : Int32) (x7 : Int32) (x8 : Int32) (x9 : Int32) (s : mSG) (o : mSG) (h : X9_spell x1 x2 x3 x4 x5 x6 x7 x8 x9 s = some o) : Runs (D + 1) 128 [.ref 56, .int x1, .int x2, .int x3, .int x4, .int x5, .int x6, .int x7, .int x8, .int x9] s (LAY t) (none, o, LAY t) := by
  refine Runs_mk (d := D) rfl ?_
  show Ex (Runs (D)) cd_X9_spell (none, o, LAY t) 0 [some (.ref 56), some (.int x1), some (.int x2), some (.int x3), some (.int x4), some (.int x5), some (.int x6), some (.int x7), some (.int x8), some (.int x9)] [] s (LAY t)
  unfold X9_spell at h
  obtain ⟨hg1, h⟩ := m_ite h
  refine Ex_gd 5 (fun _ => rfl) hg1 ?_
  obtain ⟨hg2, h⟩ := m_ite h
  refine Ex_gd 7 (fun _ => rfl) hg2 ?_
  obtain ⟨hg3, h⟩ := m_ite h
  refine Ex_gd 7 (fun _ => rfl) hg3 ?_
  obtain ⟨hg4, h⟩ := m_ite h
  refine Ex_gd 7 (fun _ => rfl) hg4 ?_
  obtain ⟨hg5, h⟩ := m_ite h
  refine Ex_gd 7 (fun _ => rfl) hg5 ?_
  obtain ⟨hg6, h⟩ := m_ite h
  refine Ex_gd 7 (fun _ => rfl) hg6 ?_
  obtain ⟨hg7, h⟩ := m_ite h
  refine Ex_gd 7 (fun _ => rfl) hg7 ?_
  obtain ⟨hg8, h⟩ := m_ite h
  refine Ex_gd 7 (fun _ => rfl) hg8 ?_
  obtain rfl := Option.some.inj h
  exact Ex_ret 1 (fun _ => rfl) rfl

set_option maxRecDepth 20000 in
theorem T_X9_isStone (D : Nat) (t : mTX) (x0 : Int32) (s : mSG) (o : Bool) (h : X9_isStone x0 = o) : Runs (D + 2) 129 [.int x0] s (LAY t) (some (.int (b2i o)), s, LAY t) := by
  refine Runs_mk (d := D + 1) rfl ?_
  show Ex (Runs (D + 1)) cd_X9_isStone (some (.int (b2i o)), s, LAY t) 0 [some (.int x0)] [] s (LAY t)
  unfold X9_isStone at h
  refine Ex_call 5 (fun _ => rfl) (T_X9_in D t x0.toInt64 0 7 s _ rfl) rfl rfl ?_
  subst h
  exact Ex_retZ 1 (fun _ => rfl) (b2i_01 _) rfl

set_option maxRecDepth 20000 in
theorem T_X9_isOne (D : Nat) (t : mTX) (x1 : Int32) (s : mSG) (o : Bool) (h : X9_isOne x1 s = o) : Runs (D + 2) 130 [.ref 56, .int x1] s (LAY t) (some (.int (b2i o)), s, LAY t) := by
  refine Runs_mk (d := D + 1) rfl ?_
  show Ex (Runs (D + 1)) cd_X9_isOne (some (.int (b2i o)), s, LAY t) 0 [some (.ref 56), some (.int x1)] [] s (LAY t)
  unfold X9_isOne at h
  refine Ex_call 9 (fun _ => rfl) (T_X9_in D t x1.toInt64 0 (((s.1 56 15) - 1).toInt64) s _ rfl) rfl rfl ?_
  subst h
  exact Ex_retZ 1 (fun _ => rfl) (b2i_01 _) rfl

set_option maxRecDepth 20000 in
theorem T_X9_muddy (D : Nat) (t : mTX) (x1 : Int32) (x2 : Int32) (x3 : Int32) (s : mSG) (o : mSG) (h : X9_muddy x1 x2 x3 s = some o) : Runs (D + 1) 131 [.ref 56, .int x1, .int x2, .int x3] s (LAY t) (none, o, LAY t) := by
  refine Runs_mk (d := D) rfl ?_
  show Ex (Runs (D)) cd_X9_muddy (none, o, LAY t) 0 [some (.ref 56), some (.int x1), some (.int x2), some (.int x3)] [] s (LAY t)
  unfold X9_muddy at h
  obtain ⟨hg1, h⟩ := m_ite h
  refine Ex_gd 9 (fun _ => rfl) hg1 ?_
  obtain ⟨hg2, h⟩ := m_ite h
  refine Ex_gd 9 (fun _ => rfl) hg2 ?_
  obtain rfl := Option.some.inj h
  exact Ex_ret 1 (fun _ => rfl) rfl

set_option maxRecDepth 20000 in
theorem T_X9_mud (D : Nat) (t : mTX) (x1 : Int32) (x2 : Int32) (x3 : Int32) (s : mSG) (o : Int32 × mSG) (h : X9_mud x1 x2 x3 s = some o) : Runs (D + 3) 132 [.ref 56, .int x1, .int x2, .int x3] s (LAY t) (some (.int o.1), o.2, LAY t) := by
  refine Runs_mk (d := D + 2) rfl ?_
  show Ex (Runs (D + 2)) cd_X9_mud (some (.int o.1), o.2, LAY t) 0 [some (.ref 56), some (.int x1), some (.int x2), some (.int x3), none] [] s (LAY t)
  unfold X9_mud at h
  refine Ex_call 2 (fun _ => rfl) (T_X9_isStone D t x1 s _ rfl) rfl rfl ?_
  refine Ex_brZ 1 (X9_isStone x1) (fun _ => rfl) (fun hc => ?_) (fun hc => ?_)
  · rw [if_neg (m_nt hc)] at h
    obtain rfl := Option.some.inj h
    exact Ex_ret 2 (fun _ => rfl) rfl
  · rw [if_pos hc] at h
    refine Ex_call 2 (fun _ => rfl) (T_X9_isStone D t x2 s _ rfl) rfl rfl ?_
    refine Ex_brZ 1 (X9_isStone x2) (fun _ => rfl) (fun hc => ?_) (fun hc => ?_)
    · rw [if_neg (m_nt hc)] at h
      obtain rfl := Option.some.inj h
      exact Ex_ret 2 (fun _ => rfl) rfl
    · rw [if_pos hc] at h
      refine Ex_br 3 (x1 = x2) (fun _ => rfl) (fun hc1 => ?_) (fun hc1 => ?_)
      · rw [if_pos hc1] at h
        obtain rfl := Option.some.inj h
        exact Ex_ret 2 (fun _ => rfl) rfl
      · rw [if_neg hc1] at h
        refine Ex_call 5 (fun _ => rfl) (T_X9_in (D + 1) t x3.toInt64 0 99 s _ rfl) rfl rfl ?_
        refine Ex_brZ 1 (X9_in x3.toInt64 0 99) (fun _ => rfl) (fun hc => ?_) (fun hc => ?_)
        · rw [if_neg (m_nt hc)] at h
          obtain rfl := Option.some.inj h
          exact Ex_ret 2 (fun _ => rfl) rfl
        · rw [if_pos hc] at h
          obtain ⟨hg2, h⟩ := m_ite h
          refine Ex_gd 8 (fun _ => rfl) hg2 ?_
          obtain ⟨r3, hr, h⟩ := m_bind h
          refine Ex_call 6 (fun _ => rfl) (T_X9_muddy (D + 1) t x1 x2 x3 s r3 hr) rfl rfl ?_
          obtain rfl := Option.some.inj h
          exact Ex_ret 2 (fun _ => rfl) rfl

set_option maxRecDepth 20000 in
theorem T_X9_far (D : Nat) (t : mTX) (x1 : Int32) (x2 : Int32) (s : mSG) (o : Int32) (h : X9_far x1 x2 s = some o) : Runs (D + 3) 133 [.ref 56, .int x1, .int x2] s (LAY t) (some (.int o), s, LAY t) := by
  refine Runs_mk (d := D + 2) rfl ?_
  show Ex (Runs (D + 2)) cd_X9_far (some (.int o), s, LAY t) 0 [some (.ref 56), some (.int x1), some (.int x2)] [] s (LAY t)
  unfold X9_far at h
  refine Ex_call 2 (fun _ => rfl) (T_X9_isStone D t x1 s _ rfl) rfl rfl ?_
  refine Ex_brZ 1 (X9_isStone x1) (fun _ => rfl) (fun hc => ?_) (fun hc => ?_)
  · rw [if_neg (m_nt hc)] at h
    obtain rfl := Option.some.inj h
    exact Ex_ret 2 (fun _ => rfl) rfl
  · rw [if_pos hc] at h
    refine Ex_call 2 (fun _ => rfl) (T_X9_isStone D t x2 s _ rfl) rfl rfl ?_
    refine Ex_brZ 1 (X9_isStone x2) (fun _ => rfl) (fun hc => ?_) (fun hc => ?_)
    · rw [if_neg (m_nt hc)] at h
      obtain rfl := Option.some.inj h
      exact Ex_ret 2 (fun _ => rfl) rfl
    · rw [if_pos hc] at h
      refine Ex_br 3 (x1 = x2) (fun _ => rfl) (fun hc1 => ?_) (fun hc1 => ?_)
      · rw [if_pos hc1] at h
        obtain rfl := Option.some.inj h
        exact Ex_ret 2 (fun _ => rfl) rfl
      · rw [if_neg hc1] at h
        obtain ⟨hg2, h⟩ := m_ite h
        refine Ex_gd 8 (fun _ => rfl) hg2 ?_
        obtain rfl := Option.some.inj h
        exact Ex_ret 2 (fun _ => rfl) rfl

set_option maxRecDepth 20000 in
theorem T_X9_one_b119 (D : Nat) (t : mTX) (w : Option Value) (z : mSG) (x4 : Int32) (s : mSG) (u1 u2 u3 : Option Value) (o : (Int32 × mSG) ⊕ mSG) (h : X9_one_b119 x4 s = some o) (kc : ∀ y : Int32 × mSG, o = .inl y → ∀ (u1 u2 u3 : Option Value), Ex (Runs (D + 1)) cd_X9_one (w, z, LAY t) 119 [some (.ref 56), u1, u2, u3, some (.int y.1)] [] y.2 (LAY t)) (ke0 : ∀ y : mSG, o = .inr y → ∀ (u1 u2 u3 u4 : Option Value), Ex (Runs (D + 1)) cd_X9_one (w, z, LAY t) 161 [some (.ref 56), u1, u2, u3, u4] [] y (LAY t)) : Ex (Runs (D + 1)) cd_X9_one (w, z, LAY t) 119 [some (.ref 56), u1, u2, u3, some (.int x4)] [] s (LAY t) := by
  unfold X9_one_b119 at h
  refine Ex_br 3 (5 ≤ x4) (fun _ => rfl) (fun hc3 => ?_) (fun hc3 => ?_)
  · rw [if_pos hc3] at h
    obtain rfl := Option.some.inj h
    exact ke0 _ rfl _ _ _ _
  · rw [if_neg hc3] at h
    obtain ⟨hg4, h⟩ := m_ite h
    refine Ex_gd 10 (fun _ => rfl) hg4 ?_
    obtain ⟨hg5, h⟩ := m_ite h
    refine Ex_gd 10 (fun _ => rfl) hg5 ?_
    refine Ex_sti 2 (fun _ => rfl) ?_
    obtain rfl := Option.some.inj h
    exact kc _ rfl _ _ _

theorem T_X9_one_l119 (D : Nat) (t : mTX) (w : Option Value) (z : mSG) (v : Int32 × mSG) (e : mSG) (h : X9_one_l119 v = some e) (ke0 : ∀ y : mSG, e = y → ∀ (u1 u2 u3 u4 : Option Value), Ex (Runs (D + 1)) cd_X9_one (w, z, LAY t) 161 [some (.ref 56), u1, u2, u3, u4] [] y (LAY t)) : ∀ (u1 u2 u3 : Option Value), Ex (Runs (D + 1)) cd_X9_one (w, z, LAY t) 119 [some (.ref 56), u1, u2, u3, some (.int v.1)] [] v.2 (LAY t) :=
  m_iter (P := fun v : Int32 × mSG => ∀ (u1 u2 u3 : Option Value), Ex (Runs (D + 1)) cd_X9_one (w, z, LAY t) 119 [some (.ref 56), u1, u2, u3, some (.int v.1)] [] v.2 (LAY t)) (Q := fun e : mSG => (∀ y : mSG, e = y → ∀ (u1 u2 u3 u4 : Option Value), Ex (Runs (D + 1)) cd_X9_one (w, z, LAY t) 161 [some (.ref 56), u1, u2, u3, u4] [] y (LAY t))) (fun x o hx kc kq u1 u2 u3 => T_X9_one_b119 D t w z  x.1 x.2 u1 u2 u3 o hx kc (fun e he => kq _ he e rfl)) mFU v e h ke0
set_option maxRecDepth 20000 in
theorem T_X9_one (D : Nat) (t : mTX) (x1 : Int32) (x2 : Int32) (x3 : Int32) (s : mSG) (o : Int32 × mSG) (h : X9_one x1 x2 x3 s = some o) : Runs (D + 2) 134 [.ref 56, .int x1, .int x2, .int x3] s (LAY t) (some (.int o.1), o.2, LAY t) := by
  refine Runs_mk (d := D + 1) rfl ?_
  show Ex (Runs (D + 1)) cd_X9_one (some (.int o.1), o.2, LAY t) 0 [some (.ref 56), some (.int x1), some (.int x2), some (.int x3), none] [] s (LAY t)
  unfold X9_one at h
  refine Ex_call 5 (fun _ => rfl) (T_X9_in D t x1.toInt64 0 5 s _ rfl) rfl rfl ?_
  refine Ex_brZ 1 (X9_in x1.toInt64 0 5) (fun _ => rfl) (fun hc => ?_) (fun hc => ?_)
  · rw [if_neg (m_nt hc)] at h
    obtain rfl := Option.some.inj h
    exact Ex_ret 2 (fun _ => rfl) rfl
  · rw [if_pos hc] at h
    refine Ex_call 5 (fun _ => rfl) (T_X9_in D t x2.toInt64 0 999 s _ rfl) rfl rfl ?_
    refine Ex_brZ 1 (X9_in x2.toInt64 0 999) (fun _ => rfl) (fun hc => ?_) (fun hc => ?_)
    · rw [if_neg (m_nt hc)] at h
      obtain rfl := Option.some.inj h
      exact Ex_ret 2 (fun _ => rfl) rfl
    · rw [if_pos hc] at h
      refine Ex_call 5 (fun _ => rfl) (T_X9_in D t x3.toInt64 0 9 s _ rfl) rfl rfl ?_
      refine Ex_brZ 1 (X9_in x3.toInt64 0 9) (fun _ => rfl) (fun hc => ?_) (fun hc => ?_)
      · rw [if_neg (m_nt hc)] at h
        obtain rfl := Option.some.inj h
        exact Ex_ret 2 (fun _ => rfl) rfl
      · rw [if_pos hc] at h
        refine Ex_br 4 ((s.1 56 15) = 5) (fun _ => rfl) (fun hc1 => ?_) (fun hc1 => ?_)
        · rw [if_pos hc1] at h
          obtain rfl := Option.some.inj h
          exact Ex_ret 2 (fun _ => rfl) rfl
        · rw [if_neg hc1] at h
          obtain ⟨hg2, h⟩ := m_ite h
          refine Ex_gd 6 (fun _ => rfl) hg2 ?_
          refine Ex_gd 7 (fun _ => rfl) (by decide) ?_
          refine Ex_gd 1 (fun _ => rfl) hg2 ?_
          refine Ex_gd 7 (fun _ => rfl) (by decide) ?_
          refine Ex_gd 1 (fun _ => rfl) hg2 ?_
          refine Ex_gd 6 (fun _ => rfl) hg2 ?_
          refine Ex_gd 6 (fun _ => rfl) hg2 ?_
          refine Ex_gd 6 (fun _ => rfl) hg2 ?_
          refine Ex_sti 2 (fun _ => rfl) ?_
          obtain ⟨e119, hl, h⟩ := m_bind h
          refine T_X9_one_l119 D t (some (.int o.1)) o.2   (0, sI (sI (sI (sI (sI (sI s 61 (s.1 56 15).toNatClampNeg x1) 63 (s.1 56 15).toNatClampNeg (x2 / 10)) 62 (s.1 56 15).toNatClampNeg (x2 - x2 / 10 * 10)) 64 (s.1 56 15).toNatClampNeg x3) 65 (s.1 56 15).toNatClampNeg 0) 66 (s.1 56 15).toNatClampNeg 0) _ hl (fun y0 hy0 => ?_) _ _ _
          · obtain ⟨e119, rfl⟩ : ∃ q, q = y0 := ⟨_, rfl⟩
            subst hy0
            intro vu1 vu2 vu3 vu4
            obtain rfl := Option.some.inj h
            exact Ex_ret 11 (fun _ => rfl) rfl

set_option maxRecDepth 20000 in
theorem T_X9_set_j177 (D : Nat) (t : mTX) (x1 : Int32) (x2 : Int32) (x3 : Int32) (p0 : Int32) (s : mSG) (u4 : Option Value) (o : Int32 × mSG) (h : X9_set_j177 x1 x2 x3 p0 s = some o)  : Ex (Runs (D + 2)) cd_X9_set (some (.int o.1), o.2, LAY t) 177 [some (.ref 56), some (.int x1), some (.int x2), some (.int x3), u4] [.int p0] s (LAY t) := by
  unfold X9_set_j177 at h
  refine Ex_br 3 (x1 = 0) (fun _ => rfl) (fun hc18 => ?_) (fun hc18 => ?_)
  · rw [if_pos hc18] at h
    obtain ⟨hg19, h⟩ := m_ite h
    refine Ex_gd 5 (fun _ => rfl) hg19 ?_
    obtain rfl := Option.some.inj h
    exact Ex_ret 3 (fun _ => rfl) rfl
  · rw [if_neg hc18] at h
    refine Ex_br 3 (x1 = 1) (fun _ => rfl) (fun hc20 => ?_) (fun hc20 => ?_)
    · rw [if_pos hc20] at h
      obtain ⟨hg21, h⟩ := m_ite h
      refine Ex_gd 5 (fun _ => rfl) hg21 ?_
      obtain rfl := Option.some.inj h
      exact Ex_ret 3 (fun _ => rfl) rfl
    · rw [if_neg hc20] at h
      refine Ex_br 3 (x1 = 2) (fun _ => rfl) (fun hc22 => ?_) (fun hc22 => ?_)
      · rw [if_pos hc22] at h
        obtain ⟨hg23, h⟩ := m_ite h
        refine Ex_gd 5 (fun _ => rfl) hg23 ?_
        obtain rfl := Option.some.inj h
        exact Ex_ret 3 (fun _ => rfl) rfl
      · rw [if_neg hc22] at h
        refine Ex_br 3 (x1 = 3) (fun _ => rfl) (fun hc24 => ?_) (fun hc24 => ?_)
        · rw [if_pos hc24] at h
          obtain ⟨hg25, h⟩ := m_ite h
          refine Ex_gd 5 (fun _ => rfl) hg25 ?_
          obtain rfl := Option.some.inj h
          exact Ex_ret 3 (fun _ => rfl) rfl
        · rw [if_neg hc24] at h
          refine Ex_br 3 (x1 = 4) (fun _ => rfl) (fun hc26 => ?_) (fun hc26 => ?_)
          · rw [if_pos hc26] at h
            obtain ⟨hg27, h⟩ := m_ite h
            refine Ex_gd 5 (fun _ => rfl) hg27 ?_
            obtain rfl := Option.some.inj h
            exact Ex_ret 3 (fun _ => rfl) rfl
          · rw [if_neg hc26] at h
            refine Ex_br 3 (x1 = 5) (fun _ => rfl) (fun hc28 => ?_) (fun hc28 => ?_)
            · rw [if_pos hc28] at h
              obtain rfl := Option.some.inj h
              exact Ex_ret 6 (fun _ => rfl) rfl
            · rw [if_neg hc28] at h
              obtain ⟨hg29, h⟩ := m_ite h
              refine Ex_gd 5 (fun _ => rfl) hg29 ?_
              obtain rfl := Option.some.inj h
              exact Ex_ret 2 (fun _ => rfl) rfl

set_option maxRecDepth 20000 in
theorem T_X9_set_j81 (D : Nat) (t : mTX) (x1 : Int32) (x2 : Int32) (x3 : Int32) (pj0 : Int64) (pj1 : Int64) (pj2 : Int64) (s : mSG) (u4 : Option Value) (o : Int32 × mSG) (h : X9_set_j81 x1 x2 x3 pj0 pj1 pj2 s = some o)  : Ex (Runs (D + 2)) cd_X9_set (some (.int o.1), o.2, LAY t) 81 [some (.ref 56), some (.int x1), some (.int x2), some (.int x3), u4] [.long pj2, .long pj1, .long pj0] s (LAY t) := by
  unfold X9_set_j81 at h
  refine Ex_call 1 (fun _ => rfl) (T_X9_in (D + 1) t pj0 pj1 pj2 s _ rfl) rfl rfl ?_
  refine Ex_brZ 1 (X9_in pj0 pj1 pj2) (fun _ => rfl) (fun hc => ?_) (fun hc => ?_)
  · rw [if_neg (m_nt hc)] at h
    obtain rfl := Option.some.inj h
    exact Ex_ret 2 (fun _ => rfl) rfl
  · rw [if_pos hc] at h
    refine Ex_br 2 (x1 = 0) (fun _ => rfl) (fun hc6 => ?_) (fun hc6 => ?_)
    · rw [if_pos hc6] at h
      obtain ⟨hg7, h⟩ := m_ite h
      refine Ex_gd 4 (fun _ => rfl) hg7 ?_
      refine Ex_sti 1 (fun _ => rfl) ?_
      exact T_X9_set_j177 D t x1 x2 x3 (s.1 65 x2.toNatClampNeg) s _ _ h
    · rw [if_neg hc6] at h
      refine Ex_br 3 (x1 = 1) (fun _ => rfl) (fun hc8 => ?_) (fun hc8 => ?_)
      · rw [if_pos hc8] at h
        obtain ⟨hg9, h⟩ := m_ite h
        refine Ex_gd 4 (fun _ => rfl) hg9 ?_
        refine Ex_sti 1 (fun _ => rfl) ?_
        exact T_X9_set_j177 D t x1 x2 x3 (s.1 63 x2.toNatClampNeg) s _ _ h
      · rw [if_neg hc8] at h
        refine Ex_br 3 (x1 = 2) (fun _ => rfl) (fun hc10 => ?_) (fun hc10 => ?_)
        · rw [if_pos hc10] at h
          obtain ⟨hg11, h⟩ := m_ite h
          refine Ex_gd 4 (fun _ => rfl) hg11 ?_
          refine Ex_sti 1 (fun _ => rfl) ?_
          exact T_X9_set_j177 D t x1 x2 x3 (s.1 66 x2.toNatClampNeg) s _ _ h
        · rw [if_neg hc10] at h
          refine Ex_br 3 (x1 = 3) (fun _ => rfl) (fun hc12 => ?_) (fun hc12 => ?_)
          · rw [if_pos hc12] at h
            obtain ⟨hg13, h⟩ := m_ite h
            refine Ex_gd 4 (fun _ => rfl) hg13 ?_
            refine Ex_sti 1 (fun _ => rfl) ?_
            exact T_X9_set_j177 D t x1 x2 x3 (s.1 64 x2.toNatClampNeg) s _ _ h
          · rw [if_neg hc12] at h
            refine Ex_br 3 (x1 = 4) (fun _ => rfl) (fun hc14 => ?_) (fun hc14 => ?_)
            · rw [if_pos hc14] at h
              obtain ⟨hg15, h⟩ := m_ite h
              refine Ex_gd 4 (fun _ => rfl) hg15 ?_
              refine Ex_sti 1 (fun _ => rfl) ?_
              exact T_X9_set_j177 D t x1 x2 x3 (s.1 62 x2.toNatClampNeg) s _ _ h
            · rw [if_neg hc14] at h
              refine Ex_br 3 (x1 = 5) (fun _ => rfl) (fun hc16 => ?_) (fun hc16 => ?_)
              · rw [if_pos hc16] at h
                refine Ex_sti 3 (fun _ => rfl) ?_
                exact T_X9_set_j177 D t x1 x2 x3 (s.1 56 16) s _ _ h
              · rw [if_neg hc16] at h
                obtain ⟨hg17, h⟩ := m_ite h
                refine Ex_gd 4 (fun _ => rfl) hg17 ?_
                exact T_X9_set_j177 D t x1 x2 x3 (s.1 68 x2.toNatClampNeg) s _ _ h

set_option maxRecDepth 20000 in
theorem T_X9_set_j43 (D : Nat) (t : mTX) (x1 : Int32) (x2 : Int32) (x3 : Int32) (s : mSG) (u4 : Option Value) (o : Int32 × mSG) (h : X9_set_j43 x1 x2 x3 s = some o)  : Ex (Runs (D + 2)) cd_X9_set (some (.int o.1), o.2, LAY t) 43 [some (.ref 56), some (.int x1), some (.int x2), some (.int x3), u4] [] s (LAY t) := by
  unfold X9_set_j43 at h
  refine Ex_br 5 (x1 = 0) (fun _ => rfl) (fun hc3 => ?_) (fun hc3 => ?_)
  · rw [if_pos hc3] at h
    refine Ex_sti 2 (fun _ => rfl) ?_
    exact T_X9_set_j81 D t x1 x2 x3 x3.toInt64 0 7 s _ _ h
  · rw [if_neg hc3] at h
    refine Ex_br 3 (x1 = 1) (fun _ => rfl) (fun hc4 => ?_) (fun hc4 => ?_)
    · rw [if_pos hc4] at h
      refine Ex_sti 2 (fun _ => rfl) ?_
      exact T_X9_set_j81 D t x1 x2 x3 x3.toInt64 0 99 s _ _ h
    · rw [if_neg hc4] at h
      refine Ex_br 3 (x1 = 5) (fun _ => rfl) (fun hc5 => ?_) (fun hc5 => ?_)
      · rw [if_pos hc5] at h
        refine Ex_sti 2 (fun _ => rfl) ?_
        exact T_X9_set_j81 D t x1 x2 x3 x3.toInt64 0 9999 s _ _ h
      · rw [if_neg hc5] at h
        refine Ex_sti 1 (fun _ => rfl) ?_
        exact T_X9_set_j81 D t x1 x2 x3 x3.toInt64 0 9 s _ _ h

set_option maxRecDepth 20000 in
theorem T_X9_set_j25 (D : Nat) (t : mTX) (x1 : Int32) (x2 : Int32) (x3 : Int32) (s : mSG) (u4 : Option Value) (o : Int32 × mSG) (h : X9_set_j25 x1 x2 x3 s = some o)  : Ex (Runs (D + 2)) cd_X9_set (some (.int o.1), o.2, LAY t) 25 [some (.ref 56), some (.int x1), some (.int x2), some (.int x3), u4] [] s (LAY t) := by
  unfold X9_set_j25 at h
  refine Ex_br 3 (x1 = 6) (fun _ => rfl) (fun hc2 => ?_) (fun hc2 => ?_)
  · rw [if_pos hc2] at h
    refine Ex_call 5 (fun _ => rfl) (T_X9_in (D + 1) t x2.toInt64 0 23 s _ rfl) rfl rfl ?_
    refine Ex_brZ 1 (X9_in x2.toInt64 0 23) (fun _ => rfl) (fun hc => ?_) (fun hc => ?_)
    · rw [if_neg (m_nt hc)] at h
      obtain rfl := Option.some.inj h
      exact Ex_ret 2 (fun _ => rfl) rfl
    · rw [if_pos hc] at h
      exact T_X9_set_j43 D t x1 x2 x3 s _ _ h
  · rw [if_neg hc2] at h
    exact T_X9_set_j43 D t x1 x2 x3 s _ _ h

set_option maxRecDepth 20000 in
theorem T_X9_set (D : Nat) (t : mTX) (x1 : Int32) (x2 : Int32) (x3 : Int32) (s : mSG) (o : Int32 × mSG) (h : X9_set x1 x2 x3 s = some o) : Runs (D + 3) 135 [.ref 56, .int x1, .int x2, .int x3] s (LAY t) (some (.int o.1), o.2, LAY t) := by
  refine Runs_mk (d := D + 2) rfl ?_
  show Ex (Runs (D + 2)) cd_X9_set (some (.int o.1), o.2, LAY t) 0 [some (.ref 56), some (.int x1), some (.int x2), some (.int x3), none] [] s (LAY t)
  unfold X9_set at h
  refine Ex_call 5 (fun _ => rfl) (T_X9_in (D + 1) t x1.toInt64 0 6 s _ rfl) rfl rfl ?_
  refine Ex_brZ 1 (X9_in x1.toInt64 0 6) (fun _ => rfl) (fun hc => ?_) (fun hc => ?_)
  · rw [if_neg (m_nt hc)] at h
    obtain rfl := Option.some.inj h
    exact Ex_ret 2 (fun _ => rfl) rfl
  · rw [if_pos hc] at h
    refine Ex_br 3 (5 ≤ x1) (fun _ => rfl) (fun hc1 => ?_) (fun hc1 => ?_)
    · rw [if_pos hc1] at h
      exact T_X9_set_j25 D t x1 x2 x3 s _ _ h
    · rw [if_neg hc1] at h
      refine Ex_call 3 (fun _ => rfl) (T_X9_isOne D t x2 s _ rfl) rfl rfl ?_
      refine Ex_brZ 1 (X9_isOne x2 s) (fun _ => rfl) (fun hc => ?_) (fun hc => ?_)
      · rw [if_neg (m_nt hc)] at h
        obtain rfl := Option.some.inj h
        exact Ex_ret 2 (fun _ => rfl) rfl
      · rw [if_pos hc] at h
        exact T_X9_set_j25 D t x1 x2 x3 s _ _ h

set_option maxRecDepth 20000 in
theorem T_X9_reaches_j89 (D : Nat) (t : mTX) (x6 : Int32) (s : mSG) (u0 u1 u2 u3 u4 u5 : Option Value) (o : Int32) (h : X9_reaches_j89 x6 s = o)  : Ex (Runs (D)) cd_X9_reaches (some (.int o), s, LAY t) 89 [u0, u1, u2, u3, u4, u5, some (.int x6)] [] s (LAY t) := by
  unfold X9_reaches_j89 at h
  refine Ex_br 2 (0 ≤ x6) (fun _ => rfl) (fun hc9 => ?_) (fun hc9 => ?_)
  · rw [if_pos hc9] at h
    subst h
    exact Ex_ret 2 (fun _ => rfl) rfl
  · rw [if_neg hc9] at h
    subst h
    exact Ex_ret 3 (fun _ => rfl) rfl

set_option maxRecDepth 20000 in
theorem T_X9_reaches_j78 (D : Nat) (t : mTX) (x2 : Int32) (x3 : Int32) (x5 : Int32) (x6 : Int32) (s : mSG) (u0 u1 u4 : Option Value) (o : Int32) (h : X9_reaches_j78 x2 x3 x5 x6 s = o)  : Ex (Runs (D)) cd_X9_reaches (some (.int o), s, LAY t) 78 [u0, u1, some (.int x2), some (.int x3), u4, some (.int x5), some (.int x6)] [] s (LAY t) := by
  unfold X9_reaches_j78 at h
  refine Ex_br 3 (x3 = 5) (fun _ => rfl) (fun hc8 => ?_) (fun hc8 => ?_)
  · rw [if_pos hc8] at h
    refine Ex_sti 4 (fun _ => rfl) ?_
    exact T_X9_reaches_j89 D t (x5 - x2) s _ _ _ _ _ _ _ h
  · rw [if_neg hc8] at h
    exact T_X9_reaches_j89 D t x6 s _ _ _ _ _ _ _ h

set_option maxRecDepth 20000 in
theorem T_X9_reaches_j67 (D : Nat) (t : mTX) (x2 : Int32) (x3 : Int32) (x5 : Int32) (x6 : Int32) (s : mSG) (u0 u1 u4 : Option Value) (o : Int32) (h : X9_reaches_j67 x2 x3 x5 x6 s = o)  : Ex (Runs (D)) cd_X9_reaches (some (.int o), s, LAY t) 67 [u0, u1, some (.int x2), some (.int x3), u4, some (.int x5), some (.int x6)] [] s (LAY t) := by
  unfold X9_reaches_j67 at h
  refine Ex_br 3 (x3 = 3) (fun _ => rfl) (fun hc7 => ?_) (fun hc7 => ?_)
  · rw [if_pos hc7] at h
    refine Ex_gd 3 (fun _ => rfl) (by decide) ?_
    refine Ex_sti 1 (fun _ => rfl) ?_
    exact T_X9_reaches_j78 D t x2 x3 x5 (x5 / 2) s _ _ _ _ h
  · rw [if_neg hc7] at h
    exact T_X9_reaches_j78 D t x2 x3 x5 x6 s _ _ _ _ h

set_option maxRecDepth 20000 in
theorem T_X9_reaches_j59 (D : Nat) (t : mTX) (x2 : Int32) (x3 : Int32) (x4 : Int32) (x5 : Int32) (s : mSG) (u0 u1 u6 : Option Value) (o : Int32) (h : X9_reaches_j59 x2 x3 x4 x5 s = o)  : Ex (Runs (D)) cd_X9_reaches (some (.int o), s, LAY t) 59 [u0, u1, some (.int x2), some (.int x3), some (.int x4), some (.int x5), u6] [] s (LAY t) := by
  unfold X9_reaches_j59 at h
  refine Ex_gd 4 (fun _ => rfl) (by decide) ?_
  refine Ex_sti 2 (fun _ => rfl) ?_
  exact T_X9_reaches_j67 D t x2 x3 x5 (x4 - (x2 / 2)) s _ _ _ _ h

set_option maxRecDepth 20000 in
theorem T_X9_reaches_j39 (D : Nat) (t : mTX) (x1 : Int32) (x2 : Int32) (x3 : Int32) (x4 : Int32) (x5 : Int32) (x6 : Int32) (s : mSG) (o : Int32) (h : X9_reaches_j39 x1 x2 x3 x4 x5 x6 s = some o)  : Ex (Runs (D)) cd_X9_reaches (some (.int o), s, LAY t) 39 [some (.ref 56), some (.int x1), some (.int x2), some (.int x3), some (.int x4), some (.int x5), some (.int x6)] [] s (LAY t) := by
  unfold X9_reaches_j39 at h
  refine Ex_br 3 (x3 = 2) (fun _ => rfl) (fun hc3 => ?_) (fun hc3 => ?_)
  · rw [if_pos hc3] at h
    have h := Option.some.inj h
    exact T_X9_reaches_j59 D t x2 x3 x4 x5 s _ _ _ _ h
  · rw [if_neg hc3] at h
    refine Ex_br 3 (x3 = 4) (fun _ => rfl) (fun hc4 => ?_) (fun hc4 => ?_)
    · rw [if_pos hc4] at h
      obtain ⟨hg5, h⟩ := m_ite h
      refine Ex_gd 5 (fun _ => rfl) hg5 ?_
      refine Ex_br 1 (x2 ≤ (s.1 62 x1.toNatClampNeg)) (fun _ => rfl) (fun hc6 => ?_) (fun hc6 => ?_)
      · rw [if_pos hc6] at h
        have h := Option.some.inj h
        exact T_X9_reaches_j67 D t x2 x3 x5 x6 s _ _ _ _ h
      · rw [if_neg hc6] at h
        have h := Option.some.inj h
        exact T_X9_reaches_j59 D t x2 x3 x4 x5 s _ _ _ _ h
    · rw [if_neg hc4] at h
      have h := Option.some.inj h
      exact T_X9_reaches_j67 D t x2 x3 x5 x6 s _ _ _ _ h

set_option maxRecDepth 20000 in
theorem T_X9_reaches (D : Nat) (t : mTX) (x1 : Int32) (x2 : Int32) (s : mSG) (o : Int32) (h : X9_reaches x1 x2 s = some o) : Runs (D + 1) 136 [.ref 56, .int x1, .int x2] s (LAY t) (some (.int o), s, LAY t) := by
  refine Runs_mk (d := D) rfl ?_
  show Ex (Runs (D)) cd_X9_reaches (some (.int o), s, LAY t) 0 [some (.ref 56), some (.int x1), some (.int x2), none, none, none, none] [] s (LAY t)
  unfold X9_reaches at h
  obtain ⟨hg1, h⟩ := m_ite h
  refine Ex_gd 4 (fun _ => rfl) hg1 ?_
  refine Ex_gd 5 (fun _ => rfl) hg1 ?_
  refine Ex_gd 6 (fun _ => rfl) hg1 ?_
  refine Ex_br 7 ((s.1 61 x1.toNatClampNeg) = 1) (fun _ => rfl) (fun hc2 => ?_) (fun hc2 => ?_)
  · rw [if_pos hc2] at h
    refine Ex_sti 2 (fun _ => rfl) ?_
    exact T_X9_reaches_j39 D t x1 x2 (s.1 61 x1.toNatClampNeg) (s.1 63 x1.toNatClampNeg) ((s.1 63 x1.toNatClampNeg) + (s.1 62 x1.toNatClampNeg)) ((s.1 63 x1.toNatClampNeg) + (s.1 62 x1.toNatClampNeg)) s  _ h
  · rw [if_neg hc2] at h
    exact T_X9_reaches_j39 D t x1 x2 (s.1 61 x1.toNatClampNeg) (s.1 63 x1.toNatClampNeg) ((s.1 63 x1.toNatClampNeg) + (s.1 62 x1.toNatClampNeg)) (s.1 63 x1.toNatClampNeg) s  _ h

set_option maxRecDepth 20000 in
theorem T_X9_lasts_j84 (D : Nat) (t : mTX) (x4 : Int32) (s : mSG) (u0 u1 u2 u3 : Option Value) (o : Int32) (h : X9_lasts_j84 x4 s = o)  : Ex (Runs (D)) cd_X9_lasts (some (.int o), s, LAY t) 84 [u0, u1, u2, u3, some (.int x4)] [] s (LAY t) := by
  unfold X9_lasts_j84 at h
  refine Ex_br 3 (1 ≤ x4) (fun _ => rfl) (fun hc10 => ?_) (fun hc10 => ?_)
  · rw [if_pos hc10] at h
    subst h
    exact Ex_ret 2 (fun _ => rfl) rfl
  · rw [if_neg hc10] at h
    subst h
    exact Ex_ret 3 (fun _ => rfl) rfl

set_option maxRecDepth 20000 in
theorem T_X9_lasts_j62 (D : Nat) (t : mTX) (x1 : Int32) (x2 : Int32) (x3 : Int32) (x4 : Int32) (s : mSG) (o : Int32) (h : X9_lasts_j62 x1 x2 x3 x4 s = some o)  : Ex (Runs (D)) cd_X9_lasts (some (.int o), s, LAY t) 62 [some (.ref 56), some (.int x1), some (.int x2), some (.int x3), some (.int x4)] [] s (LAY t) := by
  unfold X9_lasts_j62 at h
  refine Ex_br 3 (x3 = 5) (fun _ => rfl) (fun hc8 => ?_) (fun hc8 => ?_)
  · rw [if_pos hc8] at h
    obtain ⟨hg9, h⟩ := m_ite h
    refine Ex_gd 5 (fun _ => rfl) hg9 ?_
    refine Ex_gd 5 (fun _ => rfl) hg9 ?_
    refine Ex_sti 2 (fun _ => rfl) ?_
    have h := Option.some.inj h
    exact T_X9_lasts_j84 D t ((x2 + (s.1 64 x1.toNatClampNeg)) + (s.1 62 x1.toNatClampNeg)) s _ _ _ _ _ h
  · rw [if_neg hc8] at h
    have h := Option.some.inj h
    exact T_X9_lasts_j84 D t x4 s _ _ _ _ _ h

set_option maxRecDepth 20000 in
theorem T_X9_lasts_j45 (D : Nat) (t : mTX) (x1 : Int32) (x2 : Int32) (x3 : Int32) (x4 : Int32) (s : mSG) (o : Int32) (h : X9_lasts_j45 x1 x2 x3 x4 s = some o)  : Ex (Runs (D)) cd_X9_lasts (some (.int o), s, LAY t) 45 [some (.ref 56), some (.int x1), some (.int x2), some (.int x3), some (.int x4)] [] s (LAY t) := by
  unfold X9_lasts_j45 at h
  refine Ex_br 3 (x3 = 3) (fun _ => rfl) (fun hc6 => ?_) (fun hc6 => ?_)
  · rw [if_pos hc6] at h
    obtain ⟨hg7, h⟩ := m_ite h
    refine Ex_gd 6 (fun _ => rfl) hg7 ?_
    refine Ex_sti 3 (fun _ => rfl) ?_
    exact T_X9_lasts_j62 D t x1 x2 x3 (2 * (x2 + (s.1 64 x1.toNatClampNeg))) s  _ h
  · rw [if_neg hc6] at h
    exact T_X9_lasts_j62 D t x1 x2 x3 x4 s  _ h

set_option maxRecDepth 20000 in
theorem T_X9_lasts_j35 (D : Nat) (t : mTX) (x1 : Int32) (x2 : Int32) (x3 : Int32) (s : mSG) (u4 : Option Value) (o : Int32) (h : X9_lasts_j35 x1 x2 x3 s = some o)  : Ex (Runs (D)) cd_X9_lasts (some (.int o), s, LAY t) 35 [some (.ref 56), some (.int x1), some (.int x2), some (.int x3), u4] [] s (LAY t) := by
  unfold X9_lasts_j35 at h
  obtain ⟨hg5, h⟩ := m_ite h
  refine Ex_gd 5 (fun _ => rfl) hg5 ?_
  refine Ex_sti 2 (fun _ => rfl) ?_
  exact T_X9_lasts_j45 D t x1 x2 x3 (x2 - (s.1 62 x1.toNatClampNeg)) s  _ h

set_option maxRecDepth 20000 in
theorem T_X9_lasts_j25 (D : Nat) (t : mTX) (x1 : Int32) (x2 : Int32) (x3 : Int32) (x4 : Int32) (s : mSG) (o : Int32) (h : X9_lasts_j25 x1 x2 x3 x4 s = some o)  : Ex (Runs (D)) cd_X9_lasts (some (.int o), s, LAY t) 25 [some (.ref 56), some (.int x1), some (.int x2), some (.int x3), some (.int x4)] [] s (LAY t) := by
  unfold X9_lasts_j25 at h
  refine Ex_br 3 (x3 = 2) (fun _ => rfl) (fun hc3 => ?_) (fun hc3 => ?_)
  · rw [if_pos hc3] at h
    exact T_X9_lasts_j35 D t x1 x2 x3 s _ _ h
  · rw [if_neg hc3] at h
    refine Ex_br 3 (x3 = 4) (fun _ => rfl) (fun hc4 => ?_) (fun hc4 => ?_)
    · rw [if_pos hc4] at h
      exact T_X9_lasts_j35 D t x1 x2 x3 s _ _ h
    · rw [if_neg hc4] at h
      exact T_X9_lasts_j45 D t x1 x2 x3 x4 s  _ h

set_option maxRecDepth 20000 in
theorem T_X9_lasts (D : Nat) (t : mTX) (x1 : Int32) (x2 : Int32) (s : mSG) (o : Int32) (h : X9_lasts x1 x2 s = some o) : Runs (D + 1) 137 [.ref 56, .int x1, .int x2] s (LAY t) (some (.int o), s, LAY t) := by
  refine Runs_mk (d := D) rfl ?_
  show Ex (Runs (D)) cd_X9_lasts (some (.int o), s, LAY t) 0 [some (.ref 56), some (.int x1), some (.int x2), none, none] [] s (LAY t)
  unfold X9_lasts at h
  obtain ⟨hg1, h⟩ := m_ite h
  refine Ex_gd 4 (fun _ => rfl) hg1 ?_
  refine Ex_br 6 ((s.1 61 x1.toNatClampNeg) = 1) (fun _ => rfl) (fun hc2 => ?_) (fun hc2 => ?_)
  · rw [if_pos hc2] at h
    refine Ex_gd 5 (fun _ => rfl) hg1 ?_
    refine Ex_sti 2 (fun _ => rfl) ?_
    exact T_X9_lasts_j25 D t x1 x2 (s.1 61 x1.toNatClampNeg) (x2 + (s.1 64 x1.toNatClampNeg)) s  _ h
  · rw [if_neg hc2] at h
    exact T_X9_lasts_j25 D t x1 x2 (s.1 61 x1.toNatClampNeg) x2 s  _ h

