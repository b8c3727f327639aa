set_option maxRecDepth 20000 in
theorem T_X6_ofOne (D : Nat) (t : mTX) (x0 : Int32) (x1 : Int32) (s : mSG) (o : Int32) (h : X6_ofOne x0 x1 = o) : Runs (D + 1) 71 [.int x0, .int x1] s (LAY t) (some (.int o), s, LAY t) := by
  refine Runs_mk (d := D) rfl ?_
  show Ex (Runs (D)) cd_X6_ofOne (some (.int o), s, LAY t) 0 [some (.int x0), some (.int x1)] [] s (LAY t)
  unfold X6_ofOne at h
  refine Ex_br 3 (x0 = (-19)) (fun _ => rfl) (fun hc1 => ?_) (fun hc1 => ?_)
  · rw [if_pos hc1] at h
    subst h
    exact Ex_ret 3 (fun _ => rfl) rfl
  · rw [if_neg hc1] at h
    refine Ex_br 2 (x1 = 0) (fun _ => rfl) (fun hc2 => ?_) (fun hc2 => ?_)
    · rw [if_pos hc2] at h
      subst h
      exact Ex_ret 3 (fun _ => rfl) rfl
    · rw [if_neg hc2] at h
      subst h
      exact Ex_ret 2 (fun _ => rfl) rfl

set_option maxRecDepth 20000 in
theorem T_X6_value_29_30_j172_31 (D : Nat) (t : mTX) (w : Option Value) (z : mSG) (a0_ : Nat) (x1 : Int32) (x4 : Int32) (x5 : Int32) (s : mSG) (u6 u7 : Option Value) (o : (Int32 × Int32 × mSG) ⊕ mSG) (h : X6_value_29_30_j172_31 t a0_ x1 x4 x5 s = some o) (kc : ∀ y : Int32 × Int32 × mSG, o = .inl y → ∀ (u6 u7 : Option Value), Ex (Runs (D + 1)) cd_X6_value (w, z, LAY t) 31 [some (.ref a0_), some (.int x1), some (.ref 29), some (.ref 30), some (.int y.1), some (.int y.2.1), u6, u7] [] y.2.2 (LAY t)) (ke0 : ∀ y : mSG, o = .inr y → ∀ (u0 u1 u2 u4 u5 u6 u7 : Option Value), Ex (Runs (D + 1)) cd_X6_value (w, z, LAY t) 178 [u0, u1, u2, some (.ref 30), u4, u5, u6, u7] [] y (LAY t)) : Ex (Runs (D + 1)) cd_X6_value (w, z, LAY t) 172 [some (.ref a0_), some (.int x1), some (.ref 29), some (.ref 30), some (.int x4), some (.int x5), u6, u7] [] s (LAY t) := by
  unfold X6_value_29_30_j172_31 at h
  refine Ex_sti 2 (fun _ => rfl) ?_
  obtain rfl := Option.some.inj h
  exact kc _ rfl _ _

set_option maxRecDepth 20000 in
theorem T_X6_value_29_30_j93_31 (D : Nat) (t : mTX) (w : Option Value) (z : mSG) (a0_ : Nat) (x1 : Int32) (x4 : Int32) (x5 : Int32) (p1 : Int32) (p2 : Int32) (s : mSG) (u6 u7 : Option Value) (o : (Int32 × Int32 × mSG) ⊕ mSG) (h : X6_value_29_30_j93_31 t a0_ x1 x4 x5 p1 p2 s = some o) (kc : ∀ y : Int32 × Int32 × mSG, o = .inl y → ∀ (u6 u7 : Option Value), Ex (Runs (D + 1)) cd_X6_value (w, z, LAY t) 31 [some (.ref a0_), some (.int x1), some (.ref 29), some (.ref 30), some (.int y.1), some (.int y.2.1), u6, u7] [] y.2.2 (LAY t)) (ke0 : ∀ y : mSG, o = .inr y → ∀ (u0 u1 u2 u4 u5 u6 u7 : Option Value), Ex (Runs (D + 1)) cd_X6_value (w, z, LAY t) 178 [u0, u1, u2, some (.ref 30), u4, u5, u6, u7] [] y (LAY t)) : Ex (Runs (D + 1)) cd_X6_value (w, z, LAY t) 93 [some (.ref a0_), some (.int x1), some (.ref 29), some (.ref 30), some (.int x4), some (.int x5), u6, u7] [.int p2, .int p1, .ref 30] s (LAY t) := by
  unfold X6_value_29_30_j93_31 at h
  obtain ⟨hg16, h⟩ := m_ite h
  refine Ex_gd 1 (fun _ => rfl) hg16 ?_
  refine Ex_sti 2 (fun _ => rfl) ?_
  exact T_X6_value_29_30_j172_31 D t w z a0_ x1 (x4 + 1) x5 (sI s 30 p1.toNatClampNeg p2) _ _ _ h kc ke0

set_option maxRecDepth 20000 in
theorem T_X6_value_29_30_j69_31 (D : Nat) (t : mTX) (w : Option Value) (z : mSG) (a0_ : Nat) (x1 : Int32) (x4 : Int32) (x5 : Int32) (x6 : Int32) (x7 : Int32) (s : mSG) (o : (Int32 × Int32 × mSG) ⊕ mSG) (h : X6_value_29_30_j69_31 t a0_ x1 x4 x5 x6 x7 s = some o) (kc : ∀ y : Int32 × Int32 × mSG, o = .inl y → ∀ (u6 u7 : Option Value), Ex (Runs (D + 1)) cd_X6_value (w, z, LAY t) 31 [some (.ref a0_), some (.int x1), some (.ref 29), some (.ref 30), some (.int y.1), some (.int y.2.1), u6, u7] [] y.2.2 (LAY t)) (ke0 : ∀ y : mSG, o = .inr y → ∀ (u0 u1 u2 u4 u5 u6 u7 : Option Value), Ex (Runs (D + 1)) cd_X6_value (w, z, LAY t) 178 [u0, u1, u2, some (.ref 30), u4, u5, u6, u7] [] y (LAY t)) : Ex (Runs (D + 1)) cd_X6_value (w, z, LAY t) 69 [some (.ref a0_), some (.int x1), some (.ref 29), some (.ref 30), some (.int x4), some (.int x5), some (.int x6), some (.int x7)] [] s (LAY t) := by
  unfold X6_value_29_30_j69_31 at h
  refine Ex_br 3 (32 ≤ x4) (fun _ => rfl) (fun hc13 => ?_) (fun hc13 => ?_)
  · rw [if_pos hc13] at h
    exact T_X6_value_29_30_j172_31 D t w z a0_ x1 x4 x5 s _ _ _ h kc ke0
  · rw [if_neg hc13] at h
    refine Ex_br 4 (x6 < 0) (fun _ => rfl) (fun hc14 => ?_) (fun hc14 => ?_)
    · rw [if_pos hc14] at h
      obtain ⟨hg15, h⟩ := m_ite h
      refine Ex_gd 3 (fun _ => rfl) hg15 ?_
      exact T_X6_value_29_30_j93_31 D t w z a0_ x1 x4 x5 x4 (s.1 29 x7.toNatClampNeg) s _ _ _ h kc ke0
    · rw [if_neg hc14] at h
      refine Ex_sti 2 (fun _ => rfl) ?_
      exact T_X6_value_29_30_j93_31 D t w z a0_ x1 x4 x5 x4 x6 s _ _ _ h kc ke0

set_option maxRecDepth 20000 in
theorem T_X6_value_29_30_j114_31 (D : Nat) (t : mTX) (w : Option Value) (z : mSG) (a0_ : Nat) (x1 : Int32) (x4 : Int32) (x5 : Int32) (x6 : Int32) (s : mSG) (u7 : Option Value) (o : (Int32 × Int32 × mSG) ⊕ mSG) (h : X6_value_29_30_j114_31 t a0_ x1 x4 x5 x6 s = some o) (kc : ∀ y : Int32 × Int32 × mSG, o = .inl y → ∀ (u6 u7 : Option Value), Ex (Runs (D + 1)) cd_X6_value (w, z, LAY t) 31 [some (.ref a0_), some (.int x1), some (.ref 29), some (.ref 30), some (.int y.1), some (.int y.2.1), u6, u7] [] y.2.2 (LAY t)) (ke0 : ∀ y : mSG, o = .inr y → ∀ (u0 u1 u2 u4 u5 u6 u7 : Option Value), Ex (Runs (D + 1)) cd_X6_value (w, z, LAY t) 178 [u0, u1, u2, some (.ref 30), u4, u5, u6, u7] [] y (LAY t)) : Ex (Runs (D + 1)) cd_X6_value (w, z, LAY t) 114 [some (.ref a0_), some (.int x1), some (.ref 29), some (.ref 30), some (.int x4), some (.int x5), some (.int x6), u7] [] s (LAY t) := by
  unfold X6_value_29_30_j114_31 at h
  refine Ex_br 3 (x4 < 1) (fun _ => rfl) (fun hc17 => ?_) (fun hc17 => ?_)
  · rw [if_pos hc17] at h
    exact T_X6_value_29_30_j172_31 D t w z a0_ x1 x4 x5 s _ _ _ h kc ke0
  · rw [if_neg hc17] at h
    obtain ⟨hg18, h⟩ := m_ite h
    refine Ex_gd 10 (fun _ => rfl) hg18 ?_
    refine Ex_call 1 (fun _ => rfl) (T_X6_ofOne D t x6 (s.1 30 (x4 - 1).toNatClampNeg) s _ rfl) rfl rfl ?_
    refine Ex_gd 1 (fun _ => rfl) hg18 ?_
    refine Ex_sti 1 (fun _ => rfl) ?_
    exact T_X6_value_29_30_j172_31 D t w z a0_ x1 x4 x5 (sI s 30 (x4 - 1).toNatClampNeg (X6_ofOne x6 (s.1 30 (x4 - 1).toNatClampNeg))) _ _ _ h kc ke0

set_option maxRecDepth 20000 in
theorem T_X6_value_29_30_b31 (D : Nat) (t : mTX) (w : Option Value) (z : mSG) (a0_ : Nat) (x1 : Int32) (x4 : Int32) (x5 : Int32) (s : mSG) (u6 u7 : Option Value) (o : (Int32 × Int32 × mSG) ⊕ mSG) (h : X6_value_29_30_b31 t a0_ x1 x4 x5 s = some o) (kc : ∀ y : Int32 × Int32 × mSG, o = .inl y → ∀ (u6 u7 : Option Value), Ex (Runs (D + 1)) cd_X6_value (w, z, LAY t) 31 [some (.ref a0_), some (.int x1), some (.ref 29), some (.ref 30), some (.int y.1), some (.int y.2.1), u6, u7] [] y.2.2 (LAY t)) (ke0 : ∀ y : mSG, o = .inr y → ∀ (u0 u1 u2 u4 u5 u6 u7 : Option Value), Ex (Runs (D + 1)) cd_X6_value (w, z, LAY t) 178 [u0, u1, u2, some (.ref 30), u4, u5, u6, u7] [] y (LAY t)) : Ex (Runs (D + 1)) cd_X6_value (w, z, LAY t) 31 [some (.ref a0_), some (.int x1), some (.ref 29), some (.ref 30), some (.int x4), some (.int x5), u6, u7] [] s (LAY t) := by
  unfold X6_value_29_30_b31 at h
  obtain ⟨hg, h⟩ := m_ite h
  obtain ⟨a3, hq, h⟩ := m_bind h
  refine Ex_getF 3 (fun _ => rfl) hg hq ?_
  obtain ⟨hg, h⟩ := m_ite h
  refine Ex_ifg 2 (fun _ => rfl) hg.1 hg.2 ?_
  refine Ex_br 1 ((s.1 a3 x1.toNatClampNeg) ≤ x5) (fun _ => rfl) (fun hc4 => ?_) (fun hc4 => ?_)
  · rw [if_pos hc4] at h
    obtain rfl := Option.some.inj h
    exact ke0 _ rfl _ _ _ _ _ _ _
  · rw [if_neg hc4] at h
    obtain ⟨hg, h⟩ := m_ite h
    obtain ⟨a5, hq, h⟩ := m_bind h
    refine Ex_getF 2 (fun _ => rfl) hg hq ?_
    obtain ⟨hg, h⟩ := m_ite h
    refine Ex_ifg 2 (fun _ => rfl) hg.1 hg.2 ?_
    refine Ex_br 7 (0 ≤ (s.1 a5 x5.toNatClampNeg)) (fun _ => rfl) (fun hc6 => ?_) (fun hc6 => ?_)
    · rw [if_pos hc6] at h
      exact T_X6_value_29_30_j69_31 D t w z a0_ x1 x4 x5 (s.1 a5 x5.toNatClampNeg) ((-1) - (s.1 a5 x5.toNatClampNeg)) s  _ h kc ke0
    · rw [if_neg hc6] at h
      refine Ex_br 3 (6 ≤ ((-1) - (s.1 a5 x5.toNatClampNeg))) (fun _ => rfl) (fun hc7 => ?_) (fun hc7 => ?_)
      · rw [if_pos hc7] at h
        refine Ex_br 3 ((s.1 a5 x5.toNatClampNeg) = (-13)) (fun _ => rfl) (fun hc8 => ?_) (fun hc8 => ?_)
        · rw [if_pos hc8] at h
          exact T_X6_value_29_30_j114_31 D t w z a0_ x1 x4 x5 (s.1 a5 x5.toNatClampNeg) s _ _ h kc ke0
        · rw [if_neg hc8] at h
          refine Ex_br 3 ((s.1 a5 x5.toNatClampNeg) = (-19)) (fun _ => rfl) (fun hc9 => ?_) (fun hc9 => ?_)
          · rw [if_pos hc9] at h
            exact T_X6_value_29_30_j114_31 D t w z a0_ x1 x4 x5 (s.1 a5 x5.toNatClampNeg) s _ _ h kc ke0
          · rw [if_neg hc9] at h
            refine Ex_br 3 (x4 < 2) (fun _ => rfl) (fun hc10 => ?_) (fun hc10 => ?_)
            · rw [if_pos hc10] at h
              exact T_X6_value_29_30_j172_31 D t w z a0_ x1 x4 x5 s _ _ _ h kc ke0
            · rw [if_neg hc10] at h
              obtain ⟨hg11, h⟩ := m_ite h
              refine Ex_gd 10 (fun _ => rfl) hg11 ?_
              obtain ⟨hg12, h⟩ := m_ite h
              refine Ex_gd 5 (fun _ => rfl) hg12 ?_
              refine Ex_call 1 (fun _ => rfl) (T_X6_ofTwo D t (s.1 a5 x5.toNatClampNeg) (s.1 30 (x4 - 2).toNatClampNeg) (s.1 30 (x4 - 1).toNatClampNeg) s _ rfl) rfl rfl ?_
              refine Ex_gd 1 (fun _ => rfl) hg11 ?_
              refine Ex_sti 1 (fun _ => rfl) ?_
              exact T_X6_value_29_30_j172_31 D t w z a0_ x1 (x4 + (-1)) x5 (sI s 30 (x4 - 2).toNatClampNeg (X6_ofTwo (s.1 a5 x5.toNatClampNeg) (s.1 30 (x4 - 2).toNatClampNeg) (s.1 30 (x4 - 1).toNatClampNeg))) _ _ _ h kc ke0
      · rw [if_neg hc7] at h
        exact T_X6_value_29_30_j69_31 D t w z a0_ x1 x4 x5 (s.1 a5 x5.toNatClampNeg) ((-1) - (s.1 a5 x5.toNatClampNeg)) s  _ h kc ke0

theorem T_X6_value_29_30_l31 (D : Nat) (t : mTX) (w : Option Value) (z : mSG) (a0_ : Nat) (x1 : Int32) (v : Int32 × Int32 × mSG) (e : mSG) (h : X6_value_29_30_l31 t a0_ x1 v = some e) (ke0 : ∀ y : mSG, e = y → ∀ (u0 u1 u2 u4 u5 u6 u7 : Option Value), Ex (Runs (D + 1)) cd_X6_value (w, z, LAY t) 178 [u0, u1, u2, some (.ref 30), u4, u5, u6, u7] [] y (LAY t)) : ∀ (u6 u7 : Option Value), Ex (Runs (D + 1)) cd_X6_value (w, z, LAY t) 31 [some (.ref a0_), some (.int x1), some (.ref 29), some (.ref 30), some (.int v.1), some (.int v.2.1), u6, u7] [] v.2.2 (LAY t) :=
  m_iter (P := fun v : Int32 × Int32 × mSG => ∀ (u6 u7 : Option Value), Ex (Runs (D + 1)) cd_X6_value (w, z, LAY t) 31 [some (.ref a0_), some (.int x1), some (.ref 29), some (.ref 30), some (.int v.1), some (.int v.2.1), u6, u7] [] v.2.2 (LAY t)) (Q := fun e : mSG => (∀ y : mSG, e = y → ∀ (u0 u1 u2 u4 u5 u6 u7 : Option Value), Ex (Runs (D + 1)) cd_X6_value (w, z, LAY t) 178 [u0, u1, u2, some (.ref 30), u4, u5, u6, u7] [] y (LAY t))) (fun x o hx kc kq u6 u7 => T_X6_value_29_30_b31 D t w z a0_ x1 x.1 x.2.1 x.2.2 u6 u7 o hx kc (fun e he => kq _ he e rfl)) mFU v e h ke0
set_option maxRecDepth 20000 in
theorem T_X6_value_29_30_j29 (D : Nat) (t : mTX) (a0_ : Nat) (x1 : Int32) (x4 : Int32) (p0 : Int32) (s : mSG) (u5 u6 u7 : Option Value) (o : Int32 × mSG) (h : X6_value_29_30_j29 t a0_ x1 x4 p0 s = some o)  : Ex (Runs (D + 1)) cd_X6_value (some (.int o.1), o.2, LAY t) 29 [some (.ref a0_), some (.int x1), some (.ref 29), some (.ref 30), some (.int x4), u5, u6, u7] [.int p0] s (LAY t) := by
  unfold X6_value_29_30_j29 at h
  refine Ex_sti 1 (fun _ => rfl) ?_
  obtain ⟨e31, hl, h⟩ := m_bind h
  refine T_X6_value_29_30_l31 D t (some (.int o.1)) o.2 a0_ x1  (x4, p0, s) _ hl (fun y0 hy0 => ?_) _ _
  · obtain ⟨e31, rfl⟩ : ∃ q, q = y0 := ⟨_, rfl⟩
    subst hy0
    intro vu0 vu1 vu2 vu4 vu5 vu6 vu7
    refine Ex_gd 3 (fun _ => rfl) rfl ?_
    obtain rfl := Option.some.inj h
    exact Ex_ret 1 (fun _ => rfl) rfl

set_option maxRecDepth 20000 in
theorem T_X6_value_29_30 (D : Nat) (t : mTX) (a0_ : Nat) (x1 : Int32) (s : mSG) (o : Int32 × mSG) (h : X6_value_29_30 t a0_ x1 s = some o) : Runs (D + 2) 70 [.ref a0_, .int x1, .ref 29, .ref 30] s (LAY t) (some (.int o.1), o.2, LAY t) := by
  refine Runs_mk (d := D + 1) rfl ?_
  show Ex (Runs (D + 1)) cd_X6_value (some (.int o.1), o.2, LAY t) 0 [some (.ref a0_), some (.int x1), some (.ref 29), some (.ref 30), none, none, none, none] [] s (LAY t)
  unfold X6_value_29_30 at h
  refine Ex_call 3 (fun _ => rfl) (T_X8_isWithin D t x1 2 s _ rfl) rfl rfl ?_
  refine Ex_brZ 1 (X8_isWithin x1 2) (fun _ => rfl) (fun hc => ?_) (fun hc => ?_)
  · rw [if_neg (m_nt hc)] at h
    obtain rfl := Option.some.inj h
    exact Ex_ret 2 (fun _ => rfl) rfl
  · rw [if_pos hc] at h
    refine Ex_br 4 (x1 = 0) (fun _ => rfl) (fun hc1 => ?_) (fun hc1 => ?_)
    · rw [if_pos hc1] at h
      refine Ex_sti 2 (fun _ => rfl) ?_
      exact T_X6_value_29_30_j29 D t a0_ x1 0 0 s _ _ _ _ h
    · rw [if_neg hc1] at h
      obtain ⟨hg, h⟩ := m_ite h
      obtain ⟨a2, hq, h⟩ := m_bind h
      refine Ex_getF 2 (fun _ => rfl) hg hq ?_
      obtain ⟨hg, h⟩ := m_ite h
      refine Ex_ifg 4 (fun _ => rfl) hg.1 hg.2 ?_
      exact T_X6_value_29_30_j29 D t a0_ x1 0 (s.1 a2 (x1 - 1).toNatClampNeg) s _ _ _ _ h

set_option maxRecDepth 20000 in
theorem T_X0_asked_28 (D : Nat) (t : mTX) (x1 : Int32) (x2 : Int32) (x3 : Int32) (x4 : Int32) (s : mSG) (o : Int32 × mSG) (h : X0_asked_28 t x1 x2 x3 x4 s = some o) : Runs (D + 3) 8 [.ref 28, .int x1, .int x2, .int x3, .int x4] s (LAY t) (some (.int o.1), o.2, LAY t) := by
  refine Runs_mk (d := D + 2) rfl ?_
  show Ex (Runs (D + 2)) cd_X0_asked (some (.int o.1), o.2, LAY t) 0 [some (.ref 28), some (.int x1), some (.int x2), some (.int x3), some (.int x4)] [] s (LAY t)
  unfold X0_asked_28 at h
  rcases m_opt_cases h with ⟨hq, h⟩ | ⟨a1, hq, h⟩
  · refine Ex_getQn 2 (fun _ => rfl) hq ?_
    obtain rfl := Option.some.inj h
    exact Ex_ret 3 (fun _ => rfl) rfl
  · refine Ex_getQ 2 (fun _ => rfl) hq ?_
    refine Ex_gd 6 (fun _ => rfl) rfl ?_
    refine Ex_gd 6 (fun _ => rfl) rfl ?_
    refine Ex_gd 6 (fun _ => rfl) rfl ?_
    refine Ex_gd 6 (fun _ => rfl) rfl ?_
    refine Ex_gd 5 (fun _ => rfl) rfl ?_
    refine Ex_gd 5 (fun _ => rfl) rfl ?_
    obtain ⟨a2, hq, h⟩ := m_bind h
    refine Ex_getQ 2 (fun _ => rfl) hq ?_
    obtain ⟨hk, h⟩ := m_ite h
    obtain ⟨r3, hr, h⟩ := m_bind h
    refine Ex_callK 6 (fun _ => rfl) ⟨hk, Nat.le_of_ble_eq_true rfl⟩ (T_X6_value_29_30 D t a2 x1 (sI (sI (sI (sI (sI (sI s 29 0 x4) 29 1 (s.1 28 7)) 29 2 (s.1 28 6)) 29 3 (s.1 28 8)) 29 4 x2) 29 5 x3) r3 hr) rfl rfl ?_
    refine Ex_call 3 (fun _ => rfl) (T_X8_bounded D t r3.1 0 99 r3.2 _ rfl) rfl rfl ?_
    obtain rfl := Option.some.inj h
    exact Ex_ret 1 (fun _ => rfl) rfl

set_option maxRecDepth 20000 in
theorem T_X2_lasts (D : Nat) (t : mTX) (x0 : Int32) (x1 : Int32) (x2 : Int32) (x3 : Int32) (s : mSG) (o : Int32) (h : X2_lasts x0 x1 x2 x3 = o) : Runs (D + 2) 30 [.int x0, .int x1, .int x2, .int x3] s (LAY t) (some (.int o), s, LAY t) := by
  refine Runs_mk (d := D + 1) rfl ?_
  show Ex (Runs (D + 1)) cd_X2_lasts (some (.int o), s, LAY t) 0 [some (.int x0), some (.int x1), some (.int x2), some (.int x3)] [] s (LAY t)
  unfold X2_lasts at h
  refine Ex_sw 2 (fun _ => rfl) ?_
  refine mSwE_cons (fun hc => ?_) (fun hc => ?_)
  · rw [if_pos hc] at h
    refine Ex_call 5 (fun _ => rfl) (T_J9_max D t 1 (x2 + x3) s _ rfl) rfl rfl ?_
    subst h
    exact Ex_ret 1 (fun _ => rfl) rfl
  · rw [if_neg hc] at h
    refine mSwE_cons (fun hc => ?_) (fun hc => ?_)
    · rw [if_pos hc] at h
      refine Ex_call 5 (fun _ => rfl) (T_J9_max D t 1 (x2 - x1) s _ rfl) rfl rfl ?_
      subst h
      exact Ex_ret 1 (fun _ => rfl) rfl
    · rw [if_neg hc] at h
      refine mSwE_cons (fun hc => ?_) (fun hc => ?_)
      · rw [if_pos hc] at h
        refine Ex_call 7 (fun _ => rfl) (T_J9_max D t 1 (2 * (x2 + x3)) s _ rfl) rfl rfl ?_
        subst h
        exact Ex_ret 1 (fun _ => rfl) rfl
      · rw [if_neg hc] at h
        refine mSwE_cons (fun hc => ?_) (fun hc => ?_)
        · rw [if_pos hc] at h
          refine Ex_call 5 (fun _ => rfl) (T_J9_max D t 1 (x2 - x1) s _ rfl) rfl rfl ?_
          subst h
          exact Ex_ret 1 (fun _ => rfl) rfl
        · rw [if_neg hc] at h
          refine mSwE_cons (fun hc => ?_) (fun hc => ?_)
          · rw [if_pos hc] at h
            refine Ex_call 7 (fun _ => rfl) (T_J9_max D t 1 ((x2 + x3) + x1) s _ rfl) rfl rfl ?_
            subst h
            exact Ex_ret 1 (fun _ => rfl) rfl
          · rw [if_neg hc] at h
            refine mSwE_nil ?_
            refine Ex_call 3 (fun _ => rfl) (T_J9_max D t 1 x2 s _ rfl) rfl rfl ?_
            subst h
            exact Ex_ret 1 (fun _ => rfl) rfl

set_option maxRecDepth 20000 in
theorem T_X0_hours_28 (D : Nat) (t : mTX) (x1 : Int32) (x2 : Int32) (x3 : Int32) (s : mSG) (o : Int32 × mSG) (h : X0_hours_28 t x1 x2 x3 s = some o) : Runs (D + 4) 6 [.ref 28, .int x1, .int x2, .int x3] s (LAY t) (some (.int o.1), o.2, LAY t) := by
  refine Runs_mk (d := D + 3) rfl ?_
  show Ex (Runs (D + 3)) cd_X0_hours (some (.int o.1), o.2, LAY t) 0 [some (.ref 28), some (.int x1), some (.int x2), some (.int x3)] [] s (LAY t)
  unfold X0_hours_28 at h
  refine Ex_br 2 (x3 ≤ 0) (fun _ => rfl) (fun hc1 => ?_) (fun hc1 => ?_)
  · rw [if_pos hc1] at h
    obtain rfl := Option.some.inj h
    exact Ex_ret 2 (fun _ => rfl) rfl
  · rw [if_neg hc1] at h
    refine Ex_call 2 (fun _ => rfl) (T_X0_reaches_28 D t  s _ rfl) rfl rfl ?_
    obtain ⟨r2, hr, h⟩ := m_bind h
    refine Ex_call 7 (fun _ => rfl) (T_X0_asked_28 D t 0 x1 x2 x3 s r2 hr) rfl rfl ?_
    refine Ex_br 2 ((x3 + r2.1) ≤ (X0_reaches_28 s)) (fun _ => rfl) (fun hc3 => ?_) (fun hc3 => ?_)
    · rw [if_pos hc3] at h
      refine Ex_call 8 (fun _ => rfl) (T_X2_lasts (D + 1) t (r2.2.1 28 3) (r2.2.1 28 4) x3 (r2.2.1 28 6) r2.2 _ rfl) rfl rfl ?_
      obtain ⟨r4, hr, h⟩ := m_bind h
      refine Ex_call 6 (fun _ => rfl) (T_X0_asked_28 D t 1 x1 x2 x3 r2.2 r4 hr) rfl rfl ?_
      obtain rfl := Option.some.inj h
      exact Ex_ret 2 (fun _ => rfl) rfl
    · rw [if_neg hc3] at h
      obtain rfl := Option.some.inj h
      exact Ex_ret 2 (fun _ => rfl) rfl

set_option maxRecDepth 20000 in
theorem T_X8_can (D : Nat) (t : mTX) (x1 : Int32) (x2 : Int32) (x3 : Int32) (s : mSG) (o : Int32 × mSG) (h : X8_can t x1 x2 x3 s = some o) : Runs (D + 5) 86 [.ref 6, .int x1, .int x2, .int x3] s (LAY t) (some (.int o.1), o.2, LAY t) := by
  refine Runs_mk (d := D + 4) rfl ?_
  show Ex (Runs (D + 4)) cd_X8_can (some (.int o.1), o.2, LAY t) 0 [some (.ref 6), some (.int x1), some (.int x2), some (.int x3), none, none] [] s (LAY t)
  unfold X8_can at h
  refine Ex_call 4 (fun _ => rfl) (T_X5_isOne_7 (D + 2) t x1 s _ rfl) rfl rfl ?_
  refine Ex_brZ 1 (X5_isOne_7 x1 s) (fun _ => rfl) (fun hc => ?_) (fun hc => ?_)
  · rw [if_neg (m_nt hc)] at h
    obtain rfl := Option.some.inj h
    exact Ex_ret 2 (fun _ => rfl) rfl
  · rw [if_pos hc] at h
    refine Ex_call 2 (fun _ => rfl) (T_X8_isStone (D + 2) t x2 s _ rfl) rfl rfl ?_
    refine Ex_brZ 1 (X8_isStone x2) (fun _ => rfl) (fun hc => ?_) (fun hc => ?_)
    · rw [if_neg (m_nt hc)] at h
      obtain rfl := Option.some.inj h
      exact Ex_ret 2 (fun _ => rfl) rfl
    · rw [if_pos hc] at h
      refine Ex_call 3 (fun _ => rfl) (T_X8_isWithin (D + 3) t x3 1 s _ rfl) rfl rfl ?_
      refine Ex_brZ 1 (X8_isWithin x3 1) (fun _ => rfl) (fun hc => ?_) (fun hc => ?_)
      · rw [if_neg (m_nt hc)] at h
        obtain rfl := Option.some.inj h
        exact Ex_ret 2 (fun _ => rfl) rfl
      · rw [if_pos hc] at h
        obtain ⟨r1, hr, h⟩ := m_bind h
        refine Ex_call 9 (fun _ => rfl) (T_X8_ruleOf_7 (D + 2) t  s r1 hr) rfl rfl ?_
        obtain ⟨r2, hr, h⟩ := m_bind h
        refine Ex_call 1 (fun _ => rfl) (T_X0_be_28_7 D t x1 r1 s r2 hr) rfl rfl ?_
        obtain ⟨r3, hr, h⟩ := m_bind h
        refine Ex_call 5 (fun _ => rfl) (T_X5_trait_7 (D + 1) t x1 0 r2 r3 hr) rfl rfl ?_
        obtain ⟨r4, hr, h⟩ := m_bind h
        refine Ex_call 10 (fun _ => rfl) (T_X5_mudBetween_7 D t r3 x2 r2 r4 hr) rfl rfl ?_
        obtain ⟨r5, hr, h⟩ := m_bind h
        refine Ex_call 1 (fun _ => rfl) (T_X0_hours_28 D t r3 x2 r4 r2 r5 hr) rfl rfl ?_
        refine Ex_br 3 (x3 = 0) (fun _ => rfl) (fun hc6 => ?_) (fun hc6 => ?_)
        · rw [if_pos hc6] at h
          refine Ex_br 2 (r5.1 ≤ 0) (fun _ => rfl) (fun hc7 => ?_) (fun hc7 => ?_)
          · rw [if_pos hc7] at h
            obtain rfl := Option.some.inj h
            exact Ex_ret 2 (fun _ => rfl) rfl
          · rw [if_neg hc7] at h
            obtain rfl := Option.some.inj h
            exact Ex_ret 3 (fun _ => rfl) rfl
        · rw [if_neg hc6] at h
          refine Ex_br 2 (r5.1 ≤ 0) (fun _ => rfl) (fun hc8 => ?_) (fun hc8 => ?_)
          · rw [if_pos hc8] at h
            obtain rfl := Option.some.inj h
            exact Ex_ret 2 (fun _ => rfl) rfl
          · rw [if_neg hc8] at h
            obtain rfl := Option.some.inj h
            exact Ex_ret 3 (fun _ => rfl) rfl

set_option maxRecDepth 20000 in
theorem T_X2_soaks (D : Nat) (t : mTX) (x0 : Int32) (x1 : Int32) (x2 : Int32) (s : mSG) (o : Int32) (h : X2_soaks x0 x1 x2 = o) : Runs (D + 3) 31 [.int x0, .int x1, .int x2] s (LAY t) (some (.int o), s, LAY t) := by
  refine Runs_mk (d := D + 2) rfl ?_
  show Ex (Runs (D + 2)) cd_X2_soaks (some (.int o), s, LAY t) 0 [some (.int x0), some (.int x1), some (.int x2), none] [] s (LAY t)
  unfold X2_soaks at h
  refine Ex_sw 6 (fun _ => rfl) ?_
  refine mSwE_cons (fun hc => ?_) (fun hc => ?_)
  · rw [if_pos hc] at h
    refine Ex_gd 3 (fun _ => rfl) (by decide) ?_
    refine Ex_call 3 (fun _ => rfl) (T_X8_bounded D t ((x1 + x2) / 2) 0 9 s _ rfl) rfl rfl ?_
    subst h
    exact Ex_ret 1 (fun _ => rfl) rfl
  · rw [if_neg hc] at h
    refine mSwE_cons (fun hc => ?_) (fun hc => ?_)
    · rw [if_pos hc] at h
      refine Ex_call 6 (fun _ => rfl) (T_X8_bounded D t ((x1 + x2) + 1) 0 9 s _ rfl) rfl rfl ?_
      subst h
      exact Ex_ret 1 (fun _ => rfl) rfl
    · rw [if_neg hc] at h
      refine mSwE_cons (fun hc => ?_) (fun hc => ?_)
      · rw [if_pos hc] at h
        refine Ex_call 4 (fun _ => rfl) (T_X8_bounded D t x1 0 9 s _ rfl) rfl rfl ?_
        subst h
        exact Ex_ret 1 (fun _ => rfl) rfl
      · rw [if_neg hc] at h
        refine mSwE_cons (fun hc => ?_) (fun hc => ?_)
        · rw [if_pos hc] at h
          refine Ex_call 6 (fun _ => rfl) (T_X8_bounded D t (2 * (x1 + x2)) 0 9 s _ rfl) rfl rfl ?_
          subst h
          exact Ex_ret 1 (fun _ => rfl) rfl
        · rw [if_neg hc] at h
          refine mSwE_nil ?_
          refine Ex_call 4 (fun _ => rfl) (T_X8_bounded D t (x1 + x2) 0 9 s _ rfl) rfl rfl ?_
          subst h
          exact Ex_ret 1 (fun _ => rfl) rfl

set_option maxRecDepth 20000 in
theorem T_X0_soak_28 (D : Nat) (t : mTX) (s : mSG) (o : mSG) (h : X0_soak_28 s = some o) : Runs (D + 4) 7 [.ref 28] s (LAY t) (none, o, LAY t) := by
  refine Runs_mk (d := D + 3) rfl ?_
  show Ex (Runs (D + 3)) cd_X0_soak (none, o, LAY t) 0 [some (.ref 28)] [] s (LAY t)
  unfold X0_soak_28 at h
  refine Ex_call 8 (fun _ => rfl) (T_X2_soaks D t (s.1 28 3) (s.1 28 7) (s.1 28 8) s _ rfl) rfl rfl ?_
  obtain rfl := Option.some.inj h
  exact Ex_ret 2 (fun _ => rfl) rfl

set_option maxRecDepth 20000 in
theorem T_X8_moves_7 (D : Nat) (t : mTX) (x2 : Int32) (x3 : Int32) (s : mSG) (o : Bool × mSG) (h : X8_moves_7 t x2 x3 s = some o) : Runs (D + 5) 116 [.ref 6, .ref 7, .int x2, .int x3] s (LAY t) (some (.int (b2i o.1)), o.2, LAY t) := by
  refine Runs_mk (d := D + 4) rfl ?_
  show Ex (Runs (D + 4)) cd_X8_moves (some (.int (b2i o.1)), o.2, LAY t) 0 [some (.ref 6), some (.ref 7), some (.int x2), some (.int x3), none, none] [] s (LAY t)
  unfold X8_moves_7 at h
  obtain ⟨r1, hr, h⟩ := m_bind h
  refine Ex_call 7 (fun _ => rfl) (T_X8_ruleOf_7 (D + 2) t  s r1 hr) rfl rfl ?_
  obtain ⟨r2, hr, h⟩ := m_bind h
  refine Ex_call 1 (fun _ => rfl) (T_X0_be_28_7 D t x2 r1 s r2 hr) rfl rfl ?_
  obtain ⟨r3, hr, h⟩ := m_bind h
  refine Ex_call 4 (fun _ => rfl) (T_X5_trait_7 (D + 1) t x2 0 r2 r3 hr) rfl rfl ?_
  obtain ⟨r4, hr, h⟩ := m_bind h
  refine Ex_call 9 (fun _ => rfl) (T_X5_mudBetween_7 D t r3 x3 r2 r4 hr) rfl rfl ?_
  obtain ⟨r5, hr, h⟩ := m_bind h
  refine Ex_call 1 (fun _ => rfl) (T_X0_hours_28 D t r3 x3 r4 r2 r5 hr) rfl rfl ?_
  refine Ex_br 3 (r5.1 = 0) (fun _ => rfl) (fun hc6 => ?_) (fun hc6 => ?_)
  · rw [if_pos hc6] at h
    obtain rfl := Option.some.inj h
    exact Ex_retZ 2 (fun _ => rfl) (Or.inl rfl) rfl
  · rw [if_neg hc6] at h
    obtain ⟨r7, hr, h⟩ := m_bind h
    refine Ex_call 3 (fun _ => rfl) (T_X0_soak_28 D t  r5.2 r7 hr) rfl rfl ?_
    obtain ⟨r8, hr, h⟩ := m_bind h
    refine Ex_call 5 (fun _ => rfl) (T_X5_put_7 (D + 1) t x2 0 x3 r7 r8 hr) rfl rfl ?_
    obtain ⟨r9, hr, h⟩ := m_bind h
    refine Ex_call 7 (fun _ => rfl) (T_X5_put_7 (D + 1) t x2 2 (r8.1 28 7) r8 r9 hr) rfl rfl ?_
    refine Ex_call 7 (fun _ => rfl) (T_J9_min (D + 3) t 9999 ((r9.1 7 5) + r5.1) r9 _ rfl) rfl rfl ?_
    obtain rfl := Option.some.inj h
    exact Ex_retZ 3 (fun _ => rfl) (Or.inr rfl) rfl

set_option maxRecDepth 20000 in
theorem T_X8_go (D : Nat) (t : mTX) (x1 : Int32) (x2 : Int32) (s : mSG) (o : Int32 × mSG) (h : X8_go t x1 x2 s = some o) : Runs (D + 6) 87 [.ref 6, .int x1, .int x2] s (LAY t) (some (.int o.1), o.2, LAY t) := by
  refine Runs_mk (d := D + 5) rfl ?_
  show Ex (Runs (D + 5)) cd_X8_go (some (.int o.1), o.2, LAY t) 0 [some (.ref 6), some (.int x1), some (.int x2)] [] s (LAY t)
  unfold X8_go at h
  refine Ex_call 4 (fun _ => rfl) (T_X5_isOne_7 (D + 3) t x1 s _ rfl) rfl rfl ?_
  refine Ex_brZ 1 (X5_isOne_7 x1 s) (fun _ => rfl) (fun hc => ?_) (fun hc => ?_)
  · rw [if_neg (m_nt hc)] at h
    obtain rfl := Option.some.inj h
    exact Ex_ret 2 (fun _ => rfl) rfl
  · rw [if_pos hc] at h
    refine Ex_call 2 (fun _ => rfl) (T_X8_isStone (D + 3) t x2 s _ rfl) rfl rfl ?_
    refine Ex_brZ 1 (X8_isStone x2) (fun _ => rfl) (fun hc => ?_) (fun hc => ?_)
    · rw [if_neg (m_nt hc)] at h
      obtain rfl := Option.some.inj h
      exact Ex_ret 2 (fun _ => rfl) rfl
    · rw [if_pos hc] at h
      obtain ⟨r1, hr, h⟩ := m_bind h
      refine Ex_call 6 (fun _ => rfl) (T_X8_moves_7 D t x1 x2 s r1 hr) rfl rfl ?_
      refine Ex_brZ 1 (r1.1) (fun _ => rfl) (fun hc => ?_) (fun hc => ?_)
      · rw [if_neg (m_nt hc)] at h
        obtain rfl := Option.some.inj h
        exact Ex_ret 2 (fun _ => rfl) rfl
      · rw [if_pos hc] at h
        obtain rfl := Option.some.inj h
        exact Ex_ret 5 (fun _ => rfl) rfl

set_option maxRecDepth 20000 in
theorem T_X7_forget_35 (D : Nat) (t : mTX) (s : mSG) (o : mSG) (h : X7_forget_35 s = some o) : Runs (D + 1) 74 [.ref 35] s (LAY t) (none, o, LAY t) := by
  refine Runs_mk (d := D) rfl ?_
  show Ex (Runs (D)) cd_X7_forget (none, o, LAY t) 0 [some (.ref 35)] [] s (LAY t)
  unfold X7_forget_35 at h
  obtain rfl := Option.some.inj h
  exact Ex_ret 4 (fun _ => rfl) rfl

set_option maxRecDepth 20000 in
theorem T_X7_forget_37 (D : Nat) (t : mTX) (s : mSG) (o : mSG) (h : X7_forget_37 s = some o) : Runs (D + 1) 74 [.ref 37] s (LAY t) (none, o, LAY t) := by
  refine Runs_mk (d := D) rfl ?_
  show Ex (Runs (D)) cd_X7_forget (none, o, LAY t) 0 [some (.ref 37)] [] s (LAY t)
  unfold X7_forget_37 at h
  obtain rfl := Option.some.inj h
  exact Ex_ret 4 (fun _ => rfl) rfl

set_option maxRecDepth 20000 in
theorem T_X3_forget (D : Nat) (t : mTX) (s : mSG) (o : mSG) (h : X3_forget s = some o) : Runs (D + 2) 33 [.ref 34] s (LAY t) (none, o, LAY t) := by
  refine Runs_mk (d := D + 1) rfl ?_
  show Ex (Runs (D + 1)) cd_X3_forget (none, o, LAY t) 0 [some (.ref 34)] [] s (LAY t)
  unfold X3_forget at h
  obtain ⟨r1, hr, h⟩ := m_bind h
  refine Ex_call 3 (fun _ => rfl) (T_X7_forget_35 D t  s r1 hr) rfl rfl ?_
  obtain ⟨r2, hr, h⟩ := m_bind h
  refine Ex_call 3 (fun _ => rfl) (T_X7_forget_37 D t  r1 r2 hr) rfl rfl ?_
  obtain rfl := Option.some.inj h
  exact Ex_ret 1 (fun _ => rfl) rfl

set_option maxRecDepth 20000 in
theorem T_J7_fill_39_b5 (D : Nat) (t : mTX) (w : Option Value) (z : mSG) (x1 : Int32) (x3 : Int32) (x2 : Int32) (s : mSG) (o : (Int32 × mSG) ⊕ mSG) (h : J7_fill_39_b5 x1 x3 x2 s = some o) (kc : ∀ y : Int32 × mSG, o = .inl y → Ex (Runs (D)) cd_J7_fill_53178 (w, z, LAY t) 5 [some (.ref 39), some (.int x1), some (.int y.1), some (.int x3)] [] y.2 (LAY t)) (ke0 : ∀ y : mSG, o = .inr y → ∀ (u0 u1 u2 u3 : Option Value), Ex (Runs (D)) cd_J7_fill_53178 (w, z, LAY t) 20 [u0, u1, u2, u3] [] y (LAY t)) : Ex (Runs (D)) cd_J7_fill_53178 (w, z, LAY t) 5 [some (.ref 39), some (.int x1), some (.int x2), some (.int x3)] [] s (LAY t) := by
  unfold J7_fill_39_b5 at h
  refine Ex_br 3 (x3 ≤ x2) (fun _ => rfl) (fun hc1 => ?_) (fun hc1 => ?_)
  · rw [if_pos hc1] at h
    obtain rfl := Option.some.inj h
    exact ke0 _ rfl _ _ _ _
  · rw [if_neg hc1] at h
    obtain ⟨hg2, h⟩ := m_ite h
    refine Ex_gd 4 (fun _ => rfl) hg2 ?_
    refine Ex_sti 2 (fun _ => rfl) ?_
    obtain rfl := Option.some.inj h
    exact kc _ rfl 

theorem T_J7_fill_39_l5 (D : Nat) (t : mTX) (w : Option Value) (z : mSG) (x1 : Int32) (x3 : Int32) (v : Int32 × mSG) (e : mSG) (h : J7_fill_39_l5 x1 x3 v = some e) (ke0 : ∀ y : mSG, e = y → ∀ (u0 u1 u2 u3 : Option Value), Ex (Runs (D)) cd_J7_fill_53178 (w, z, LAY t) 20 [u0, u1, u2, u3] [] y (LAY t)) : Ex (Runs (D)) cd_J7_fill_53178 (w, z, LAY t) 5 [some (.ref 39), some (.int x1), some (.int v.1), some (.int x3)] [] v.2 (LAY t) :=
  m_iter (P := fun v : Int32 × mSG => Ex (Runs (D)) cd_J7_fill_53178 (w, z, LAY t) 5 [some (.ref 39), some (.int x1), some (.int v.1), some (.int x3)] [] v.2 (LAY t)) (Q := fun e : mSG => (∀ y : mSG, e = y → ∀ (u0 u1 u2 u3 : Option Value), Ex (Runs (D)) cd_J7_fill_53178 (w, z, LAY t) 20 [u0, u1, u2, u3] [] y (LAY t))) (fun x o hx kc kq  => T_J7_fill_39_b5 D t w z x1 x3 x.1 x.2  o hx kc (fun e he => kq _ he e rfl)) mFU v e h ke0
set_option maxRecDepth 20000 in
theorem T_J7_fill_39 (D : Nat) (t : mTX) (x1 : Int32) (s : mSG) (o : mSG) (h : J7_fill_39 x1 s = some o) : Runs (D + 1) 237 [.ref 39, .int x1] s (LAY t) (none, o, LAY t) := by
  refine Runs_mk (d := D) rfl ?_
  show Ex (Runs (D)) cd_J7_fill_53178 (none, o, LAY t) 0 [some (.ref 39), some (.int x1), none, none] [] s (LAY t)
  unfold J7_fill_39 at h
  refine Ex_sti 5 (fun _ => rfl) ?_
  obtain ⟨e5, hl, h⟩ := m_bind h
  refine T_J7_fill_39_l5 D t none o x1 (Int32.ofNat 8)  (0, s) _ hl (fun y0 hy0 => ?_) 
  · obtain ⟨e5, rfl⟩ : ∃ q, q = y0 := ⟨_, rfl⟩
    subst hy0
    intro vu0 vu1 vu2 vu3
    obtain rfl := Option.some.inj h
    exact Ex_ret 1 (fun _ => rfl) rfl

set_option maxRecDepth 20000 in
theorem T_J7_fill_40_b5 (D : Nat) (t : mTX) (w : Option Value) (z : mSG) (x1 : Int32) (x3 : Int32) (x2 : Int32) (s : mSG) (o : (Int32 × mSG) ⊕ mSG) (h : J7_fill_40_b5 x1 x3 x2 s = some o) (kc : ∀ y : Int32 × mSG, o = .inl y → Ex (Runs (D)) cd_J7_fill_53178 (w, z, LAY t) 5 [some (.ref 40), some (.int x1), some (.int y.1), some (.int x3)] [] y.2 (LAY t)) (ke0 : ∀ y : mSG, o = .inr y → ∀ (u0 u1 u2 u3 : Option Value), Ex (Runs (D)) cd_J7_fill_53178 (w, z, LAY t) 20 [u0, u1, u2, u3] [] y (LAY t)) : Ex (Runs (D)) cd_J7_fill_53178 (w, z, LAY t) 5 [some (.ref 40), some (.int x1), some (.int x2), some (.int x3)] [] s (LAY t) := by
  unfold J7_fill_40_b5 at h
  refine Ex_br 3 (x3 ≤ x2) (fun _ => rfl) (fun hc1 => ?_) (fun hc1 => ?_)
  · rw [if_pos hc1] at h
    obtain rfl := Option.some.inj h
    exact ke0 _ rfl _ _ _ _
  · rw [if_neg hc1] at h
    obtain ⟨hg2, h⟩ := m_ite h
    refine Ex_gd 4 (fun _ => rfl) hg2 ?_
    refine Ex_sti 2 (fun _ => rfl) ?_
    obtain rfl := Option.some.inj h
    exact kc _ rfl 

theorem T_J7_fill_40_l5 (D : Nat) (t : mTX) (w : Option Value) (z : mSG) (x1 : Int32) (x3 : Int32) (v : Int32 × mSG) (e : mSG) (h : J7_fill_40_l5 x1 x3 v = some e) (ke0 : ∀ y : mSG, e = y → ∀ (u0 u1 u2 u3 : Option Value), Ex (Runs (D)) cd_J7_fill_53178 (w, z, LAY t) 20 [u0, u1, u2, u3] [] y (LAY t)) : Ex (Runs (D)) cd_J7_fill_53178 (w, z, LAY t) 5 [some (.ref 40), some (.int x1), some (.int v.1), some (.int x3)] [] v.2 (LAY t) :=
  m_iter (P := fun v : Int32 × mSG => Ex (Runs (D)) cd_J7_fill_53178 (w, z, LAY t) 5 [some (.ref 40), some (.int x1), some (.int v.1), some (.int x3)] [] v.2 (LAY t)) (Q := fun e : mSG => (∀ y : mSG, e = y → ∀ (u0 u1 u2 u3 : Option Value), Ex (Runs (D)) cd_J7_fill_53178 (w, z, LAY t) 20 [u0, u1, u2, u3] [] y (LAY t))) (fun x o hx kc kq  => T_J7_fill_40_b5 D t w z x1 x3 x.1 x.2  o hx kc (fun e he => kq _ he e rfl)) mFU v e h ke0
set_option maxRecDepth 20000 in
theorem T_J7_fill_40 (D : Nat) (t : mTX) (x1 : Int32) (s : mSG) (o : mSG) (h : J7_fill_40 x1 s = some o) : Runs (D + 1) 237 [.ref 40, .int x1] s (LAY t) (none, o, LAY t) := by
  refine Runs_mk (d := D) rfl ?_
  show Ex (Runs (D)) cd_J7_fill_53178 (none, o, LAY t) 0 [some (.ref 40), some (.int x1), none, none] [] s (LAY t)
  unfold J7_fill_40 at h
  refine Ex_sti 5 (fun _ => rfl) ?_
  obtain ⟨e5, hl, h⟩ := m_bind h
  refine T_J7_fill_40_l5 D t none o x1 (Int32.ofNat 8)  (0, s) _ hl (fun y0 hy0 => ?_) 
  · obtain ⟨e5, rfl⟩ : ∃ q, q = y0 := ⟨_, rfl⟩
    subst hy0
    intro vu0 vu1 vu2 vu3
    obtain rfl := Option.some.inj h
    exact Ex_ret 1 (fun _ => rfl) rfl

set_option maxRecDepth 20000 in
theorem T_X7_learn_35_28_7_j95_65 (D : Nat) (t : mTX) (w : Option Value) (z : mSG) (x3 : Int32) (x5 : Int32) (x6 : Int32) (x7 : Int32) (p0 : Int32) (s : mSG) (u4 u8 : Option Value) (o : (Int32 × Int32 × mSG) ⊕ Int32 × mSG) (h : X7_learn_35_28_7_j95_65 t x3 x5 x6 x7 p0 s = some o) (kc : ∀ y : Int32 × Int32 × mSG, o = .inl y → ∀ (u4 u8 : Option Value), Ex (Runs (D + 4)) cd_X7_learn (w, z, LAY t) 65 [some (.ref 35), some (.ref 28), some (.ref 7), some (.int x3), u4, some (.int y.1), some (.int x6), some (.int y.2.1), u8] [] y.2.2 (LAY t)) (ke0 : ∀ y : Int32 × mSG, o = .inr y → ∀ (u4 u7 u8 : Option Value), Ex (Runs (D + 4)) cd_X7_learn (w, z, LAY t) 123 [some (.ref 35), some (.ref 28), some (.ref 7), some (.int x3), u4, some (.int y.1), some (.int x6), u7, u8] [] y.2 (LAY t)) : Ex (Runs (D + 4)) cd_X7_learn (w, z, LAY t) 95 [some (.ref 35), some (.ref 28), some (.ref 7), some (.int x3), u4, some (.int x5), some (.int x6), some (.int x7), u8] [.int p0] s (LAY t) := by
  unfold X7_learn_35_28_7_j95_65 at h
  obtain ⟨r7, hr, h⟩ := m_bind h
  refine Ex_call 9 (fun _ => rfl) (T_X0_hours_28 D t x6 x7 p0 s r7 hr) rfl rfl ?_
  obtain ⟨hg8, h⟩ := m_ite h
  refine Ex_gd 1 (fun _ => rfl) hg8 ?_
  refine Ex_sti 3 (fun _ => rfl) ?_
  obtain rfl := Option.some.inj h
  exact kc _ rfl _ _

set_option maxRecDepth 20000 in
theorem T_X7_learn_35_28_7_j87_65 (D : Nat) (t : mTX) (w : Option Value) (z : mSG) (x3 : Int32) (x5 : Int32) (x6 : Int32) (x7 : Int32) (s : mSG) (u4 u8 : Option Value) (o : (Int32 × Int32 × mSG) ⊕ Int32 × mSG) (h : X7_learn_35_28_7_j87_65 t x3 x5 x6 x7 s = some o) (kc : ∀ y : Int32 × Int32 × mSG, o = .inl y → ∀ (u4 u8 : Option Value), Ex (Runs (D + 4)) cd_X7_learn (w, z, LAY t) 65 [some (.ref 35), some (.ref 28), some (.ref 7), some (.int x3), u4, some (.int y.1), some (.int x6), some (.int y.2.1), u8] [] y.2.2 (LAY t)) (ke0 : ∀ y : Int32 × mSG, o = .inr y → ∀ (u4 u7 u8 : Option Value), Ex (Runs (D + 4)) cd_X7_learn (w, z, LAY t) 123 [some (.ref 35), some (.ref 28), some (.ref 7), some (.int x3), u4, some (.int y.1), some (.int x6), u7, u8] [] y.2 (LAY t)) : Ex (Runs (D + 4)) cd_X7_learn (w, z, LAY t) 87 [some (.ref 35), some (.ref 28), some (.ref 7), some (.int x3), u4, some (.int x5), some (.int x6), some (.int x7), u8] [] s (LAY t) := by
  unfold X7_learn_35_28_7_j87_65 at h
  obtain ⟨r6, hr, h⟩ := m_bind h
  refine Ex_call 4 (fun _ => rfl) (T_X5_mudBetween_7 D t x6 x7 s r6 hr) rfl rfl ?_
  exact T_X7_learn_35_28_7_j95_65 D t w z x3 x5 x6 x7 r6 s _ _ _ h kc ke0

set_option maxRecDepth 20000 in
theorem T_X7_learn_35_28_7_b65 (D : Nat) (t : mTX) (w : Option Value) (z : mSG) (x3 : Int32) (x6 : Int32) (x5 : Int32) (x7 : Int32) (s : mSG) (u4 u8 : Option Value) (o : (Int32 × Int32 × mSG) ⊕ Int32 × mSG) (h : X7_learn_35_28_7_b65 t x3 x6 x5 x7 s = some o) (kc : ∀ y : Int32 × Int32 × mSG, o = .inl y → ∀ (u4 u8 : Option Value), Ex (Runs (D + 4)) cd_X7_learn (w, z, LAY t) 65 [some (.ref 35), some (.ref 28), some (.ref 7), some (.int x3), u4, some (.int y.1), some (.int x6), some (.int y.2.1), u8] [] y.2.2 (LAY t)) (ke0 : ∀ y : Int32 × mSG, o = .inr y → ∀ (u4 u7 u8 : Option Value), Ex (Runs (D + 4)) cd_X7_learn (w, z, LAY t) 123 [some (.ref 35), some (.ref 28), some (.ref 7), some (.int x3), u4, some (.int y.1), some (.int x6), u7, u8] [] y.2 (LAY t)) : Ex (Runs (D + 4)) cd_X7_learn (w, z, LAY t) 65 [some (.ref 35), some (.ref 28), some (.ref 7), some (.int x3), u4, some (.int x5), some (.int x6), some (.int x7), u8] [] s (LAY t) := by
  unfold X7_learn_35_28_7_b65 at h
  refine Ex_br 3 (8 ≤ x7) (fun _ => rfl) (fun hc3 => ?_) (fun hc3 => ?_)
  · rw [if_pos hc3] at h
    obtain rfl := Option.some.inj h
    exact ke0 _ rfl _ _ _
  · rw [if_neg hc3] at h
    refine Ex_br 2 (x3 = 0) (fun _ => rfl) (fun hc4 => ?_) (fun hc4 => ?_)
    · rw [if_pos hc4] at h
      exact T_X7_learn_35_28_7_j87_65 D t w z x3 x5 x6 x7 s _ _ _ h kc ke0
    · rw [if_neg hc4] at h
      refine Ex_br 3 (x6 = x7) (fun _ => rfl) (fun hc5 => ?_) (fun hc5 => ?_)
      · rw [if_pos hc5] at h
        exact T_X7_learn_35_28_7_j87_65 D t w z x3 x5 x6 x7 s _ _ _ h kc ke0
      · rw [if_neg hc5] at h
        refine Ex_sti 2 (fun _ => rfl) ?_
        exact T_X7_learn_35_28_7_j95_65 D t w z x3 x5 x6 x7 1 s _ _ _ h kc ke0

theorem T_X7_learn_35_28_7_l65 (D : Nat) (t : mTX) (w : Option Value) (z : mSG) (x3 : Int32) (x6 : Int32) (v : Int32 × Int32 × mSG) (e : Int32 × mSG) (h : X7_learn_35_28_7_l65 t x3 x6 v = some e) (ke0 : ∀ y : Int32 × mSG, e = y → ∀ (u4 u7 u8 : Option Value), Ex (Runs (D + 4)) cd_X7_learn (w, z, LAY t) 123 [some (.ref 35), some (.ref 28), some (.ref 7), some (.int x3), u4, some (.int y.1), some (.int x6), u7, u8] [] y.2 (LAY t)) : ∀ (u4 u8 : Option Value), Ex (Runs (D + 4)) cd_X7_learn (w, z, LAY t) 65 [some (.ref 35), some (.ref 28), some (.ref 7), some (.int x3), u4, some (.int v.1), some (.int x6), some (.int v.2.1), u8] [] v.2.2 (LAY t) :=
  m_iter (P := fun v : Int32 × Int32 × mSG => ∀ (u4 u8 : Option Value), Ex (Runs (D + 4)) cd_X7_learn (w, z, LAY t) 65 [some (.ref 35), some (.ref 28), some (.ref 7), some (.int x3), u4, some (.int v.1), some (.int x6), some (.int v.2.1), u8] [] v.2.2 (LAY t)) (Q := fun e : Int32 × mSG => (∀ y : Int32 × mSG, e = y → ∀ (u4 u7 u8 : Option Value), Ex (Runs (D + 4)) cd_X7_learn (w, z, LAY t) 123 [some (.ref 35), some (.ref 28), some (.ref 7), some (.int x3), u4, some (.int y.1), some (.int x6), u7, u8] [] y.2 (LAY t))) (fun x o hx kc kq u4 u8 => T_X7_learn_35_28_7_b65 D t w z x3 x6 x.1 x.2.1 x.2.2 u4 u8 o hx kc (fun e he => kq _ he e rfl)) mFU v e h ke0
set_option maxRecDepth 20000 in
theorem T_X7_learn_35_28_7_b55 (D : Nat) (t : mTX) (w : Option Value) (z : mSG) (x3 : Int32) (x5 : Int32) (x6 : Int32) (s : mSG) (u4 u7 u8 : Option Value) (o : (Int32 × Int32 × mSG) ⊕ mSG) (h : X7_learn_35_28_7_b55 t x3 x5 x6 s = some o) (kc : ∀ y : Int32 × Int32 × mSG, o = .inl y → ∀ (u4 u7 u8 : Option Value), Ex (Runs (D + 4)) cd_X7_learn (w, z, LAY t) 55 [some (.ref 35), some (.ref 28), some (.ref 7), some (.int x3), u4, some (.int y.1), some (.int y.2.1), u7, u8] [] y.2.2 (LAY t)) (ke0 : ∀ y : mSG, o = .inr y → ∀ (u0 u1 u2 u3 u4 u5 u6 u7 u8 : Option Value), Ex (Runs (D + 4)) cd_X7_learn (w, z, LAY t) 129 [u0, u1, u2, u3, u4, u5, u6, u7, u8] [] y (LAY t)) : Ex (Runs (D + 4)) cd_X7_learn (w, z, LAY t) 55 [some (.ref 35), some (.ref 28), some (.ref 7), some (.int x3), u4, some (.int x5), some (.int x6), u7, u8] [] s (LAY t) := by
  unfold X7_learn_35_28_7_b55 at h
  refine Ex_br 3 (8 ≤ x6) (fun _ => rfl) (fun hc2 => ?_) (fun hc2 => ?_)
  · rw [if_pos hc2] at h
    obtain rfl := Option.some.inj h
    exact ke0 _ rfl _ _ _ _ _ _ _ _ _
  · rw [if_neg hc2] at h
    refine Ex_sti 2 (fun _ => rfl) ?_
    obtain ⟨e65, hl, h⟩ := m_bind h
    refine T_X7_learn_35_28_7_l65 D t w z x3 x6  (x5, 0, s) _ hl (fun y0 hy0 => ?_) _ _
    · obtain ⟨e65, rfl⟩ : ∃ q, q = y0 := ⟨_, rfl⟩
      subst hy0
      intro vu4 vu7 vu8
      refine Ex_sti 2 (fun _ => rfl) ?_
      obtain rfl := Option.some.inj h
      exact kc _ rfl _ _ _

theorem T_X7_learn_35_28_7_l55 (D : Nat) (t : mTX) (w : Option Value) (z : mSG) (x3 : Int32) (v : Int32 × Int32 × mSG) (e : mSG) (h : X7_learn_35_28_7_l55 t x3 v = some e) (ke0 : ∀ y : mSG, e = y → ∀ (u0 u1 u2 u3 u4 u5 u6 u7 u8 : Option Value), Ex (Runs (D + 4)) cd_X7_learn (w, z, LAY t) 129 [u0, u1, u2, u3, u4, u5, u6, u7, u8] [] y (LAY t)) : ∀ (u4 u7 u8 : Option Value), Ex (Runs (D + 4)) cd_X7_learn (w, z, LAY t) 55 [some (.ref 35), some (.ref 28), some (.ref 7), some (.int x3), u4, some (.int v.1), some (.int v.2.1), u7, u8] [] v.2.2 (LAY t) :=
  m_iter (P := fun v : Int32 × Int32 × mSG => ∀ (u4 u7 u8 : Option Value), Ex (Runs (D + 4)) cd_X7_learn (w, z, LAY t) 55 [some (.ref 35), some (.ref 28), some (.ref 7), some (.int x3), u4, some (.int v.1), some (.int v.2.1), u7, u8] [] v.2.2 (LAY t)) (Q := fun e : mSG => (∀ y : mSG, e = y → ∀ (u0 u1 u2 u3 u4 u5 u6 u7 u8 : Option Value), Ex (Runs (D + 4)) cd_X7_learn (w, z, LAY t) 129 [u0, u1, u2, u3, u4, u5, u6, u7, u8] [] y (LAY t))) (fun x o hx kc kq u4 u7 u8 => T_X7_learn_35_28_7_b55 D t w z x3 x.1 x.2.1 x.2.2 u4 u7 u8 o hx kc (fun e he => kq _ he e rfl)) mFU v e h ke0
set_option maxRecDepth 20000 in
theorem T_X7_learn_35_28_7 (D : Nat) (t : mTX) (x3 : Int32) (s : mSG) (o : mSG) (h : X7_learn_35_28_7 t x3 s = some o) : Runs (D + 5) 75 [.ref 35, .ref 28, .ref 7, .int x3] s (LAY t) (none, o, LAY t) := by
  refine Runs_mk (d := D + 4) rfl ?_
  show Ex (Runs (D + 4)) cd_X7_learn (none, o, LAY t) 0 [some (.ref 35), some (.ref 28), some (.ref 7), some (.int x3), none, none, none, none, none] [] s (LAY t)
  unfold X7_learn_35_28_7 at h
  refine Ex_call 6 (fun _ => rfl) (T_X8_isWithin (D + 3) t (s.1 28 7) 9 s _ rfl) rfl rfl ?_
  refine Ex_brZ 1 (X8_isWithin (s.1 28 7) 9) (fun _ => rfl) (fun hc => ?_) (fun hc => ?_)
  · rw [if_neg (m_nt hc)] at h
    obtain rfl := Option.some.inj h
    exact Ex_ret 1 (fun _ => rfl) rfl
  · rw [if_pos hc] at h
    refine Ex_br 7 ((((s.1 35 1) >>> ((s.1 28 7) &&& 31)) &&& 1) = 0) (fun _ => rfl) (fun hc1 => ?_) (fun hc1 => ?_)
    · rw [if_pos hc1] at h
      refine Ex_sti 16 (fun _ => rfl) ?_
      obtain ⟨e55, hl, h⟩ := m_bind h
      refine T_X7_learn_35_28_7_l55 D t none o x3  (((s.1 28 7) * 8) * 8, 0, sI s 35 1 ((s.1 35 1) ||| (1 <<< ((s.1 28 7) &&& 31)))) _ hl (fun y0 hy0 => ?_) _ _ _
      · obtain ⟨e55, rfl⟩ : ∃ q, q = y0 := ⟨_, rfl⟩
        subst hy0
        intro vu0 vu1 vu2 vu3 vu4 vu5 vu6 vu7 vu8
        obtain rfl := Option.some.inj h
        exact Ex_ret 1 (fun _ => rfl) rfl
    · rw [if_neg hc1] at h
      obtain rfl := Option.some.inj h
      exact Ex_ret 1 (fun _ => rfl) rfl

set_option maxRecDepth 20000 in
theorem T_X7_learn_37_28_7_j95_65 (D : Nat) (t : mTX) (w : Option Value) (z : mSG) (x3 : Int32) (x5 : Int32) (x6 : Int32) (x7 : Int32) (p0 : Int32) (s : mSG) (u4 u8 : Option Value) (o : (Int32 × Int32 × mSG) ⊕ Int32 × mSG) (h : X7_learn_37_28_7_j95_65 t x3 x5 x6 x7 p0 s = some o) (kc : ∀ y : Int32 × Int32 × mSG, o = .inl y → ∀ (u4 u8 : Option Value), Ex (Runs (D + 4)) cd_X7_learn (w, z, LAY t) 65 [some (.ref 37), some (.ref 28), some (.ref 7), some (.int x3), u4, some (.int y.1), some (.int x6), some (.int y.2.1), u8] [] y.2.2 (LAY t)) (ke0 : ∀ y : Int32 × mSG, o = .inr y → ∀ (u4 u7 u8 : Option Value), Ex (Runs (D + 4)) cd_X7_learn (w, z, LAY t) 123 [some (.ref 37), some (.ref 28), some (.ref 7), some (.int x3), u4, some (.int y.1), some (.int x6), u7, u8] [] y.2 (LAY t)) : Ex (Runs (D + 4)) cd_X7_learn (w, z, LAY t) 95 [some (.ref 37), some (.ref 28), some (.ref 7), some (.int x3), u4, some (.int x5), some (.int x6), some (.int x7), u8] [.int p0] s (LAY t) := by
  unfold X7_learn_37_28_7_j95_65 at h
  obtain ⟨r7, hr, h⟩ := m_bind h
  refine Ex_call 9 (fun _ => rfl) (T_X0_hours_28 D t x6 x7 p0 s r7 hr) rfl rfl ?_
  obtain ⟨hg8, h⟩ := m_ite h
  refine Ex_gd 1 (fun _ => rfl) hg8 ?_
  refine Ex_sti 3 (fun _ => rfl) ?_
  obtain rfl := Option.some.inj h
  exact kc _ rfl _ _

set_option maxRecDepth 20000 in
theorem T_X7_learn_37_28_7_j87_65 (D : Nat) (t : mTX) (w : Option Value) (z : mSG) (x3 : Int32) (x5 : Int32) (x6 : Int32) (x7 : Int32) (s : mSG) (u4 u8 : Option Value) (o : (Int32 × Int32 × mSG) ⊕ Int32 × mSG) (h : X7_learn_37_28_7_j87_65 t x3 x5 x6 x7 s = some o) (kc : ∀ y : Int32 × Int32 × mSG, o = .inl y → ∀ (u4 u8 : Option Value), Ex (Runs (D + 4)) cd_X7_learn (w, z, LAY t) 65 [some (.ref 37), some (.ref 28), some (.ref 7), some (.int x3), u4, some (.int y.1), some (.int x6), some (.int y.2.1), u8] [] y.2.2 (LAY t)) (ke0 : ∀ y : Int32 × mSG, o = .inr y → ∀ (u4 u7 u8 : Option Value), Ex (Runs (D + 4)) cd_X7_learn (w, z, LAY t) 123 [some (.ref 37), some (.ref 28), some (.ref 7), some (.int x3), u4, some (.int y.1), some (.int x6), u7, u8] [] y.2 (LAY t)) : Ex (Runs (D + 4)) cd_X7_learn (w, z, LAY t) 87 [some (.ref 37), some (.ref 28), some (.ref 7), some (.int x3), u4, some (.int x5), some (.int x6), some (.int x7), u8] [] s (LAY t) := by
  unfold X7_learn_37_28_7_j87_65 at h
  obtain ⟨r6, hr, h⟩ := m_bind h
  refine Ex_call 4 (fun _ => rfl) (T_X5_mudBetween_7 D t x6 x7 s r6 hr) rfl rfl ?_
  exact T_X7_learn_37_28_7_j95_65 D t w z x3 x5 x6 x7 r6 s _ _ _ h kc ke0

set_option maxRecDepth 20000 in
theorem T_X7_learn_37_28_7_b65 (D : Nat) (t : mTX) (w : Option Value) (z : mSG) (x3 : Int32) (x6 : Int32) (x5 : Int32) (x7 : Int32) (s : mSG) (u4 u8 : Option Value) (o : (Int32 × Int32 × mSG) ⊕ Int32 × mSG) (h : X7_learn_37_28_7_b65 t x3 x6 x5 x7 s = some o) (kc : ∀ y : Int32 × Int32 × mSG, o = .inl y → ∀ (u4 u8 : Option Value), Ex (Runs (D + 4)) cd_X7_learn (w, z, LAY t) 65 [some (.ref 37), some (.ref 28), some (.ref 7), some (.int x3), u4, some (.int y.1), some (.int x6), some (.int y.2.1), u8] [] y.2.2 (LAY t)) (ke0 : ∀ y : Int32 × mSG, o = .inr y → ∀ (u4 u7 u8 : Option Value), Ex (Runs (D + 4)) cd_X7_learn (w, z, LAY t) 123 [some (.ref 37), some (.ref 28), some (.ref 7), some (.int x3), u4, some (.int y.1), some (.int x6), u7, u8] [] y.2 (LAY t)) : Ex (Runs (D + 4)) cd_X7_learn (w, z, LAY t) 65 [some (.ref 37), some (.ref 28), some (.ref 7), some (.int x3), u4, some (.int x5), some (.int x6), some (.int x7), u8] [] s (LAY t) := by
  unfold X7_learn_37_28_7_b65 at h
  refine Ex_br 3 (8 ≤ x7) (fun _ => rfl) (fun hc3 => ?_) (fun hc3 => ?_)
  · rw [if_pos hc3] at h
    obtain rfl := Option.some.inj h
    exact ke0 _ rfl _ _ _
  · rw [if_neg hc3] at h
    refine Ex_br 2 (x3 = 0) (fun _ => rfl) (fun hc4 => ?_) (fun hc4 => ?_)
    · rw [if_pos hc4] at h
      exact T_X7_learn_37_28_7_j87_65 D t w z x3 x5 x6 x7 s _ _ _ h kc ke0
    · rw [if_neg hc4] at h
      refine Ex_br 3 (x6 = x7) (fun _ => rfl) (fun hc5 => ?_) (fun hc5 => ?_)
      · rw [if_pos hc5] at h
        exact T_X7_learn_37_28_7_j87_65 D t w z x3 x5 x6 x7 s _ _ _ h kc ke0
      · rw [if_neg hc5] at h
        refine Ex_sti 2 (fun _ => rfl) ?_
        exact T_X7_learn_37_28_7_j95_65 D t w z x3 x5 x6 x7 1 s _ _ _ h kc ke0

theorem T_X7_learn_37_28_7_l65 (D : Nat) (t : mTX) (w : Option Value) (z : mSG) (x3 : Int32) (x6 : Int32) (v : Int32 × Int32 × mSG) (e : Int32 × mSG) (h : X7_learn_37_28_7_l65 t x3 x6 v = some e) (ke0 : ∀ y : Int32 × mSG, e = y → ∀ (u4 u7 u8 : Option Value), Ex (Runs (D + 4)) cd_X7_learn (w, z, LAY t) 123 [some (.ref 37), some (.ref 28), some (.ref 7), some (.int x3), u4, some (.int y.1), some (.int x6), u7, u8] [] y.2 (LAY t)) : ∀ (u4 u8 : Option Value), Ex (Runs (D + 4)) cd_X7_learn (w, z, LAY t) 65 [some (.ref 37), some (.ref 28), some (.ref 7), some (.int x3), u4, some (.int v.1), some (.int x6), some (.int v.2.1), u8] [] v.2.2 (LAY t) :=
  m_iter (P := fun v : Int32 × Int32 × mSG => ∀ (u4 u8 : Option Value), Ex (Runs (D + 4)) cd_X7_learn (w, z, LAY t) 65 [some (.ref 37), some (.ref 28), some (.ref 7), some (.int x3), u4, some (.int v.1), some (.int x6), some (.int v.2.1), u8] [] v.2.2 (LAY t)) (Q := fun e : Int32 × mSG => (∀ y : Int32 × mSG, e = y → ∀ (u4 u7 u8 : Option Value), Ex (Runs (D + 4)) cd_X7_learn (w, z, LAY t) 123 [some (.ref 37), some (.ref 28), some (.ref 7), some (.int x3), u4, some (.int y.1), some (.int x6), u7, u8] [] y.2 (LAY t))) (fun x o hx kc kq u4 u8 => T_X7_learn_37_28_7_b65 D t w z x3 x6 x.1 x.2.1 x.2.2 u4 u8 o hx kc (fun e he => kq _ he e rfl)) mFU v e h ke0
set_option maxRecDepth 20000 in
theorem T_X7_learn_37_28_7_b55 (D : Nat) (t : mTX) (w : Option Value) (z : mSG) (x3 : Int32) (x5 : Int32) (x6 : Int32) (s : mSG) (u4 u7 u8 : Option Value) (o : (Int32 × Int32 × mSG) ⊕ mSG) (h : X7_learn_37_28_7_b55 t x3 x5 x6 s = some o) (kc : ∀ y : Int32 × Int32 × mSG, o = .inl y → ∀ (u4 u7 u8 : Option Value), Ex (Runs (D + 4)) cd_X7_learn (w, z, LAY t) 55 [some (.ref 37), some (.ref 28), some (.ref 7), some (.int x3), u4, some (.int y.1), some (.int y.2.1), u7, u8] [] y.2.2 (LAY t)) (ke0 : ∀ y : mSG, o = .inr y → ∀ (u0 u1 u2 u3 u4 u5 u6 u7 u8 : Option Value), Ex (Runs (D + 4)) cd_X7_learn (w, z, LAY t) 129 [u0, u1, u2, u3, u4, u5, u6, u7, u8] [] y (LAY t)) : Ex (Runs (D + 4)) cd_X7_learn (w, z, LAY t) 55 [some (.ref 37), some (.ref 28), some (.ref 7), some (.int x3), u4, some (.int x5), some (.int x6), u7, u8] [] s (LAY t) := by
  unfold X7_learn_37_28_7_b55 at h
  refine Ex_br 3 (8 ≤ x6) (fun _ => rfl) (fun hc2 => ?_) (fun hc2 => ?_)
  · rw [if_pos hc2] at h
    obtain rfl := Option.some.inj h
    exact ke0 _ rfl _ _ _ _ _ _ _ _ _
  · rw [if_neg hc2] at h
    refine Ex_sti 2 (fun _ => rfl) ?_
    obtain ⟨e65, hl, h⟩ := m_bind h
    refine T_X7_learn_37_28_7_l65 D t w z x3 x6  (x5, 0, s) _ hl (fun y0 hy0 => ?_) _ _
    · obtain ⟨e65, rfl⟩ : ∃ q, q = y0 := ⟨_, rfl⟩
      subst hy0
      intro vu4 vu7 vu8
      refine Ex_sti 2 (fun _ => rfl) ?_
      obtain rfl := Option.some.inj h
      exact kc _ rfl _ _ _

theorem T_X7_learn_37_28_7_l55 (D : Nat) (t : mTX) (w : Option Value) (z : mSG) (x3 : Int32) (v : Int32 × Int32 × mSG) (e : mSG) (h : X7_learn_37_28_7_l55 t x3 v = some e) (ke0 : ∀ y : mSG, e = y → ∀ (u0 u1 u2 u3 u4 u5 u6 u7 u8 : Option Value), Ex (Runs (D + 4)) cd_X7_learn (w, z, LAY t) 129 [u0, u1, u2, u3, u4, u5, u6, u7, u8] [] y (LAY t)) : ∀ (u4 u7 u8 : Option Value), Ex (Runs (D + 4)) cd_X7_learn (w, z, LAY t) 55 [some (.ref 37), some (.ref 28), some (.ref 7), some (.int x3), u4, some (.int v.1), some (.int v.2.1), u7, u8] [] v.2.2 (LAY t) :=
  m_iter (P := fun v : Int32 × Int32 × mSG => ∀ (u4 u7 u8 : Option Value), Ex (Runs (D + 4)) cd_X7_learn (w, z, LAY t) 55 [some (.ref 37), some (.ref 28), some (.ref 7), some (.int x3), u4, some (.int v.1), some (.int v.2.1), u7, u8] [] v.2.2 (LAY t)) (Q := fun e : mSG => (∀ y : mSG, e = y → ∀ (u0 u1 u2 u3 u4 u5 u6 u7 u8 : Option Value), Ex (Runs (D + 4)) cd_X7_learn (w, z, LAY t) 129 [u0, u1, u2, u3, u4, u5, u6, u7, u8] [] y (LAY t))) (fun x o hx kc kq u4 u7 u8 => T_X7_learn_37_28_7_b55 D t w z x3 x.1 x.2.1 x.2.2 u4 u7 u8 o hx kc (fun e he => kq _ he e rfl)) mFU v e h ke0
set_option maxRecDepth 20000 in
theorem T_X7_learn_37_28_7 (D : Nat) (t : mTX) (x3 : Int32) (s : mSG) (o : mSG) (h : X7_learn_37_28_7 t x3 s = some o) : Runs (D + 5) 75 [.ref 37, .ref 28, .ref 7, .int x3] s (LAY t) (none, o, LAY t) := by
  refine Runs_mk (d := D + 4) rfl ?_
  show Ex (Runs (D + 4)) cd_X7_learn (none, o, LAY t) 0 [some (.ref 37), some (.ref 28), some (.ref 7), some (.int x3), none, none, none, none, none] [] s (LAY t)
  unfold X7_learn_37_28_7 at h
  refine Ex_call 6 (fun _ => rfl) (T_X8_isWithin (D + 3) t (s.1 28 7) 9 s _ rfl) rfl rfl ?_
  refine Ex_brZ 1 (X8_isWithin (s.1 28 7) 9) (fun _ => rfl) (fun hc => ?_) (fun hc => ?_)
  · rw [if_neg (m_nt hc)] at h
    obtain rfl := Option.some.inj h
    exact Ex_ret 1 (fun _ => rfl) rfl
  · rw [if_pos hc] at h
    refine Ex_br 7 ((((s.1 37 1) >>> ((s.1 28 7) &&& 31)) &&& 1) = 0) (fun _ => rfl) (fun hc1 => ?_) (fun hc1 => ?_)
    · rw [if_pos hc1] at h
      refine Ex_sti 16 (fun _ => rfl) ?_
      obtain ⟨e55, hl, h⟩ := m_bind h
      refine T_X7_learn_37_28_7_l55 D t none o x3  (((s.1 28 7) * 8) * 8, 0, sI s 37 1 ((s.1 37 1) ||| (1 <<< ((s.1 28 7) &&& 31)))) _ hl (fun y0 hy0 => ?_) _ _ _
      · obtain ⟨e55, rfl⟩ : ∃ q, q = y0 := ⟨_, rfl⟩
        subst hy0
        intro vu0 vu1 vu2 vu3 vu4 vu5 vu6 vu7 vu8
        obtain rfl := Option.some.inj h
        exact Ex_ret 1 (fun _ => rfl) rfl
    · rw [if_neg hc1] at h
      obtain rfl := Option.some.inj h
      exact Ex_ret 1 (fun _ => rfl) rfl

set_option maxRecDepth 20000 in
theorem T_J7_fill_41_b5 (D : Nat) (t : mTX) (w : Option Value) (z : mSG) (x1 : Int32) (x3 : Int32) (x2 : Int32) (s : mSG) (o : (Int32 × mSG) ⊕ mSG) (h : J7_fill_41_b5 x1 x3 x2 s = some o) (kc : ∀ y : Int32 × mSG, o = .inl y → Ex (Runs (D)) cd_J7_fill_53178 (w, z, LAY t) 5 [some (.ref 41), some (.int x1), some (.int y.1), some (.int x3)] [] y.2 (LAY t)) (ke0 : ∀ y : mSG, o = .inr y → ∀ (u0 u1 u2 u3 : Option Value), Ex (Runs (D)) cd_J7_fill_53178 (w, z, LAY t) 20 [u0, u1, u2, u3] [] y (LAY t)) : Ex (Runs (D)) cd_J7_fill_53178 (w, z, LAY t) 5 [some (.ref 41), some (.int x1), some (.int x2), some (.int x3)] [] s (LAY t) := by
  unfold J7_fill_41_b5 at h
  refine Ex_br 3 (x3 ≤ x2) (fun _ => rfl) (fun hc1 => ?_) (fun hc1 => ?_)
  · rw [if_pos hc1] at h
    obtain rfl := Option.some.inj h
    exact ke0 _ rfl _ _ _ _
  · rw [if_neg hc1] at h
    obtain ⟨hg2, h⟩ := m_ite h
    refine Ex_gd 4 (fun _ => rfl) hg2 ?_
    refine Ex_sti 2 (fun _ => rfl) ?_
    obtain rfl := Option.some.inj h
    exact kc _ rfl 

theorem T_J7_fill_41_l5 (D : Nat) (t : mTX) (w : Option Value) (z : mSG) (x1 : Int32) (x3 : Int32) (v : Int32 × mSG) (e : mSG) (h : J7_fill_41_l5 x1 x3 v = some e) (ke0 : ∀ y : mSG, e = y → ∀ (u0 u1 u2 u3 : Option Value), Ex (Runs (D)) cd_J7_fill_53178 (w, z, LAY t) 20 [u0, u1, u2, u3] [] y (LAY t)) : Ex (Runs (D)) cd_J7_fill_53178 (w, z, LAY t) 5 [some (.ref 41), some (.int x1), some (.int v.1), some (.int x3)] [] v.2 (LAY t) :=
  m_iter (P := fun v : Int32 × mSG => Ex (Runs (D)) cd_J7_fill_53178 (w, z, LAY t) 5 [some (.ref 41), some (.int x1), some (.int v.1), some (.int x3)] [] v.2 (LAY t)) (Q := fun e : mSG => (∀ y : mSG, e = y → ∀ (u0 u1 u2 u3 : Option Value), Ex (Runs (D)) cd_J7_fill_53178 (w, z, LAY t) 20 [u0, u1, u2, u3] [] y (LAY t))) (fun x o hx kc kq  => T_J7_fill_41_b5 D t w z x1 x3 x.1 x.2  o hx kc (fun e he => kq _ he e rfl)) mFU v e h ke0
set_option maxRecDepth 20000 in
theorem T_J7_fill_41 (D : Nat) (t : mTX) (x1 : Int32) (s : mSG) (o : mSG) (h : J7_fill_41 x1 s = some o) : Runs (D + 1) 237 [.ref 41, .int x1] s (LAY t) (none, o, LAY t) := by
  refine Runs_mk (d := D) rfl ?_
  show Ex (Runs (D)) cd_J7_fill_53178 (none, o, LAY t) 0 [some (.ref 41), some (.int x1), none, none] [] s (LAY t)
  unfold J7_fill_41 at h
  refine Ex_sti 5 (fun _ => rfl) ?_
  obtain ⟨e5, hl, h⟩ := m_bind h
  refine T_J7_fill_41_l5 D t none o x1 (Int32.ofNat 8)  (0, s) _ hl (fun y0 hy0 => ?_) 
  · obtain ⟨e5, rfl⟩ : ∃ q, q = y0 := ⟨_, rfl⟩
    subst hy0
    intro vu0 vu1 vu2 vu3
    obtain rfl := Option.some.inj h
    exact Ex_ret 1 (fun _ => rfl) rfl

set_option maxRecDepth 20000 in
theorem T_J7_fill_42_b5 (D : Nat) (t : mTX) (w : Option Value) (z : mSG) (x1 : Int32) (x3 : Int32) (x2 : Int32) (s : mSG) (o : (Int32 × mSG) ⊕ mSG) (h : J7_fill_42_b5 x1 x3 x2 s = some o) (kc : ∀ y : Int32 × mSG, o = .inl y → Ex (Runs (D)) cd_J7_fill_53178 (w, z, LAY t) 5 [some (.ref 42), some (.int x1), some (.int y.1), some (.int x3)] [] y.2 (LAY t)) (ke0 : ∀ y : mSG, o = .inr y → ∀ (u0 u1 u2 u3 : Option Value), Ex (Runs (D)) cd_J7_fill_53178 (w, z, LAY t) 20 [u0, u1, u2, u3] [] y (LAY t)) : Ex (Runs (D)) cd_J7_fill_53178 (w, z, LAY t) 5 [some (.ref 42), some (.int x1), some (.int x2), some (.int x3)] [] s (LAY t) := by
  unfold J7_fill_42_b5 at h
  refine Ex_br 3 (x3 ≤ x2) (fun _ => rfl) (fun hc1 => ?_) (fun hc1 => ?_)
  · rw [if_pos hc1] at h
    obtain rfl := Option.some.inj h
    exact ke0 _ rfl _ _ _ _
  · rw [if_neg hc1] at h
    obtain ⟨hg2, h⟩ := m_ite h
    refine Ex_gd 4 (fun _ => rfl) hg2 ?_
    refine Ex_sti 2 (fun _ => rfl) ?_
    obtain rfl := Option.some.inj h
    exact kc _ rfl 

theorem T_J7_fill_42_l5 (D : Nat) (t : mTX) (w : Option Value) (z : mSG) (x1 : Int32) (x3 : Int32) (v : Int32 × mSG) (e : mSG) (h : J7_fill_42_l5 x1 x3 v = some e) (ke0 : ∀ y : mSG, e = y → ∀ (u0 u1 u2 u3 : Option Value), Ex (Runs (D)) cd_J7_fill_53178 (w, z, LAY t) 20 [u0, u1, u2, u3] [] y (LAY t)) : Ex (Runs (D)) cd_J7_fill_53178 (w, z, LAY t) 5 [some (.ref 42), some (.int x1), some (.int v.1), some (.int x3)] [] v.2 (LAY t) :=
  m_iter (P := fun v : Int32 × mSG => Ex (Runs (D)) cd_J7_fill_53178 (w, z, LAY t) 5 [some (.ref 42), some (.int x1), some (.int v.1), some (.int x3)] [] v.2 (LAY t)) (Q := fun e : mSG => (∀ y : mSG, e = y → ∀ (u0 u1 u2 u3 : Option Value), Ex (Runs (D)) cd_J7_fill_53178 (w, z, LAY t) 20 [u0, u1, u2, u3] [] y (LAY t))) (fun x o hx kc kq  => T_J7_fill_42_b5 D t w z x1 x3 x.1 x.2  o hx kc (fun e he => kq _ he e rfl)) mFU v e h ke0
set_option maxRecDepth 20000 in
theorem T_J7_fill_42 (D : Nat) (t : mTX) (x1 : Int32) (s : mSG) (o : mSG) (h : J7_fill_42 x1 s = some o) : Runs (D + 1) 237 [.ref 42, .int x1] s (LAY t) (none, o, LAY t) := by
  refine Runs_mk (d := D) rfl ?_
  show Ex (Runs (D)) cd_J7_fill_53178 (none, o, LAY t) 0 [some (.ref 42), some (.int x1), none, none] [] s (LAY t)
  unfold J7_fill_42 at h
  refine Ex_sti 5 (fun _ => rfl) ?_
  obtain ⟨e5, hl, h⟩ := m_bind h
  refine T_J7_fill_42_l5 D t none o x1 (Int32.ofNat 8)  (0, s) _ hl (fun y0 hy0 => ?_) 
  · obtain ⟨e5, rfl⟩ : ∃ q, q = y0 := ⟨_, rfl⟩
    subst hy0
    intro vu0 vu1 vu2 vu3
    obtain rfl := Option.some.inj h
    exact Ex_ret 1 (fun _ => rfl) rfl

set_option maxRecDepth 20000 in
theorem T_X7_between_35 (D : Nat) (t : mTX) (x1 : Int32) (x2 : Int32) (x3 : Int32) (s : mSG) (o : Int32) (h : X7_between_35 x1 x2 x3 s = some o) : Runs (D + 3) 76 [.ref 35, .int x1, .int x2, .int x3] s (LAY t) (some (.int o), s, LAY t) := by
  refine Runs_mk (d := D + 2) rfl ?_
  show Ex (Runs (D + 2)) cd_X7_between (some (.int o), s, LAY t) 0 [some (.ref 35), some (.int x1), some (.int x2), some (.int x3)] [] s (LAY t)
  unfold X7_between_35 at h
  refine Ex_call 3 (fun _ => rfl) (T_X8_isWithin (D + 1) t x1 9 s _ rfl) rfl rfl ?_
  refine Ex_brZ 1 (X8_isWithin x1 9) (fun _ => rfl) (fun hc => ?_) (fun hc => ?_)
  · rw [if_neg (m_nt hc)] at h
    obtain rfl := Option.some.inj h
    exact Ex_ret 2 (fun _ => rfl) rfl
  · rw [if_pos hc] at h
    refine Ex_call 2 (fun _ => rfl) (T_X8_isStone D t x2 s _ rfl) rfl rfl ?_
    refine Ex_brZ 1 (X8_isStone x2) (fun _ => rfl) (fun hc => ?_) (fun hc => ?_)
    · rw [if_neg (m_nt hc)] at h
      obtain rfl := Option.some.inj h
      exact Ex_ret 2 (fun _ => rfl) rfl
    · rw [if_pos hc] at h
      refine Ex_call 2 (fun _ => rfl) (T_X8_isStone D t x3 s _ rfl) rfl rfl ?_
      refine Ex_brZ 1 (X8_isStone x3) (fun _ => rfl) (fun hc => ?_) (fun hc => ?_)
      · rw [if_neg (m_nt hc)] at h
        obtain rfl := Option.some.inj h
        exact Ex_ret 2 (fun _ => rfl) rfl
      · rw [if_pos hc] at h
        obtain ⟨hg1, h⟩ := m_ite h
        refine Ex_gd 12 (fun _ => rfl) hg1 ?_
        obtain rfl := Option.some.inj h
        exact Ex_ret 2 (fun _ => rfl) rfl

set_option maxRecDepth 20000 in
theorem T_X7_between_37 (D : Nat) (t : mTX) (x1 : Int32) (x2 : Int32) (x3 : Int32) (s : mSG) (o : Int32) (h : X7_between_37 x1 x2 x3 s = some o) : Runs (D + 3) 76 [.ref 37, .int x1, .int x2, .int x3] s (LAY t) (some (.int o), s, LAY t) := by
  refine Runs_mk (d := D + 2) rfl ?_
  show Ex (Runs (D + 2)) cd_X7_between (some (.int o), s, LAY t) 0 [some (.ref 37), some (.int x1), some (.int x2), some (.int x3)] [] s (LAY t)
  unfold X7_between_37 at h
  refine Ex_call 3 (fun _ => rfl) (T_X8_isWithin (D + 1) t x1 9 s _ rfl) rfl rfl ?_
  refine Ex_brZ 1 (X8_isWithin x1 9) (fun _ => rfl) (fun hc => ?_) (fun hc => ?_)
  · rw [if_neg (m_nt hc)] at h
    obtain rfl := Option.some.inj h
    exact Ex_ret 2 (fun _ => rfl) rfl
  · rw [if_pos hc] at h
    refine Ex_call 2 (fun _ => rfl) (T_X8_isStone D t x2 s _ rfl) rfl rfl ?_
    refine Ex_brZ 1 (X8_isStone x2) (fun _ => rfl) (fun hc => ?_) (fun hc => ?_)
    · rw [if_neg (m_nt hc)] at h
      obtain rfl := Option.some.inj h
      exact Ex_ret 2 (fun _ => rfl) rfl
    · rw [if_pos hc] at h
      refine Ex_call 2 (fun _ => rfl) (T_X8_isStone D t x3 s _ rfl) rfl rfl ?_
      refine Ex_brZ 1 (X8_isStone x3) (fun _ => rfl) (fun hc => ?_) (fun hc => ?_)
      · rw [if_neg (m_nt hc)] at h
        obtain rfl := Option.some.inj h
        exact Ex_ret 2 (fun _ => rfl) rfl
      · rw [if_pos hc] at h
        obtain ⟨hg1, h⟩ := m_ite h
        refine Ex_gd 12 (fun _ => rfl) hg1 ?_
        obtain rfl := Option.some.inj h
        exact Ex_ret 2 (fun _ => rfl) rfl

set_option maxRecDepth 20000 in
theorem T_X3_between_j37 (D : Nat) (t : mTX) (x1 : Int32) (x2 : Int32) (x3 : Int32) (p0 : Int32) (s : mSG) (u4 : Option Value) (o : Int32) (h : X3_between_j37 x1 x2 x3 p0 s = some o)  : Ex (Runs (D + 3)) cd_X3_between (some (.int o), s, LAY t) 37 [some (.ref 34), some (.int x1), some (.int x2), some (.int x3), u4] [.int p0] s (LAY t) := by
  unfold X3_between_j37 at h
  refine Ex_br 3 (p0 = 0) (fun _ => rfl) (fun hc3 => ?_) (fun hc3 => ?_)
  · rw [if_pos hc3] at h
    obtain ⟨r4, hr, h⟩ := m_bind h
    refine Ex_call 6 (fun _ => rfl) (T_X7_between_35 D t x1 x2 x3 s r4 hr) rfl rfl ?_
    obtain rfl := Option.some.inj h
    exact Ex_ret 1 (fun _ => rfl) rfl
  · rw [if_neg hc3] at h
    obtain ⟨r5, hr, h⟩ := m_bind h
    refine Ex_call 6 (fun _ => rfl) (T_X7_between_37 D t x1 x2 x3 s r5 hr) rfl rfl ?_
    obtain rfl := Option.some.inj h
    exact Ex_ret 2 (fun _ => rfl) rfl

set_option maxRecDepth 20000 in
theorem T_X3_between_j32 (D : Nat) (t : mTX) (x1 : Int32) (x2 : Int32) (x3 : Int32) (s : mSG) (u4 : Option Value) (o : Int32) (h : X3_between_j32 x1 x2 x3 s = some o)  : Ex (Runs (D + 3)) cd_X3_between (some (.int o), s, LAY t) 32 [some (.ref 34), some (.int x1), some (.int x2), some (.int x3), u4] [] s (LAY t) := by
  unfold X3_between_j32 at h
  refine Ex_sti 2 (fun _ => rfl) ?_
  exact T_X3_between_j37 D t x1 x2 x3 1 s _ _ h

set_option maxRecDepth 20000 in
theorem T_X3_between_j36 (D : Nat) (t : mTX) (x1 : Int32) (x2 : Int32) (x3 : Int32) (s : mSG) (u4 : Option Value) (o : Int32) (h : X3_between_j36 x1 x2 x3 s = some o)  : Ex (Runs (D + 3)) cd_X3_between (some (.int o), s, LAY t) 36 [some (.ref 34), some (.int x1), some (.int x2), some (.int x3), u4] [] s (LAY t) := by
  unfold X3_between_j36 at h
  refine Ex_sti 1 (fun _ => rfl) ?_
  exact T_X3_between_j37 D t x1 x2 x3 0 s _ _ h

set_option maxRecDepth 20000 in
theorem T_X3_between_j16 (D : Nat) (t : mTX) (x1 : Int32) (x2 : Int32) (x3 : Int32) (s : mSG) (u4 : Option Value) (o : Int32) (h : X3_between_j16 x1 x2 x3 s = some o)  : Ex (Runs (D + 3)) cd_X3_between (some (.int o), s, LAY t) 16 [some (.ref 34), some (.int x1), some (.int x2), some (.int x3), u4] [] s (LAY t) := by
  unfold X3_between_j16 at h
  refine Ex_br 4 (x2 = (s.1 34 9)) (fun _ => rfl) (fun hc6 => ?_) (fun hc6 => ?_)
  · rw [if_pos hc6] at h
    refine Ex_br 4 (x3 = (s.1 34 8)) (fun _ => rfl) (fun hc7 => ?_) (fun hc7 => ?_)
    · rw [if_pos hc7] at h
      exact T_X3_between_j32 D t x1 x2 x3 s _ _ h
    · rw [if_neg hc7] at h
      exact T_X3_between_j36 D t x1 x2 x3 s _ _ h
  · rw [if_neg hc6] at h
    exact T_X3_between_j36 D t x1 x2 x3 s _ _ h

set_option maxRecDepth 20000 in
theorem T_X3_between (D : Nat) (t : mTX) (x1 : Int32) (x2 : Int32) (x3 : Int32) (s : mSG) (o : Int32) (h : X3_between x1 x2 x3 s = some o) : Runs (D + 4) 38 [.ref 34, .int x1, .int x2, .int x3] s (LAY t) (some (.int o), s, LAY t) := by
  refine Runs_mk (d := D + 3) rfl ?_
  show Ex (Runs (D + 3)) cd_X3_between (some (.int o), s, LAY t) 0 [some (.ref 34), some (.int x1), some (.int x2), some (.int x3), none] [] s (LAY t)
  unfold X3_between at h
  refine Ex_br 4 (x2 = (s.1 34 8)) (fun _ => rfl) (fun hc1 => ?_) (fun hc1 => ?_)
  · rw [if_pos hc1] at h
    refine Ex_br 4 (x3 = (s.1 34 9)) (fun _ => rfl) (fun hc2 => ?_) (fun hc2 => ?_)
    · rw [if_pos hc2] at h
      exact T_X3_between_j32 D t x1 x2 x3 s _ _ h
    · rw [if_neg hc2] at h
      exact T_X3_between_j16 D t x1 x2 x3 s _ _ h
  · rw [if_neg hc1] at h
    exact T_X3_between_j16 D t x1 x2 x3 s _ _ h

set_option maxRecDepth 20000 in
theorem T_X3_offer_j30 (D : Nat) (t : mTX) (x1 : Int32) (x2 : Int32) (x3 : Int32) (s : mSG) (o : mSG) (h : X3_offer_j30 x1 x2 x3 s = some o)  : Ex (Runs (D)) cd_X3_offer (none, o, LAY t) 30 [some (.ref 34), some (.int x1), some (.int x2), some (.int x3)] [] s (LAY t) := by
  unfold X3_offer_j30 at h
  obtain ⟨hg5, h⟩ := m_ite h
  refine Ex_gd 5 (fun _ => rfl) hg5 ?_
  refine Ex_gd 5 (fun _ => rfl) hg5 ?_
  obtain rfl := Option.some.inj h
  exact Ex_ret 1 (fun _ => rfl) rfl

set_option maxRecDepth 20000 in
theorem T_X3_offer (D : Nat) (t : mTX) (x1 : Int32) (x2 : Int32) (x3 : Int32) (s : mSG) (o : mSG) (h : X3_offer x1 x2 x3 s = some o) : Runs (D + 1) 39 [.ref 34, .int x1, .int x2, .int x3] s (LAY t) (none, o, LAY t) := by
  refine Runs_mk (d := D) rfl ?_
  show Ex (Runs (D)) cd_X3_offer (none, o, LAY t) 0 [some (.ref 34), some (.int x1), some (.int x2), some (.int x3)] [] s (LAY t)
  unfold X3_offer at h
  obtain ⟨hg1, h⟩ := m_ite h
  refine Ex_gd 5 (fun _ => rfl) hg1 ?_
  refine Ex_br 1 (x2 < (s.1 41 x1.toNatClampNeg)) (fun _ => rfl) (fun hc2 => ?_) (fun hc2 => ?_)
  · rw [if_pos hc2] at h
    exact T_X3_offer_j30 D t x1 x2 x3 s  _ h
  · rw [if_neg hc2] at h
    refine Ex_gd 5 (fun _ => rfl) hg1 ?_
    refine Ex_br 1 (x2 = (s.1 41 x1.toNatClampNeg)) (fun _ => rfl) (fun hc3 => ?_) (fun hc3 => ?_)
    · rw [if_pos hc3] at h
      refine Ex_gd 5 (fun _ => rfl) hg1 ?_
      refine Ex_br 1 ((s.1 42 x1.toNatClampNeg) ≤ x3) (fun _ => rfl) (fun hc4 => ?_) (fun hc4 => ?_)
      · rw [if_pos hc4] at h
        obtain rfl := Option.some.inj h
        exact Ex_ret 1 (fun _ => rfl) rfl
      · rw [if_neg hc4] at h
        exact T_X3_offer_j30 D t x1 x2 x3 s  _ h
    · rw [if_neg hc3] at h
      obtain rfl := Option.some.inj h
      exact Ex_ret 1 (fun _ => rfl) rfl

set_option maxRecDepth 20000 in
theorem T_X3_step_j94_27 (D : Nat) (t : mTX) (w : Option Value) (z : mSG) (x1 : Int32) (x2 : Int32) (x3 : Int32) (s : mSG) (u4 : Option Value) (o : (Int32 × mSG) ⊕ mSG) (h : X3_step_j94_27 x1 x2 x3 s = some o) (kc : ∀ y : Int32 × mSG, o = .inl y → ∀ (u4 : Option Value), Ex (Runs (D + 4)) cd_X3_step (w, z, LAY t) 27 [some (.ref 34), some (.int x1), some (.int x2), some (.int y.1), u4] [] y.2 (LAY t)) (ke0 : ∀ y : mSG, o = .inr y → ∀ (u3 u4 : Option Value), Ex (Runs (D + 4)) cd_X3_step (w, z, LAY t) 100 [some (.ref 34), some (.int x1), some (.int x2), u3, u4] [] y (LAY t)) : Ex (Runs (D + 4)) cd_X3_step (w, z, LAY t) 94 [some (.ref 34), some (.int x1), some (.int x2), some (.int x3), u4] [] s (LAY t) := by
  unfold X3_step_j94_27 at h
  refine Ex_sti 2 (fun _ => rfl) ?_
  obtain rfl := Option.some.inj h
  exact kc _ rfl _

set_option maxRecDepth 20000 in
theorem T_X3_step_j91_27 (D : Nat) (t : mTX) (w : Option Value) (z : mSG) (x1 : Int32) (x2 : Int32) (x3 : Int32) (p1 : Int32) (p2 : Int32) (p3 : Int32) (s : mSG) (u4 : Option Value) (o : (Int32 × mSG) ⊕ mSG) (h : X3_step_j91_27 x1 x2 x3 p1 p2 p3 s = some o) (kc : ∀ y : Int32 × mSG, o = .inl y → ∀ (u4 : Option Value), Ex (Runs (D + 4)) cd_X3_step (w, z, LAY t) 27 [some (.ref 34), some (.int x1), some (.int x2), some (.int y.1), u4] [] y.2 (LAY t)) (ke0 : ∀ y : mSG, o = .inr y → ∀ (u3 u4 : Option Value), Ex (Runs (D + 4)) cd_X3_step (w, z, LAY t) 100 [some (.ref 34), some (.int x1), some (.int x2), u3, u4] [] y (LAY t)) : Ex (Runs (D + 4)) cd_X3_step (w, z, LAY t) 91 [some (.ref 34), some (.int x1), some (.int x2), some (.int x3), u4] [.int p3, .int p2, .int p1, .ref 34] s (LAY t) := by
  unfold X3_step_j91_27 at h
  obtain ⟨r10, hr, h⟩ := m_bind h
  refine Ex_call 1 (fun _ => rfl) (T_X3_offer (D + 3) t p1 p2 p3 s r10 hr) rfl rfl ?_
  exact T_X3_step_j94_27 D t w z x1 x2 x3 r10 _ _ h kc ke0

set_option maxRecDepth 20000 in
theorem T_X3_step_b27 (D : Nat) (t : mTX) (w : Option Value) (z : mSG) (x1 : Int32) (x2 : Int32) (x3 : Int32) (s : mSG) (u4 : Option Value) (o : (Int32 × mSG) ⊕ mSG) (h : X3_step_b27 x1 x2 x3 s = some o) (kc : ∀ y : Int32 × mSG, o = .inl y → ∀ (u4 : Option Value), Ex (Runs (D + 4)) cd_X3_step (w, z, LAY t) 27 [some (.ref 34), some (.int x1), some (.int x2), some (.int y.1), u4] [] y.2 (LAY t)) (ke0 : ∀ y : mSG, o = .inr y → ∀ (u3 u4 : Option Value), Ex (Runs (D + 4)) cd_X3_step (w, z, LAY t) 100 [some (.ref 34), some (.int x1), some (.int x2), u3, u4] [] y (LAY t)) : Ex (Runs (D + 4)) cd_X3_step (w, z, LAY t) 27 [some (.ref 34), some (.int x1), some (.int x2), some (.int x3), u4] [] s (LAY t) := by
  unfold X3_step_b27 at h
  obtain ⟨hg4, h⟩ := m_ite h
  refine Ex_gd 4 (fun _ => rfl) hg4 ?_
  refine Ex_br 3 ((s.1 34 10) ≤ (s.1 39 x2.toNatClampNeg)) (fun _ => rfl) (fun hc5 => ?_) (fun hc5 => ?_)
  · rw [if_pos hc5] at h
    obtain rfl := Option.some.inj h
    exact ke0 _ rfl _ _
  · rw [if_neg hc5] at h
    refine Ex_br 3 (8 ≤ x3) (fun _ => rfl) (fun hc6 => ?_) (fun hc6 => ?_)
    · rw [if_pos hc6] at h
      obtain rfl := Option.some.inj h
      exact ke0 _ rfl _ _
    · rw [if_neg hc6] at h
      obtain ⟨r7, hr, h⟩ := m_bind h
      refine Ex_call 5 (fun _ => rfl) (T_X3_between D t x1 x2 x3 s r7 hr) rfl rfl ?_
      refine Ex_br 3 (r7 ≤ 0) (fun _ => rfl) (fun hc8 => ?_) (fun hc8 => ?_)
      · rw [if_pos hc8] at h
        exact T_X3_step_j94_27 D t w z x1 x2 x3 s _ _ h kc ke0
      · rw [if_neg hc8] at h
        refine Ex_gd 6 (fun _ => rfl) hg4 ?_
        refine Ex_gd 6 (fun _ => rfl) hg4 ?_
        refine Ex_br 2 ((s.1 40 x2.toNatClampNeg) = (-1)) (fun _ => rfl) (fun hc9 => ?_) (fun hc9 => ?_)
        · rw [if_pos hc9] at h
          refine Ex_sti 2 (fun _ => rfl) ?_
          exact T_X3_step_j91_27 D t w z x1 x2 x3 x3 ((s.1 39 x2.toNatClampNeg) + r7) x3 s _ _ h kc ke0
        · rw [if_neg hc9] at h
          refine Ex_gd 4 (fun _ => rfl) hg4 ?_
          exact T_X3_step_j91_27 D t w z x1 x2 x3 x3 ((s.1 39 x2.toNatClampNeg) + r7) (s.1 40 x2.toNatClampNeg) s _ _ h kc ke0

theorem T_X3_step_l27 (D : Nat) (t : mTX) (w : Option Value) (z : mSG) (x1 : Int32) (x2 : Int32) (v : Int32 × mSG) (e : mSG) (h : X3_step_l27 x1 x2 v = some e) (ke0 : ∀ y : mSG, e = y → ∀ (u3 u4 : Option Value), Ex (Runs (D + 4)) cd_X3_step (w, z, LAY t) 100 [some (.ref 34), some (.int x1), some (.int x2), u3, u4] [] y (LAY t)) : ∀ (u4 : Option Value), Ex (Runs (D + 4)) cd_X3_step (w, z, LAY t) 27 [some (.ref 34), some (.int x1), some (.int x2), some (.int v.1), u4] [] v.2 (LAY t) :=
  m_iter (P := fun v : Int32 × mSG => ∀ (u4 : Option Value), Ex (Runs (D + 4)) cd_X3_step (w, z, LAY t) 27 [some (.ref 34), some (.int x1), some (.int x2), some (.int v.1), u4] [] v.2 (LAY t)) (Q := fun e : mSG => (∀ y : mSG, e = y → ∀ (u3 u4 : Option Value), Ex (Runs (D + 4)) cd_X3_step (w, z, LAY t) 100 [some (.ref 34), some (.int x1), some (.int x2), u3, u4] [] y (LAY t))) (fun x o hx kc kq u4 => T_X3_step_b27 D t w z x1 x2 x.1 x.2 u4 o hx kc (fun e he => kq _ he e rfl)) mFU v e h ke0
set_option maxRecDepth 20000 in
theorem T_X3_step_j100_19 (D : Nat) (t : mTX) (w : Option Value) (z : mSG) (x1 : Int32) (x2 : Int32) (s : mSG) (u3 u4 : Option Value) (o : (Int32 × mSG) ⊕ mSG) (h : X3_step_j100_19 x1 x2 s = some o) (kc : ∀ y : Int32 × mSG, o = .inl y → ∀ (u3 u4 : Option Value), Ex (Runs (D + 4)) cd_X3_step (w, z, LAY t) 19 [some (.ref 34), some (.int x1), some (.int y.1), u3, u4] [] y.2 (LAY t)) (ke0 : ∀ y : mSG, o = .inr y → ∀ (u1 u2 u3 u4 : Option Value), Ex (Runs (D + 4)) cd_X3_step (w, z, LAY t) 106 [some (.ref 34), u1, u2, u3, u4] [] y (LAY t)) : Ex (Runs (D + 4)) cd_X3_step (w, z, LAY t) 100 [some (.ref 34), some (.int x1), some (.int x2), u3, u4] [] s (LAY t) := by
  unfold X3_step_j100_19 at h
  refine Ex_sti 2 (fun _ => rfl) ?_
  obtain rfl := Option.some.inj h
  exact kc _ rfl _ _

set_option maxRecDepth 20000 in
theorem T_X3_step_b19 (D : Nat) (t : mTX) (w : Option Value) (z : mSG) (x1 : Int32) (x2 : Int32) (s : mSG) (u3 u4 : Option Value) (o : (Int32 × mSG) ⊕ mSG) (h : X3_step_b19 x1 x2 s = some o) (kc : ∀ y : Int32 × mSG, o = .inl y → ∀ (u3 u4 : Option Value), Ex (Runs (D + 4)) cd_X3_step (w, z, LAY t) 19 [some (.ref 34), some (.int x1), some (.int y.1), u3, u4] [] y.2 (LAY t)) (ke0 : ∀ y : mSG, o = .inr y → ∀ (u1 u2 u3 u4 : Option Value), Ex (Runs (D + 4)) cd_X3_step (w, z, LAY t) 106 [some (.ref 34), u1, u2, u3, u4] [] y (LAY t)) : Ex (Runs (D + 4)) cd_X3_step (w, z, LAY t) 19 [some (.ref 34), some (.int x1), some (.int x2), u3, u4] [] s (LAY t) := by
  unfold X3_step_b19 at h
  refine Ex_br 3 (8 ≤ x2) (fun _ => rfl) (fun hc3 => ?_) (fun hc3 => ?_)
  · rw [if_pos hc3] at h
    obtain rfl := Option.some.inj h
    exact ke0 _ rfl _ _ _ _
  · rw [if_neg hc3] at h
    refine Ex_sti 2 (fun _ => rfl) ?_
    obtain ⟨e27, hl, h⟩ := m_bind h
    refine T_X3_step_l27 D t w z x1 x2  (0, s) _ hl (fun y0 hy0 => ?_) _
    · obtain ⟨e27, rfl⟩ : ∃ q, q = y0 := ⟨_, rfl⟩
      subst hy0
      intro vu3 vu4
      exact T_X3_step_j100_19 D t w z x1 x2 e27 _ _ _ h kc ke0

theorem T_X3_step_l19 (D : Nat) (t : mTX) (w : Option Value) (z : mSG) (x1 : Int32) (v : Int32 × mSG) (e : mSG) (h : X3_step_l19 x1 v = some e) (ke0 : ∀ y : mSG, e = y → ∀ (u1 u2 u3 u4 : Option Value), Ex (Runs (D + 4)) cd_X3_step (w, z, LAY t) 106 [some (.ref 34), u1, u2, u3, u4] [] y (LAY t)) : ∀ (u3 u4 : Option Value), Ex (Runs (D + 4)) cd_X3_step (w, z, LAY t) 19 [some (.ref 34), some (.int x1), some (.int v.1), u3, u4] [] v.2 (LAY t) :=
  m_iter (P := fun v : Int32 × mSG => ∀ (u3 u4 : Option Value), Ex (Runs (D + 4)) cd_X3_step (w, z, LAY t) 19 [some (.ref 34), some (.int x1), some (.int v.1), u3, u4] [] v.2 (LAY t)) (Q := fun e : mSG => (∀ y : mSG, e = y → ∀ (u1 u2 u3 u4 : Option Value), Ex (Runs (D + 4)) cd_X3_step (w, z, LAY t) 106 [some (.ref 34), u1, u2, u3, u4] [] y (LAY t))) (fun x o hx kc kq u3 u4 => T_X3_step_b19 D t w z x1 x.1 x.2 u3 u4 o hx kc (fun e he => kq _ he e rfl)) mFU v e h ke0
set_option maxRecDepth 20000 in
theorem T_X3_step (D : Nat) (t : mTX) (x1 : Int32) (s : mSG) (o : mSG) (h : X3_step x1 s = some o) : Runs (D + 5) 37 [.ref 34, .int x1] s (LAY t) (none, o, LAY t) := by
  refine Runs_mk (d := D + 4) rfl ?_
  show Ex (Runs (D + 4)) cd_X3_step (none, o, LAY t) 0 [some (.ref 34), some (.int x1), none, none, none] [] s (LAY t)
  unfold X3_step at h
  obtain ⟨r1, hr, h⟩ := m_bind h
  refine Ex_call 4 (fun _ => rfl) (T_J7_fill_41 (D + 3) t 1000000 s r1 hr) rfl rfl ?_
  obtain ⟨r2, hr, h⟩ := m_bind h
  refine Ex_call 4 (fun _ => rfl) (T_J7_fill_42 (D + 3) t (-1) r1 r2 hr) rfl rfl ?_
  refine Ex_sti 2 (fun _ => rfl) ?_
  obtain ⟨e19, hl, h⟩ := m_bind h
  refine T_X3_step_l19 D t none o x1  (0, r2) _ hl (fun y0 hy0 => ?_) _ _
  · obtain ⟨e19, rfl⟩ : ∃ q, q = y0 := ⟨_, rfl⟩
    subst hy0
    intro vu1 vu2 vu3 vu4
    refine Ex_gd2 8 (fun _ => rfl) (show ¬ (0 : Int32) < 0 ∧ ¬ (0 : Int32) < 0 ∧ ¬ (8 : Int32) < 0 ∧ (0 : Int32).toNatClampNeg + (8 : Int32).toNatClampNeg ≤ 8 ∧ (0 : Int32).toNatClampNeg + (8 : Int32).toNatClampNeg ≤ 8 from by decide) (Nat.le_of_ble_eq_true rfl) ?_
    refine Ex_gd2 8 (fun _ => rfl) (show ¬ (0 : Int32) < 0 ∧ ¬ (0 : Int32) < 0 ∧ ¬ (8 : Int32) < 0 ∧ (0 : Int32).toNatClampNeg + (8 : Int32).toNatClampNeg ≤ 8 ∧ (0 : Int32).toNatClampNeg + (8 : Int32).toNatClampNeg ≤ 8 from by decide) (Nat.le_of_ble_eq_true rfl) ?_
    obtain rfl := Option.some.inj h
    exact Ex_ret 1 (fun _ => rfl) rfl

set_option maxRecDepth 20000 in
theorem T_X3_noteArrival_j51 (D : Nat) (t : mTX) (x1 : Int32) (s : mSG) (o : mSG) (h : X3_noteArrival_j51 x1 s = some o)  : Ex (Runs (D)) cd_X3_noteArrival (none, o, LAY t) 51 [some (.ref 34), some (.int x1)] [] s (LAY t) := by
  unfold X3_noteArrival_j51 at h
  obtain ⟨hg6, h⟩ := m_ite h
  refine Ex_gd 5 (fun _ => rfl) hg6 ?_
  refine Ex_gd 6 (fun _ => rfl) hg6 ?_
  obtain rfl := Option.some.inj h
  exact Ex_ret 2 (fun _ => rfl) rfl

set_option maxRecDepth 20000 in
theorem T_X3_noteArrival (D : Nat) (t : mTX) (x1 : Int32) (s : mSG) (o : mSG) (h : X3_noteArrival x1 s = some o) : Runs (D + 1) 40 [.ref 34, .int x1] s (LAY t) (none, o, LAY t) := by
  refine Runs_mk (d := D) rfl ?_
  show Ex (Runs (D)) cd_X3_noteArrival (none, o, LAY t) 0 [some (.ref 34), some (.int x1)] [] s (LAY t)
  unfold X3_noteArrival at h
  obtain ⟨hg1, h⟩ := m_ite h
  refine Ex_gd 4 (fun _ => rfl) hg1 ?_
  refine Ex_br 2 ((s.1 39 x1.toNatClampNeg) = 1000000) (fun _ => rfl) (fun hc2 => ?_) (fun hc2 => ?_)
  · rw [if_pos hc2] at h
    obtain rfl := Option.some.inj h
    exact Ex_ret 1 (fun _ => rfl) rfl
  · rw [if_neg hc2] at h
    refine Ex_gd 4 (fun _ => rfl) hg1 ?_
    refine Ex_br 3 ((s.1 39 x1.toNatClampNeg) ≤ (s.1 34 10)) (fun _ => rfl) (fun hc3 => ?_) (fun hc3 => ?_)
    · rw [if_pos hc3] at h
      refine Ex_gd 4 (fun _ => rfl) hg1 ?_
      refine Ex_br 3 ((s.1 39 x1.toNatClampNeg) < (s.1 34 10)) (fun _ => rfl) (fun hc4 => ?_) (fun hc4 => ?_)
      · rw [if_pos hc4] at h
        exact T_X3_noteArrival_j51 D t x1 s  _ h
      · rw [if_neg hc4] at h
        refine Ex_gd 4 (fun _ => rfl) hg1 ?_
        refine Ex_br 3 ((s.1 34 11) ≤ (s.1 40 x1.toNatClampNeg)) (fun _ => rfl) (fun hc5 => ?_) (fun hc5 => ?_)
        · rw [if_pos hc5] at h
          obtain rfl := Option.some.inj h
          exact Ex_ret 1 (fun _ => rfl) rfl
        · rw [if_neg hc5] at h
          exact T_X3_noteArrival_j51 D t x1 s  _ h
    · rw [if_neg hc3] at h
      obtain rfl := Option.some.inj h
      exact Ex_ret 1 (fun _ => rfl) rfl

set_option maxRecDepth 20000 in
theorem T_X3_seek_28_7_j99_64 (D : Nat) (t : mTX) (w : Option Value) (z : mSG) (x4 : Int32) (x5 : Int32) (x6 : Int32) (s : mSG) (u3 : Option Value) (o : (Int32 × mSG) ⊕ mSG) (h : X3_seek_28_7_j99_64 t x4 x5 x6 s = some o) (kc : ∀ y : Int32 × mSG, o = .inl y → ∀ (u3 : Option Value), Ex (Runs (D + 5)) cd_X3_seek (w, z, LAY t) 64 [some (.ref 34), some (.ref 28), some (.ref 7), u3, some (.int x4), some (.int x5), some (.int y.1)] [] y.2 (LAY t)) (ke0 : ∀ y : mSG, o = .inr y → ∀ (u0 u2 u3 u4 u6 : Option Value), Ex (Runs (D + 5)) cd_X3_seek (w, z, LAY t) 123 [u0, some (.ref 28), u2, u3, u4, some (.int x5), u6] [] y (LAY t)) : Ex (Runs (D + 5)) cd_X3_seek (w, z, LAY t) 99 [some (.ref 34), some (.ref 28), some (.ref 7), u3, some (.int x4), some (.int x5), some (.int x6)] [] s (LAY t) := by
  unfold X3_seek_28_7_j99_64 at h
  obtain ⟨r9, hr, h⟩ := m_bind h
  refine Ex_call 4 (fun _ => rfl) (T_X3_step D t (s.1 28 7) s r9 hr) rfl rfl ?_
  obtain ⟨r10, hr, h⟩ := m_bind h
  refine Ex_call 3 (fun _ => rfl) (T_X3_noteArrival (D + 4) t x4 r9 r10 hr) rfl rfl ?_
  obtain ⟨r11, hr, h⟩ := m_bind h
  refine Ex_call 2 (fun _ => rfl) (T_X0_soak_28 (D + 1) t  r10 r11 hr) rfl rfl ?_
  refine Ex_sti 2 (fun _ => rfl) ?_
  obtain rfl := Option.some.inj h
  exact kc _ rfl _

set_option maxRecDepth 20000 in
theorem T_X3_seek_28_7_b64 (D : Nat) (t : mTX) (w : Option Value) (z : mSG) (x4 : Int32) (x5 : Int32) (x6 : Int32) (s : mSG) (u3 : Option Value) (o : (Int32 × mSG) ⊕ mSG) (h : X3_seek_28_7_b64 t x4 x5 x6 s = some o) (kc : ∀ y : Int32 × mSG, o = .inl y → ∀ (u3 : Option Value), Ex (Runs (D + 5)) cd_X3_seek (w, z, LAY t) 64 [some (.ref 34), some (.ref 28), some (.ref 7), u3, some (.int x4), some (.int x5), some (.int y.1)] [] y.2 (LAY t)) (ke0 : ∀ y : mSG, o = .inr y → ∀ (u0 u2 u3 u4 u6 : Option Value), Ex (Runs (D + 5)) cd_X3_seek (w, z, LAY t) 123 [u0, some (.ref 28), u2, u3, u4, some (.int x5), u6] [] y (LAY t)) : Ex (Runs (D + 5)) cd_X3_seek (w, z, LAY t) 64 [some (.ref 34), some (.ref 28), some (.ref 7), u3, some (.int x4), some (.int x5), some (.int x6)] [] s (LAY t) := by
  unfold X3_seek_28_7_b64 at h
  refine Ex_br 3 (16 ≤ x6) (fun _ => rfl) (fun hc5 => ?_) (fun hc5 => ?_)
  · rw [if_pos hc5] at h
    obtain rfl := Option.some.inj h
    exact ke0 _ rfl _ _ _ _ _
  · rw [if_neg hc5] at h
    obtain ⟨r6, hr, h⟩ := m_bind h
    refine Ex_call 6 (fun _ => rfl) (T_X7_learn_35_28_7 D t 0 s r6 hr) rfl rfl ?_
    refine Ex_br 4 ((r6.1 34 8) = (-1)) (fun _ => rfl) (fun hc7 => ?_) (fun hc7 => ?_)
    · rw [if_pos hc7] at h
      exact T_X3_seek_28_7_j99_64 D t w z x4 x5 x6 r6 _ _ h kc ke0
    · rw [if_neg hc7] at h
      obtain ⟨r8, hr, h⟩ := m_bind h
      refine Ex_call 6 (fun _ => rfl) (T_X7_learn_37_28_7 D t 1 r6 r8 hr) rfl rfl ?_
      exact T_X3_seek_28_7_j99_64 D t w z x4 x5 x6 r8 _ _ h kc ke0

theorem T_X3_seek_28_7_l64 (D : Nat) (t : mTX) (w : Option Value) (z : mSG) (x4 : Int32) (x5 : Int32) (v : Int32 × mSG) (e : mSG) (h : X3_seek_28_7_l64 t x4 x5 v = some e) (ke0 : ∀ y : mSG, e = y → ∀ (u0 u2 u3 u4 u6 : Option Value), Ex (Runs (D + 5)) cd_X3_seek (w, z, LAY t) 123 [u0, some (.ref 28), u2, u3, u4, some (.int x5), u6] [] y (LAY t)) : ∀ (u3 : Option Value), Ex (Runs (D + 5)) cd_X3_seek (w, z, LAY t) 64 [some (.ref 34), some (.ref 28), some (.ref 7), u3, some (.int x4), some (.int x5), some (.int v.1)] [] v.2 (LAY t) :=
  m_iter (P := fun v : Int32 × mSG => ∀ (u3 : Option Value), Ex (Runs (D + 5)) cd_X3_seek (w, z, LAY t) 64 [some (.ref 34), some (.ref 28), some (.ref 7), u3, some (.int x4), some (.int x5), some (.int v.1)] [] v.2 (LAY t)) (Q := fun e : mSG => (∀ y : mSG, e = y → ∀ (u0 u2 u3 u4 u6 : Option Value), Ex (Runs (D + 5)) cd_X3_seek (w, z, LAY t) 123 [u0, some (.ref 28), u2, u3, u4, some (.int x5), u6] [] y (LAY t))) (fun x o hx kc kq u3 => T_X3_seek_28_7_b64 D t w z x4 x5 x.1 x.2 u3 o hx kc (fun e he => kq _ he e rfl)) mFU v e h ke0
set_option maxRecDepth 20000 in
theorem T_X3_seek_28_7_j13 (D : Nat) (t : mTX) (x3 : Int32) (x4 : Int32) (p1 : Int32) (s : mSG) (u5 u6 : Option Value) (o : mSG) (h : X3_seek_28_7_j13 t x3 x4 p1 s = some o)  : Ex (Runs (D + 5)) cd_X3_seek (none, o, LAY t) 13 [some (.ref 34), some (.ref 28), some (.ref 7), some (.int x3), some (.int x4), u5, u6] [.int p1, .ref 34] s (LAY t) := by
  unfold X3_seek_28_7_j13 at h
  refine Ex_call 7 (fun _ => rfl) (T_X8_areTwoStones (D + 2) t x3 x4 (sI (sI s 34 10 p1) 34 11 (-1)) _ rfl) rfl rfl ?_
  refine Ex_brZ 1 (X8_areTwoStones x3 x4) (fun _ => rfl) (fun hc => ?_) (fun hc => ?_)
  · rw [if_neg (m_nt hc)] at h
    obtain rfl := Option.some.inj h
    exact Ex_ret 1 (fun _ => rfl) rfl
  · rw [if_pos hc] at h
    obtain ⟨r2, hr, h⟩ := m_bind h
    refine Ex_call 7 (fun _ => rfl) (T_J7_fill_39 (D + 4) t 1000000 (sI (sI s 34 10 p1) 34 11 (-1)) r2 hr) rfl rfl ?_
    obtain ⟨r3, hr, h⟩ := m_bind h
    refine Ex_call 4 (fun _ => rfl) (T_J7_fill_40 (D + 4) t (-1) r2 r3 hr) rfl rfl ?_
    obtain ⟨hg4, h⟩ := m_ite h
    refine Ex_gd 5 (fun _ => rfl) hg4 ?_
    refine Ex_sti 2 (fun _ => rfl) ?_
    obtain ⟨e64, hl, h⟩ := m_bind h
    refine T_X3_seek_28_7_l64 D t none o x4 (s.1 28 7)  (0, sI r3 39 x3.toNatClampNeg 0) _ hl (fun y0 hy0 => ?_) _
    · obtain ⟨e64, rfl⟩ : ∃ q, q = y0 := ⟨_, rfl⟩
      subst hy0
      intro vu0 vu2 vu3 vu4 vu6
      obtain rfl := Option.some.inj h
      exact Ex_ret 4 (fun _ => rfl) rfl

set_option maxRecDepth 20000 in
theorem T_X3_seek_28_7 (D : Nat) (t : mTX) (x3 : Int32) (x4 : Int32) (s : mSG) (o : mSG) (h : X3_seek_28_7 t x3 x4 s = some o) : Runs (D + 6) 36 [.ref 34, .ref 28, .ref 7, .int x3, .int x4] s (LAY t) (none, o, LAY t) := by
  refine Runs_mk (d := D + 5) rfl ?_
  show Ex (Runs (D + 5)) cd_X3_seek (none, o, LAY t) 0 [some (.ref 34), some (.ref 28), some (.ref 7), some (.int x3), some (.int x4), none, none] [] s (LAY t)
  unfold X3_seek_28_7 at h
  refine Ex_br 4 (x3 = x4) (fun _ => rfl) (fun hc1 => ?_) (fun hc1 => ?_)
  · rw [if_pos hc1] at h
    refine Ex_sti 2 (fun _ => rfl) ?_
    exact T_X3_seek_28_7_j13 D t x3 x4 0 s _ _ _ h
  · rw [if_neg hc1] at h
    refine Ex_sti 1 (fun _ => rfl) ?_
    exact T_X3_seek_28_7_j13 D t x3 x4 1000000 s _ _ _ h

set_option maxRecDepth 20000 in
theorem T_X8_seek (D : Nat) (t : mTX) (x1 : Int32) (x2 : Int32) (x3 : Int32) (s : mSG) (o : mSG) (h : X8_seek t x1 x2 x3 s = some o) : Runs (D + 7) 117 [.ref 6, .int x1, .int x2, .int x3] s (LAY t) (none, o, LAY t) := by
  refine Runs_mk (d := D + 6) rfl ?_
  show Ex (Runs (D + 6)) cd_X8_seek (none, o, LAY t) 0 [some (.ref 6), some (.int x1), some (.int x2), some (.int x3)] [] s (LAY t)
  unfold X8_seek at h
  obtain ⟨r1, hr, h⟩ := m_bind h
  refine Ex_call 9 (fun _ => rfl) (T_X8_ruleOf_7 (D + 4) t  s r1 hr) rfl rfl ?_
  obtain ⟨r2, hr, h⟩ := m_bind h
  refine Ex_call 1 (fun _ => rfl) (T_X0_be_28_7 (D + 2) t x1 r1 s r2 hr) rfl rfl ?_
  obtain ⟨r3, hr, h⟩ := m_bind h
  refine Ex_call 7 (fun _ => rfl) (T_X3_forget (D + 4) t  (sI r2 28 8 x3) r3 hr) rfl rfl ?_
  obtain ⟨r4, hr, h⟩ := m_bind h
  refine Ex_call 11 (fun _ => rfl) (T_X5_trait_7 (D + 3) t x1 0 r3 r4 hr) rfl rfl ?_
  obtain ⟨r5, hr, h⟩ := m_bind h
  refine Ex_call 2 (fun _ => rfl) (T_X3_seek_28_7 D t r4 x2 r3 r5 hr) rfl rfl ?_
  obtain rfl := Option.some.inj h
  exact Ex_ret 1 (fun _ => rfl) rfl

set_option maxRecDepth 20000 in
theorem T_X3_hoursFound (D : Nat) (t : mTX) (s : mSG) (o : Int32) (h : X3_hoursFound s = o) : Runs (D + 1) 34 [.ref 34] s (LAY t) (some (.int o), s, LAY t) := by
  refine Runs_mk (d := D) rfl ?_
  show Ex (Runs (D)) cd_X3_hoursFound (some (.int o), s, LAY t) 0 [some (.ref 34)] [] s (LAY t)
  unfold X3_hoursFound at h
  refine Ex_br 4 (1000000 ≤ (s.1 34 10)) (fun _ => rfl) (fun hc1 => ?_) (fun hc1 => ?_)
  · rw [if_pos hc1] at h
    subst h
    exact Ex_ret 2 (fun _ => rfl) rfl
  · rw [if_neg hc1] at h
    subst h
    exact Ex_ret 4 (fun _ => rfl) rfl

set_option maxRecDepth 20000 in
theorem T_X3_firstFound (D : Nat) (t : mTX) (s : mSG) (o : Int32) (h : X3_firstFound s = o) : Runs (D + 1) 35 [.ref 34] s (LAY t) (some (.int o), s, LAY t) := by
  refine Runs_mk (d := D) rfl ?_
  show Ex (Runs (D)) cd_X3_firstFound (some (.int o), s, LAY t) 0 [some (.ref 34)] [] s (LAY t)
  unfold X3_firstFound at h
  subst h
  exact Ex_ret 3 (fun _ => rfl) rfl

set_option maxRecDepth 20000 in
theorem T_X8_soonest (D : Nat) (t : mTX) (x1 : Int32) (x2 : Int32) (x3 : Int32) (s : mSG) (o : Int32 × mSG) (h : X8_soonest t x1 x2 x3 s = some o) : Runs (D + 8) 88 [.ref 6, .int x1, .int x2, .int x3] s (LAY t) (some (.int o.1), o.2, LAY t) := by
  refine Runs_mk (d := D + 7) rfl ?_
  show Ex (Runs (D + 7)) cd_X8_soonest (some (.int o.1), o.2, LAY t) 0 [some (.ref 6), some (.int x1), some (.int x2), some (.int x3)] [] s (LAY t)
  unfold X8_soonest at h
  refine Ex_call 4 (fun _ => rfl) (T_X5_isOne_7 (D + 5) t x1 s _ rfl) rfl rfl ?_
  refine Ex_brZ 1 (X5_isOne_7 x1 s) (fun _ => rfl) (fun hc => ?_) (fun hc => ?_)
  · rw [if_neg (m_nt hc)] at h
    obtain rfl := Option.some.inj h
    exact Ex_ret 2 (fun _ => rfl) rfl
  · rw [if_pos hc] at h
    refine Ex_call 2 (fun _ => rfl) (T_X8_isStone (D + 5) t x2 s _ rfl) rfl rfl ?_
    refine Ex_brZ 1 (X8_isStone x2) (fun _ => rfl) (fun hc => ?_) (fun hc => ?_)
    · rw [if_neg (m_nt hc)] at h
      obtain rfl := Option.some.inj h
      exact Ex_ret 2 (fun _ => rfl) rfl
    · rw [if_pos hc] at h
      refine Ex_call 3 (fun _ => rfl) (T_X8_isWithin (D + 6) t x3 1 s _ rfl) rfl rfl ?_
      refine Ex_brZ 1 (X8_isWithin x3 1) (fun _ => rfl) (fun hc => ?_) (fun hc => ?_)
      · rw [if_neg (m_nt hc)] at h
        obtain rfl := Option.some.inj h
        exact Ex_ret 2 (fun _ => rfl) rfl
      · rw [if_pos hc] at h
        obtain ⟨r1, hr, h⟩ := m_bind h
        refine Ex_call 6 (fun _ => rfl) (T_X5_rainNow_7 (D + 4) t  s r1 hr) rfl rfl ?_
        obtain ⟨r2, hr, h⟩ := m_bind h
        refine Ex_call 1 (fun _ => rfl) (T_X8_seek D t x1 x2 r1 s r2 hr) rfl rfl ?_
        refine Ex_br 2 (x3 = 0) (fun _ => rfl) (fun hc3 => ?_) (fun hc3 => ?_)
        · rw [if_pos hc3] at h
          refine Ex_call 3 (fun _ => rfl) (T_X3_hoursFound (D + 6) t  r2 _ rfl) rfl rfl ?_
          obtain rfl := Option.some.inj h
          exact Ex_ret 2 (fun _ => rfl) rfl
        · rw [if_neg hc3] at h
          refine Ex_call 3 (fun _ => rfl) (T_X3_firstFound (D + 6) t  r2 _ rfl) rfl rfl ?_
          obtain rfl := Option.some.inj h
          exact Ex_ret 1 (fun _ => rfl) rfl

set_option maxRecDepth 20000 in
theorem T_X8_areTwoPeople (D : Nat) (t : mTX) (x1 : Int32) (x2 : Int32) (s : mSG) (o : Bool) (h : X8_areTwoPeople x1 x2 s = o) : Runs (D + 3) 112 [.ref 6, .int x1, .int x2] s (LAY t) (some (.int (b2i o)), s, LAY t) := by
  refine Runs_mk (d := D + 2) rfl ?_
  show Ex (Runs (D + 2)) cd_X8_areTwoPeople (some (.int (b2i o)), s, LAY t) 0 [some (.ref 6), some (.int x1), some (.int x2)] [] s (LAY t)
  unfold X8_areTwoPeople at h
  refine Ex_call 4 (fun _ => rfl) (T_X5_isOne_7 D t x1 s _ rfl) rfl rfl ?_
  refine Ex_brZ 1 (X5_isOne_7 x1 s) (fun _ => rfl) (fun hc => ?_) (fun hc => ?_)
  · rw [if_neg (m_nt hc)] at h
    subst h
    exact Ex_retZ 2 (fun _ => rfl) (Or.inl rfl) rfl
  · rw [if_pos hc] at h
    refine Ex_call 4 (fun _ => rfl) (T_X5_isOne_7 D t x2 s _ rfl) rfl rfl ?_
    refine Ex_brZ 1 (X5_isOne_7 x2 s) (fun _ => rfl) (fun hc => ?_) (fun hc => ?_)
    · rw [if_neg (m_nt hc)] at h
      subst h
      exact Ex_retZ 2 (fun _ => rfl) (Or.inl rfl) rfl
    · rw [if_pos hc] at h
      refine Ex_br 3 (x1 = x2) (fun _ => rfl) (fun hc1 => ?_) (fun hc1 => ?_)
      · rw [if_pos hc1] at h
        subst h
        exact Ex_retZ 2 (fun _ => rfl) (Or.inl rfl) rfl
      · rw [if_neg hc1] at h
        subst h
        exact Ex_retZ 3 (fun _ => rfl) (Or.inr rfl) rfl

set_option maxRecDepth 20000 in
theorem T_X8_areOnOneStone (D : Nat) (t : mTX) (x1 : Int32) (x2 : Int32) (s : mSG) (o : Bool) (h : X8_areOnOneStone x1 x2 s = some o) : Runs (D + 4) 113 [.ref 6, .int x1, .int x2] s (LAY t) (some (.int (b2i o)), s, LAY t) := by
  refine Runs_mk (d := D + 3) rfl ?_
  show Ex (Runs (D + 3)) cd_X8_areOnOneStone (some (.int (b2i o)), s, LAY t) 0 [some (.ref 6), some (.int x1), some (.int x2)] [] s (LAY t)
  unfold X8_areOnOneStone at h
  obtain ⟨r1, hr, h⟩ := m_bind h
  refine Ex_call 5 (fun _ => rfl) (T_X5_trait_7 D t x1 0 s r1 hr) rfl rfl ?_
  obtain ⟨r2, hr, h⟩ := m_bind h
  refine Ex_call 5 (fun _ => rfl) (T_X5_trait_7 D t x2 0 s r2 hr) rfl rfl ?_
  refine Ex_br 1 (r1 = r2) (fun _ => rfl) (fun hc3 => ?_) (fun hc3 => ?_)
  · rw [if_pos hc3] at h
    obtain rfl := Option.some.inj h
    exact Ex_retZ 3 (fun _ => rfl) (Or.inr rfl) rfl
  · rw [if_neg hc3] at h
    obtain rfl := Option.some.inj h
    exact Ex_retZ 2 (fun _ => rfl) (Or.inl rfl) rfl

set_option maxRecDepth 20000 in
theorem T_X0_be_31_7 (D : Nat) (t : mTX) (x2 : Int32) (a3_ : Nat) (s : mSG) (o : mSG) (h : X0_be_31_7 x2 a3_ s = some o) : Runs (D + 4) 1 [.ref 31, .ref 7, .int x2, .ref a3_] s (LAY t) (none, o, LAY t) := by
  refine Runs_mk (d := D + 3) rfl ?_
  show Ex (Runs (D + 3)) cd_X0_be (none, o, LAY t) 0 [some (.ref 31), some (.ref 7), some (.int x2), some (.ref a3_)] [] s (LAY t)
  unfold X0_be_31_7 at h
  obtain ⟨r1, hr, h⟩ := m_bind h
  refine Ex_call 8 (fun _ => rfl) (T_X5_trait_7 D t x2 5 (sQ s 31 2 a3_) r1 hr) rfl rfl ?_
  obtain ⟨r2, hr, h⟩ := m_bind h
  refine Ex_call 6 (fun _ => rfl) (T_X5_trait_7 D t x2 4 (sI (sQ s 31 2 a3_) 31 3 r1) r2 hr) rfl rfl ?_
  obtain ⟨r3, hr, h⟩ := m_bind h
  refine Ex_call 6 (fun _ => rfl) (T_X5_trait_7 D t x2 1 (sI (sI (sQ s 31 2 a3_) 31 3 r1) 31 4 r2) r3 hr) rfl rfl ?_
  obtain ⟨r4, hr, h⟩ := m_bind h
  refine Ex_call 6 (fun _ => rfl) (T_X5_trait_7 D t x2 3 (sI (sI (sI (sQ s 31 2 a3_) 31 3 r1) 31 4 r2) 31 5 r3) r4 hr) rfl rfl ?_
  obtain ⟨r5, hr, h⟩ := m_bind h
  refine Ex_call 6 (fun _ => rfl) (T_X5_trait_7 D t x2 2 (sI (sI (sI (sI (sQ s 31 2 a3_) 31 3 r1) 31 4 r2) 31 5 r3) 31 6 r4) r5 hr) rfl rfl ?_
  obtain ⟨r6, hr, h⟩ := m_bind h
  refine Ex_call 4 (fun _ => rfl) (T_X5_rainNow_7 D t  (sI (sI (sI (sI (sI (sQ s 31 2 a3_) 31 3 r1) 31 4 r2) 31 5 r3) 31 6 r4) 31 7 r5) r6 hr) rfl rfl ?_
  obtain rfl := Option.some.inj h
  exact Ex_ret 2 (fun _ => rfl) rfl

set_option maxRecDepth 20000 in
theorem T_X0_reaches_31 (D : Nat) (t : mTX) (s : mSG) (o : Int32) (h : X0_reaches_31 s = o) : Runs (D + 3) 2 [.ref 31] s (LAY t) (some (.int o), s, LAY t) := by
  refine Runs_mk (d := D + 2) rfl ?_
  show Ex (Runs (D + 2)) cd_X0_reaches (some (.int o), s, LAY t) 0 [some (.ref 31)] [] s (LAY t)
  unfold X0_reaches_31 at h
  refine Ex_call 9 (fun _ => rfl) (T_X2_reaches D t (s.1 31 3) (s.1 31 4) (s.1 31 5) (s.1 31 7) s _ rfl) rfl rfl ?_
  subst h
  exact Ex_ret 1 (fun _ => rfl) rfl

set_option maxRecDepth 20000 in
theorem T_X0_wants_28 (D : Nat) (t : mTX) (x1 : Int32) (x2 : Int32) (x3 : Int32) (s : mSG) (o : Int32 × mSG) (h : X0_wants_28 t x1 x2 x3 s = some o) : Runs (D + 4) 3 [.ref 28, .int x1, .int x2, .int x3] s (LAY t) (some (.int o.1), o.2, LAY t) := by
  refine Runs_mk (d := D + 3) rfl ?_
  show Ex (Runs (D + 3)) cd_X0_wants (some (.int o.1), o.2, LAY t) 0 [some (.ref 28), some (.int x1), some (.int x2), some (.int x3)] [] s (LAY t)
  unfold X0_wants_28 at h
  obtain ⟨r1, hr, h⟩ := m_bind h
  refine Ex_call 6 (fun _ => rfl) (T_X0_asked_28 D t 0 x1 x2 x3 s r1 hr) rfl rfl ?_
  obtain rfl := Option.some.inj h
  exact Ex_ret 1 (fun _ => rfl) rfl

set_option maxRecDepth 20000 in
theorem T_X6_value_32_33_j172_31 (D : Nat) (t : mTX) (w : Option Value) (z : mSG) (a0_ : Nat) (x1 : Int32) (x4 : Int32) (x5 : Int32) (s : mSG) (u6 u7 : Option Value) (o : (Int32 × Int32 × mSG) ⊕ mSG) (h : X6_value_32_33_j172_31 t a0_ x1 x4 x5 s = some o) (kc : ∀ y : Int32 × Int32 × mSG, o = .inl y → ∀ (u6 u7 : Option Value), Ex (Runs (D + 1)) cd_X6_value (w, z, LAY t) 31 [some (.ref a0_), some (.int x1), some (.ref 32), some (.ref 33), some (.int y.1), some (.int y.2.1), u6, u7] [] y.2.2 (LAY t)) (ke0 : ∀ y : mSG, o = .inr y → ∀ (u0 u1 u2 u4 u5 u6 u7 : Option Value), Ex (Runs (D + 1)) cd_X6_value (w, z, LAY t) 178 [u0, u1, u2, some (.ref 33), u4, u5, u6, u7] [] y (LAY t)) : Ex (Runs (D + 1)) cd_X6_value (w, z, LAY t) 172 [some (.ref a0_), some (.int x1), some (.ref 32), some (.ref 33), some (.int x4), some (.int x5), u6, u7] [] s (LAY t) := by
  unfold X6_value_32_33_j172_31 at h
  refine Ex_sti 2 (fun _ => rfl) ?_
  obtain rfl := Option.some.inj h
  exact kc _ rfl _ _

set_option maxRecDepth 20000 in
theorem T_X6_value_32_33_j93_31 (D : Nat) (t : mTX) (w : Option Value) (z : mSG) (a0_ : Nat) (x1 : Int32) (x4 : Int32) (x5 : Int32) (p1 : Int32) (p2 : Int32) (s : mSG) (u6 u7 : Option Value) (o : (Int32 × Int32 × mSG) ⊕ mSG) (h : X6_value_32_33_j93_31 t a0_ x1 x4 x5 p1 p2 s = some o) (kc : ∀ y : Int32 × Int32 × mSG, o = .inl y → ∀ (u6 u7 : Option Value), Ex (Runs (D + 1)) cd_X6_value (w, z, LAY t) 31 [some (.ref a0_), some (.int x1), some (.ref 32), some (.ref 33), some (.int y.1), some (.int y.2.1), u6, u7] [] y.2.2 (LAY t)) (ke0 : ∀ y : mSG, o = .inr y → ∀ (u0 u1 u2 u4 u5 u6 u7 : Option Value), Ex (Runs (D + 1)) cd_X6_value (w, z, LAY t) 178 [u0, u1, u2, some (.ref 33), u4, u5, u6, u7] [] y (LAY t)) : Ex (Runs (D + 1)) cd_X6_value (w, z, LAY t) 93 [some (.ref a0_), some (.int x1), some (.ref 32), some (.ref 33), some (.int x4), some (.int x5), u6, u7] [.int p2, .int p1, .ref 33] s (LAY t) := by
  unfold X6_value_32_33_j93_31 at h
  obtain ⟨hg16, h⟩ := m_ite h
  refine Ex_gd 1 (fun _ => rfl) hg16 ?_
  refine Ex_sti 2 (fun _ => rfl) ?_
  exact T_X6_value_32_33_j172_31 D t w z a0_ x1 (x4 + 1) x5 (sI s 33 p1.toNatClampNeg p2) _ _ _ h kc ke0

set_option maxRecDepth 20000 in
theorem T_X6_value_32_33_j69_31 (D : Nat) (t : mTX) (w : Option Value) (z : mSG) (a0_ : Nat) (x1 : Int32) (x4 : Int32) (x5 : Int32) (x6 : Int32) (x7 : Int32) (s : mSG) (o : (Int32 × Int32 × mSG) ⊕ mSG) (h : X6_value_32_33_j69_31 t a0_ x1 x4 x5 x6 x7 s = some o) (kc : ∀ y : Int32 × Int32 × mSG, o = .inl y → ∀ (u6 u7 : Option Value), Ex (Runs (D + 1)) cd_X6_value (w, z, LAY t) 31 [some (.ref a0_), some (.int x1), some (.ref 32), some (.ref 33), some (.int y.1), some (.int y.2.1), u6, u7] [] y.2.2 (LAY t)) (ke0 : ∀ y : mSG, o = .inr y → ∀ (u0 u1 u2 u4 u5 u6 u7 : Option Value), Ex (Runs (D + 1)) cd_X6_value (w, z, LAY t) 178 [u0, u1, u2, some (.ref 33), u4, u5, u6, u7] [] y (LAY t)) : Ex (Runs (D + 1)) cd_X6_value (w, z, LAY t) 69 [some (.ref a0_), some (.int x1), some (.ref 32), some (.ref 33), some (.int x4), some (.int x5), some (.int x6), some (.int x7)] [] s (LAY t) := by
  unfold X6_value_32_33_j69_31 at h
  refine Ex_br 3 (32 ≤ x4) (fun _ => rfl) (fun hc13 => ?_) (fun hc13 => ?_)
  · rw [if_pos hc13] at h
    exact T_X6_value_32_33_j172_31 D t w z a0_ x1 x4 x5 s _ _ _ h kc ke0
  · rw [if_neg hc13] at h
    refine Ex_br 4 (x6 < 0) (fun _ => rfl) (fun hc14 => ?_) (fun hc14 => ?_)
    · rw [if_pos hc14] at h
      obtain ⟨hg15, h⟩ := m_ite h
      refine Ex_gd 3 (fun _ => rfl) hg15 ?_
      exact T_X6_value_32_33_j93_31 D t w z a0_ x1 x4 x5 x4 (s.1 32 x7.toNatClampNeg) s _ _ _ h kc ke0
    · rw [if_neg hc14] at h
      refine Ex_sti 2 (fun _ => rfl) ?_
      exact T_X6_value_32_33_j93_31 D t w z a0_ x1 x4 x5 x4 x6 s _ _ _ h kc ke0

set_option maxRecDepth 20000 in
theorem T_X6_value_32_33_j114_31 (D : Nat) (t : mTX) (w : Option Value) (z : mSG) (a0_ : Nat) (x1 : Int32) (x4 : Int32) (x5 : Int32) (x6 : Int32) (s : mSG) (u7 : Option Value) (o : (Int32 × Int32 × mSG) ⊕ mSG) (h : X6_value_32_33_j114_31 t a0_ x1 x4 x5 x6 s = some o) (kc : ∀ y : Int32 × Int32 × mSG, o = .inl y → ∀ (u6 u7 : Option Value), Ex (Runs (D + 1)) cd_X6_value (w, z, LAY t) 31 [some (.ref a0_), some (.int x1), some (.ref 32), some (.ref 33), some (.int y.1), some (.int y.2.1), u6, u7] [] y.2.2 (LAY t)) (ke0 : ∀ y : mSG, o = .inr y → ∀ (u0 u1 u2 u4 u5 u6 u7 : Option Value), Ex (Runs (D + 1)) cd_X6_value (w, z, LAY t) 178 [u0, u1, u2, some (.ref 33), u4, u5, u6, u7] [] y (LAY t)) : Ex (Runs (D + 1)) cd_X6_value (w, z, LAY t) 114 [some (.ref a0_), some (.int x1), some (.ref 32), some (.ref 33), some (.int x4), some (.int x5), some (.int x6), u7] [] s (LAY t) := by
  unfold X6_value_32_33_j114_31 at h
  refine Ex_br 3 (x4 < 1) (fun _ => rfl) (fun hc17 => ?_) (fun hc17 => ?_)
  · rw [if_pos hc17] at h
    exact T_X6_value_32_33_j172_31 D t w z a0_ x1 x4 x5 s _ _ _ h kc ke0
  · rw [if_neg hc17] at h
    obtain ⟨hg18, h⟩ := m_ite h
    refine Ex_gd 10 (fun _ => rfl) hg18 ?_
    refine Ex_call 1 (fun _ => rfl) (T_X6_ofOne D t x6 (s.1 33 (x4 - 1).toNatClampNeg) s _ rfl) rfl rfl ?_
    refine Ex_gd 1 (fun _ => rfl) hg18 ?_
    refine Ex_sti 1 (fun _ => rfl) ?_
    exact T_X6_value_32_33_j172_31 D t w z a0_ x1 x4 x5 (sI s 33 (x4 - 1).toNatClampNeg (X6_ofOne x6 (s.1 33 (x4 - 1).toNatClampNeg))) _ _ _ h kc ke0

set_option maxRecDepth 20000 in
theorem T_X6_value_32_33_b31 (D : Nat) (t : mTX) (w : Option Value) (z : mSG) (a0_ : Nat) (x1 : Int32) (x4 : Int32) (x5 : Int32) (s : mSG) (u6 u7 : Option Value) (o : (Int32 × Int32 × mSG) ⊕ mSG) (h : X6_value_32_33_b31 t a0_ x1 x4 x5 s = some o) (kc : ∀ y : Int32 × Int32 × mSG, o = .inl y → ∀ (u6 u7 : Option Value), Ex (Runs (D + 1)) cd_X6_value (w, z, LAY t) 31 [some (.ref a0_), some (.int x1), some (.ref 32), some (.ref 33), some (.int y.1), some (.int y.2.1), u6, u7] [] y.2.2 (LAY t)) (ke0 : ∀ y : mSG, o = .inr y → ∀ (u0 u1 u2 u4 u5 u6 u7 : Option Value), Ex (Runs (D + 1)) cd_X6_value (w, z, LAY t) 178 [u0, u1, u2, some (.ref 33), u4, u5, u6, u7] [] y (LAY t)) : Ex (Runs (D + 1)) cd_X6_value (w, z, LAY t) 31 [some (.ref a0_), some (.int x1), some (.ref 32), some (.ref 33), some (.int x4), some (.int x5), u6, u7] [] s (LAY t) := by
  unfold X6_value_32_33_b31 at h
  obtain ⟨hg, h⟩ := m_ite h
  obtain ⟨a3, hq, h⟩ := m_bind h
  refine Ex_getF 3 (fun _ => rfl) hg hq ?_
  obtain ⟨hg, h⟩ := m_ite h
  refine Ex_ifg 2 (fun _ => rfl) hg.1 hg.2 ?_
  refine Ex_br 1 ((s.1 a3 x1.toNatClampNeg) ≤ x5) (fun _ => rfl) (fun hc4 => ?_) (fun hc4 => ?_)
  · rw [if_pos hc4] at h
    obtain rfl := Option.some.inj h
    exact ke0 _ rfl _ _ _ _ _ _ _
  · rw [if_neg hc4] at h
    obtain ⟨hg, h⟩ := m_ite h
    obtain ⟨a5, hq, h⟩ := m_bind h
    refine Ex_getF 2 (fun _ => rfl) hg hq ?_
    obtain ⟨hg, h⟩ := m_ite h
    refine Ex_ifg 2 (fun _ => rfl) hg.1 hg.2 ?_
    refine Ex_br 7 (0 ≤ (s.1 a5 x5.toNatClampNeg)) (fun _ => rfl) (fun hc6 => ?_) (fun hc6 => ?_)
    · rw [if_pos hc6] at h
      exact T_X6_value_32_33_j69_31 D t w z a0_ x1 x4 x5 (s.1 a5 x5.toNatClampNeg) ((-1) - (s.1 a5 x5.toNatClampNeg)) s  _ h kc ke0
    · rw [if_neg hc6] at h
      refine Ex_br 3 (6 ≤ ((-1) - (s.1 a5 x5.toNatClampNeg))) (fun _ => rfl) (fun hc7 => ?_) (fun hc7 => ?_)
      · rw [if_pos hc7] at h
        refine Ex_br 3 ((s.1 a5 x5.toNatClampNeg) = (-13)) (fun _ => rfl) (fun hc8 => ?_) (fun hc8 => ?_)
        · rw [if_pos hc8] at h
          exact T_X6_value_32_33_j114_31 D t w z a0_ x1 x4 x5 (s.1 a5 x5.toNatClampNeg) s _ _ h kc ke0
        · rw [if_neg hc8] at h
          refine Ex_br 3 ((s.1 a5 x5.toNatClampNeg) = (-19)) (fun _ => rfl) (fun hc9 => ?_) (fun hc9 => ?_)
          · rw [if_pos hc9] at h
            exact T_X6_value_32_33_j114_31 D t w z a0_ x1 x4 x5 (s.1 a5 x5.toNatClampNeg) s _ _ h kc ke0
          · rw [if_neg hc9] at h
            refine Ex_br 3 (x4 < 2) (fun _ => rfl) (fun hc10 => ?_) (fun hc10 => ?_)
            · rw [if_pos hc10] at h
              exact T_X6_value_32_33_j172_31 D t w z a0_ x1 x4 x5 s _ _ _ h kc ke0
            · rw [if_neg hc10] at h
              obtain ⟨hg11, h⟩ := m_ite h
              refine Ex_gd 10 (fun _ => rfl) hg11 ?_
              obtain ⟨hg12, h⟩ := m_ite h
              refine Ex_gd 5 (fun _ => rfl) hg12 ?_
              refine Ex_call 1 (fun _ => rfl) (T_X6_ofTwo D t (s.1 a5 x5.toNatClampNeg) (s.1 33 (x4 - 2).toNatClampNeg) (s.1 33 (x4 - 1).toNatClampNeg) s _ rfl) rfl rfl ?_
              refine Ex_gd 1 (fun _ => rfl) hg11 ?_
              refine Ex_sti 1 (fun _ => rfl) ?_
              exact T_X6_value_32_33_j172_31 D t w z a0_ x1 (x4 + (-1)) x5 (sI s 33 (x4 - 2).toNatClampNeg (X6_ofTwo (s.1 a5 x5.toNatClampNeg) (s.1 33 (x4 - 2).toNatClampNeg) (s.1 33 (x4 - 1).toNatClampNeg))) _ _ _ h kc ke0
      · rw [if_neg hc7] at h
        exact T_X6_value_32_33_j69_31 D t w z a0_ x1 x4 x5 (s.1 a5 x5.toNatClampNeg) ((-1) - (s.1 a5 x5.toNatClampNeg)) s  _ h kc ke0

theorem T_X6_value_32_33_l31 (D : Nat) (t : mTX) (w : Option Value) (z : mSG) (a0_ : Nat) (x1 : Int32) (v : Int32 × Int32 × mSG) (e : mSG) (h : X6_value_32_33_l31 t a0_ x1 v = some e) (ke0 : ∀ y : mSG, e = y → ∀ (u0 u1 u2 u4 u5 u6 u7 : Option Value), Ex (Runs (D + 1)) cd_X6_value (w, z, LAY t) 178 [u0, u1, u2, some (.ref 33), u4, u5, u6, u7] [] y (LAY t)) : ∀ (u6 u7 : Option Value), Ex (Runs (D + 1)) cd_X6_value (w, z, LAY t) 31 [some (.ref a0_), some (.int x1), some (.ref 32), some (.ref 33), some (.int v.1), some (.int v.2.1), u6, u7] [] v.2.2 (LAY t) :=
  m_iter (P := fun v : Int32 × Int32 × mSG => ∀ (u6 u7 : Option Value), Ex (Runs (D + 1)) cd_X6_value (w, z, LAY t) 31 [some (.ref a0_), some (.int x1), some (.ref 32), some (.ref 33), some (.int v.1), some (.int v.2.1), u6, u7] [] v.2.2 (LAY t)) (Q := fun e : mSG => (∀ y : mSG, e = y → ∀ (u0 u1 u2 u4 u5 u6 u7 : Option Value), Ex (Runs (D + 1)) cd_X6_value (w, z, LAY t) 178 [u0, u1, u2, some (.ref 33), u4, u5, u6, u7] [] y (LAY t))) (fun x o hx kc kq u6 u7 => T_X6_value_32_33_b31 D t w z a0_ x1 x.1 x.2.1 x.2.2 u6 u7 o hx kc (fun e he => kq _ he e rfl)) mFU v e h ke0
set_option maxRecDepth 20000 in
theorem T_X6_value_32_33_j29 (D : Nat) (t : mTX) (a0_ : Nat) (x1 : Int32) (x4 : Int32) (p0 : Int32) (s : mSG) (u5 u6 u7 : Option Value) (o : Int32 × mSG) (h : X6_value_32_33_j29 t a0_ x1 x4 p0 s = some o)  : Ex (Runs (D + 1)) cd_X6_value (some (.int o.1), o.2, LAY t) 29 [some (.ref a0_), some (.int x1), some (.ref 32), some (.ref 33), some (.int x4), u5, u6, u7] [.int p0] s (LAY t) := by
  unfold X6_value_32_33_j29 at h
  refine Ex_sti 1 (fun _ => rfl) ?_
  obtain ⟨e31, hl, h⟩ := m_bind h
  refine T_X6_value_32_33_l31 D t (some (.int o.1)) o.2 a0_ x1  (x4, p0, s) _ hl (fun y0 hy0 => ?_) _ _
  · obtain ⟨e31, rfl⟩ : ∃ q, q = y0 := ⟨_, rfl⟩
    subst hy0
    intro vu0 vu1 vu2 vu4 vu5 vu6 vu7
    refine Ex_gd 3 (fun _ => rfl) rfl ?_
    obtain rfl := Option.some.inj h
    exact Ex_ret 1 (fun _ => rfl) rfl

set_option maxRecDepth 20000 in
theorem T_X6_value_32_33 (D : Nat) (t : mTX) (a0_ : Nat) (x1 : Int32) (s : mSG) (o : Int32 × mSG) (h : X6_value_32_33 t a0_ x1 s = some o) : Runs (D + 2) 70 [.ref a0_, .int x1, .ref 32, .ref 33] s (LAY t) (some (.int o.1), o.2, LAY t) := by
  refine Runs_mk (d := D + 1) rfl ?_
  show Ex (Runs (D + 1)) cd_X6_value (some (.int o.1), o.2, LAY t) 0 [some (.ref a0_), some (.int x1), some (.ref 32), some (.ref 33), none, none, none, none] [] s (LAY t)
  unfold X6_value_32_33 at h
  refine Ex_call 3 (fun _ => rfl) (T_X8_isWithin D t x1 2 s _ rfl) rfl rfl ?_
  refine Ex_brZ 1 (X8_isWithin x1 2) (fun _ => rfl) (fun hc => ?_) (fun hc => ?_)
  · rw [if_neg (m_nt hc)] at h
    obtain rfl := Option.some.inj h
    exact Ex_ret 2 (fun _ => rfl) rfl
  · rw [if_pos hc] at h
    refine Ex_br 4 (x1 = 0) (fun _ => rfl) (fun hc1 => ?_) (fun hc1 => ?_)
    · rw [if_pos hc1] at h
      refine Ex_sti 2 (fun _ => rfl) ?_
      exact T_X6_value_32_33_j29 D t a0_ x1 0 0 s _ _ _ _ h
    · rw [if_neg hc1] at h
      obtain ⟨hg, h⟩ := m_ite h
      obtain ⟨a2, hq, h⟩ := m_bind h
      refine Ex_getF 2 (fun _ => rfl) hg hq ?_
      obtain ⟨hg, h⟩ := m_ite h
      refine Ex_ifg 4 (fun _ => rfl) hg.1 hg.2 ?_
      exact T_X6_value_32_33_j29 D t a0_ x1 0 (s.1 a2 (x1 - 1).toNatClampNeg) s _ _ _ _ h

set_option maxRecDepth 20000 in
theorem T_X0_asked_31 (D : Nat) (t : mTX) (x1 : Int32) (x2 : Int32) (x3 : Int32) (x4 : Int32) (s : mSG) (o : Int32 × mSG) (h : X0_asked_31 t x1 x2 x3 x4 s = some o) : Runs (D + 3) 8 [.ref 31, .int x1, .int x2, .int x3, .int x4] s (LAY t) (some (.int o.1), o.2, LAY t) := by
  refine Runs_mk (d := D + 2) rfl ?_
  show Ex (Runs (D + 2)) cd_X0_asked (some (.int o.1), o.2, LAY t) 0 [some (.ref 31), some (.int x1), some (.int x2), some (.int x3), some (.int x4)] [] s (LAY t)
  unfold X0_asked_31 at h
  rcases m_opt_cases h with ⟨hq, h⟩ | ⟨a1, hq, h⟩
  · refine Ex_getQn 2 (fun _ => rfl) hq ?_
    obtain rfl := Option.some.inj h
    exact Ex_ret 3 (fun _ => rfl) rfl
  · refine Ex_getQ 2 (fun _ => rfl) hq ?_
    refine Ex_gd 6 (fun _ => rfl) rfl ?_
    refine Ex_gd 6 (fun _ => rfl) rfl ?_
    refine Ex_gd 6 (fun _ => rfl) rfl ?_
    refine Ex_gd 6 (fun _ => rfl) rfl ?_
    refine Ex_gd 5 (fun _ => rfl) rfl ?_
    refine Ex_gd 5 (fun _ => rfl) rfl ?_
    obtain ⟨a2, hq, h⟩ := m_bind h
    refine Ex_getQ 2 (fun _ => rfl) hq ?_
    obtain ⟨hk, h⟩ := m_ite h
    obtain ⟨r3, hr, h⟩ := m_bind h
    refine Ex_callK 6 (fun _ => rfl) ⟨hk, Nat.le_of_ble_eq_true rfl⟩ (T_X6_value_32_33 D t a2 x1 (sI (sI (sI (sI (sI (sI s 32 0 x4) 32 1 (s.1 31 7)) 32 2 (s.1 31 6)) 32 3 (s.1 31 8)) 32 4 x2) 32 5 x3) r3 hr) rfl rfl ?_
    refine Ex_call 3 (fun _ => rfl) (T_X8_bounded D t r3.1 0 99 r3.2 _ rfl) rfl rfl ?_
    obtain rfl := Option.some.inj h
    exact Ex_ret 1 (fun _ => rfl) rfl

set_option maxRecDepth 20000 in
theorem T_X0_wants_31 (D : Nat) (t : mTX) (x1 : Int32) (x2 : Int32) (x3 : Int32) (s : mSG) (o : Int32 × mSG) (h : X0_wants_31 t x1 x2 x3 s = some o) : Runs (D + 4) 3 [.ref 31, .int x1, .int x2, .int x3] s (LAY t) (some (.int o.1), o.2, LAY t) := by
  refine Runs_mk (d := D + 3) rfl ?_
  show Ex (Runs (D + 3)) cd_X0_wants (some (.int o.1), o.2, LAY t) 0 [some (.ref 31), some (.int x1), some (.int x2), some (.int x3)] [] s (LAY t)
  unfold X0_wants_31 at h
  obtain ⟨r1, hr, h⟩ := m_bind h
  refine Ex_call 6 (fun _ => rfl) (T_X0_asked_31 D t 0 x1 x2 x3 s r1 hr) rfl rfl ?_
  obtain rfl := Option.some.inj h
  exact Ex_ret 1 (fun _ => rfl) rfl

set_option maxRecDepth 20000 in
theorem T_X8_pooledFrom_j109_31 (D : Nat) (t : mTX) (w : Option Value) (z : mSG) (x1 : Int32) (x2 : Int32) (x3 : Int32) (x4 : Int32) (x5 : Int32) (s : mSG) (u6 : Option Value) (o : (Int32 × Int32 × mSG) ⊕ Int32 × mSG) (h : X8_pooledFrom_j109_31 t x1 x2 x3 x4 x5 s = some o) (kc : ∀ y : Int32 × Int32 × mSG, o = .inl y → ∀ (u6 : Option Value), Ex (Runs (D + 4)) cd_X8_pooledFrom (w, z, LAY t) 31 [some (.ref 6), some (.int x1), some (.int y.1), some (.int x3), some (.int x4), some (.int y.2.1), u6] [] y.2.2 (LAY t)) (ke0 : ∀ y : Int32 × mSG, o = .inr y → ∀ (u5 u6 : Option Value), Ex (Runs (D + 4)) cd_X8_pooledFrom (w, z, LAY t) 115 [some (.ref 6), some (.int x1), some (.int y.1), some (.int x3), some (.int x4), u5, u6] [] y.2 (LAY t)) : Ex (Runs (D + 4)) cd_X8_pooledFrom (w, z, LAY t) 109 [some (.ref 6), some (.int x1), some (.int x2), some (.int x3), some (.int x4), some (.int x5), u6] [] s (LAY t) := by
  unfold X8_pooledFrom_j109_31 at h
  refine Ex_sti 2 (fun _ => rfl) ?_
  obtain rfl := Option.some.inj h
  exact kc _ rfl _

set_option maxRecDepth 20000 in
theorem T_X8_pooledFrom_b31 (D : Nat) (t : mTX) (w : Option Value) (z : mSG) (x1 : Int32) (x3 : Int32) (x4 : Int32) (x2 : Int32) (x5 : Int32) (s : mSG) (u6 : Option Value) (o : (Int32 × Int32 × mSG) ⊕ Int32 × mSG) (h : X8_pooledFrom_b31 t x1 x3 x4 x2 x5 s = some o) (kc : ∀ y : Int32 × Int32 × mSG, o = .inl y → ∀ (u6 : Option Value), Ex (Runs (D + 4)) cd_X8_pooledFrom (w, z, LAY t) 31 [some (.ref 6), some (.int x1), some (.int y.1), some (.int x3), some (.int x4), some (.int y.2.1), u6] [] y.2.2 (LAY t)) (ke0 : ∀ y : Int32 × mSG, o = .inr y → ∀ (u5 u6 : Option Value), Ex (Runs (D + 4)) cd_X8_pooledFrom (w, z, LAY t) 115 [some (.ref 6), some (.int x1), some (.int y.1), some (.int x3), some (.int x4), u5, u6] [] y.2 (LAY t)) : Ex (Runs (D + 4)) cd_X8_pooledFrom (w, z, LAY t) 31 [some (.ref 6), some (.int x1), some (.int x2), some (.int x3), some (.int x4), some (.int x5), u6] [] s (LAY t) := by
  unfold X8_pooledFrom_b31 at h
  refine Ex_br 3 (8 ≤ x5) (fun _ => rfl) (fun hc2 => ?_) (fun hc2 => ?_)
  · rw [if_pos hc2] at h
    obtain rfl := Option.some.inj h
    exact ke0 _ rfl _ _
  · rw [if_neg hc2] at h
    obtain ⟨r3, hr, h⟩ := m_bind h
    refine Ex_call 5 (fun _ => rfl) (T_X5_mudBetween_7 D t x4 x5 s r3 hr) rfl rfl ?_
    refine Ex_br 7 (((x1 >>> (x4 &&& 31)) &&& 1) = 0) (fun _ => rfl) (fun hc4 => ?_) (fun hc4 => ?_)
    · rw [if_pos hc4] at h
      exact T_X8_pooledFrom_j109_31 D t w z x1 x2 x3 x4 x5 s _ _ h kc ke0
    · rw [if_neg hc4] at h
      refine Ex_br 2 (r3 = 0) (fun _ => rfl) (fun hc5 => ?_) (fun hc5 => ?_)
      · rw [if_pos hc5] at h
        refine Ex_sti 1 (fun _ => rfl) ?_
        exact T_X8_pooledFrom_j109_31 D t w z x1 x2 x3 x4 x5 s _ _ h kc ke0
      · rw [if_neg hc5] at h
        obtain ⟨r6, hr, h⟩ := m_bind h
        refine Ex_call 8 (fun _ => rfl) (T_X0_wants_28 D t x4 x5 r3 s r6 hr) rfl rfl ?_
        obtain ⟨r7, hr, h⟩ := m_bind h
        refine Ex_call 7 (fun _ => rfl) (T_X0_wants_31 D t x4 x5 r3 r6.2 r7 hr) rfl rfl ?_
        refine Ex_br 2 (x3 < ((r3 + r6.1) + r7.1)) (fun _ => rfl) (fun hc8 => ?_) (fun hc8 => ?_)
        · rw [if_pos hc8] at h
          exact T_X8_pooledFrom_j109_31 D t w z x1 x2 x3 x4 x5 r7.2 _ _ h kc ke0
        · rw [if_neg hc8] at h
          refine Ex_sti 6 (fun _ => rfl) ?_
          exact T_X8_pooledFrom_j109_31 D t w z x1 (x2 ||| (1 <<< (x5 &&& 31))) x3 x4 x5 r7.2 _ _ h kc ke0

theorem T_X8_pooledFrom_l31 (D : Nat) (t : mTX) (w : Option Value) (z : mSG) (x1 : Int32) (x3 : Int32) (x4 : Int32) (v : Int32 × Int32 × mSG) (e : Int32 × mSG) (h : X8_pooledFrom_l31 t x1 x3 x4 v = some e) (ke0 : ∀ y : Int32 × mSG, e = y → ∀ (u5 u6 : Option Value), Ex (Runs (D + 4)) cd_X8_pooledFrom (w, z, LAY t) 115 [some (.ref 6), some (.int x1), some (.int y.1), some (.int x3), some (.int x4), u5, u6] [] y.2 (LAY t)) : ∀ (u6 : Option Value), Ex (Runs (D + 4)) cd_X8_pooledFrom (w, z, LAY t) 31 [some (.ref 6), some (.int x1), some (.int v.1), some (.int x3), some (.int x4), some (.int v.2.1), u6] [] v.2.2 (LAY t) :=
  m_iter (P := fun v : Int32 × Int32 × mSG => ∀ (u6 : Option Value), Ex (Runs (D + 4)) cd_X8_pooledFrom (w, z, LAY t) 31 [some (.ref 6), some (.int x1), some (.int v.1), some (.int x3), some (.int x4), some (.int v.2.1), u6] [] v.2.2 (LAY t)) (Q := fun e : Int32 × mSG => (∀ y : Int32 × mSG, e = y → ∀ (u5 u6 : Option Value), Ex (Runs (D + 4)) cd_X8_pooledFrom (w, z, LAY t) 115 [some (.ref 6), some (.int x1), some (.int y.1), some (.int x3), some (.int x4), u5, u6] [] y.2 (LAY t))) (fun x o hx kc kq u6 => T_X8_pooledFrom_b31 D t w z x1 x3 x4 x.1 x.2.1 x.2.2 u6 o hx kc (fun e he => kq _ he e rfl)) mFU v e h ke0
set_option maxRecDepth 20000 in
theorem T_X8_pooledFrom_b21 (D : Nat) (t : mTX) (w : Option Value) (z : mSG) (x1 : Int32) (x3 : Int32) (x2 : Int32) (x4 : Int32) (s : mSG) (u5 u6 : Option Value) (o : (Int32 × Int32 × mSG) ⊕ Int32 × mSG) (h : X8_pooledFrom_b21 t x1 x3 x2 x4 s = some o) (kc : ∀ y : Int32 × Int32 × mSG, o = .inl y → ∀ (u5 u6 : Option Value), Ex (Runs (D + 4)) cd_X8_pooledFrom (w, z, LAY t) 21 [some (.ref 6), some (.int x1), some (.int y.1), some (.int x3), some (.int y.2.1), u5, u6] [] y.2.2 (LAY t)) (ke0 : ∀ y : Int32 × mSG, o = .inr y → ∀ (u0 u1 u3 u4 u5 u6 : Option Value), Ex (Runs (D + 4)) cd_X8_pooledFrom (w, z, LAY t) 121 [u0, u1, some (.int y.1), u3, u4, u5, u6] [] y.2 (LAY t)) : Ex (Runs (D + 4)) cd_X8_pooledFrom (w, z, LAY t) 21 [some (.ref 6), some (.int x1), some (.int x2), some (.int x3), some (.int x4), u5, u6] [] s (LAY t) := by
  unfold X8_pooledFrom_b21 at h
  refine Ex_br 3 (8 ≤ x4) (fun _ => rfl) (fun hc1 => ?_) (fun hc1 => ?_)
  · rw [if_pos hc1] at h
    obtain rfl := Option.some.inj h
    exact ke0 _ rfl _ _ _ _ _ _
  · rw [if_neg hc1] at h
    refine Ex_sti 2 (fun _ => rfl) ?_
    obtain ⟨e31, hl, h⟩ := m_bind h
    refine T_X8_pooledFrom_l31 D t w z x1 x3 x4  (x2, 0, s) _ hl (fun y0 hy0 => ?_) _
    · obtain ⟨e31, rfl⟩ : ∃ q, q = y0 := ⟨_, rfl⟩
      subst hy0
      intro vu5 vu6
      refine Ex_sti 2 (fun _ => rfl) ?_
      obtain rfl := Option.some.inj h
      exact kc _ rfl _ _

theorem T_X8_pooledFrom_l21 (D : Nat) (t : mTX) (w : Option Value) (z : mSG) (x1 : Int32) (x3 : Int32) (v : Int32 × Int32 × mSG) (e : Int32 × mSG) (h : X8_pooledFrom_l21 t x1 x3 v = some e) (ke0 : ∀ y : Int32 × mSG, e = y → ∀ (u0 u1 u3 u4 u5 u6 : Option Value), Ex (Runs (D + 4)) cd_X8_pooledFrom (w, z, LAY t) 121 [u0, u1, some (.int y.1), u3, u4, u5, u6] [] y.2 (LAY t)) : ∀ (u5 u6 : Option Value), Ex (Runs (D + 4)) cd_X8_pooledFrom (w, z, LAY t) 21 [some (.ref 6), some (.int x1), some (.int v.1), some (.int x3), some (.int v.2.1), u5, u6] [] v.2.2 (LAY t) :=
  m_iter (P := fun v : Int32 × Int32 × mSG => ∀ (u5 u6 : Option Value), Ex (Runs (D + 4)) cd_X8_pooledFrom (w, z, LAY t) 21 [some (.ref 6), some (.int x1), some (.int v.1), some (.int x3), some (.int v.2.1), u5, u6] [] v.2.2 (LAY t)) (Q := fun e : Int32 × mSG => (∀ y : Int32 × mSG, e = y → ∀ (u0 u1 u3 u4 u5 u6 : Option Value), Ex (Runs (D + 4)) cd_X8_pooledFrom (w, z, LAY t) 121 [u0, u1, some (.int y.1), u3, u4, u5, u6] [] y.2 (LAY t))) (fun x o hx kc kq u5 u6 => T_X8_pooledFrom_b21 D t w z x1 x3 x.1 x.2.1 x.2.2 u5 u6 o hx kc (fun e he => kq _ he e rfl)) mFU v e h ke0
set_option maxRecDepth 20000 in
theorem T_X8_pooledFrom (D : Nat) (t : mTX) (x1 : Int32) (s : mSG) (o : Int32 × mSG) (h : X8_pooledFrom t x1 s = some o) : Runs (D + 5) 118 [.ref 6, .int x1] s (LAY t) (some (.int o.1), o.2, LAY t) := by
  refine Runs_mk (d := D + 4) rfl ?_
  show Ex (Runs (D + 4)) cd_X8_pooledFrom (some (.int o.1), o.2, LAY t) 0 [some (.ref 6), some (.int x1), none, none, none, none, none] [] s (LAY t)
  unfold X8_pooledFrom at h
  refine Ex_call 5 (fun _ => rfl) (T_X0_reaches_28 (D + 1) t  s _ rfl) rfl rfl ?_
  refine Ex_call 3 (fun _ => rfl) (T_X0_reaches_31 (D + 1) t  s _ rfl) rfl rfl ?_
  refine Ex_sti 4 (fun _ => rfl) ?_
  obtain ⟨e21, hl, h⟩ := m_bind h
  refine T_X8_pooledFrom_l21 D t (some (.int o.1)) o.2 x1 ((X0_reaches_28 s) + (X0_reaches_31 s))  (0, 0, s) _ hl (fun y0 hy0 => ?_) _ _
  · obtain ⟨e21, rfl⟩ : ∃ q, q = y0 := ⟨_, rfl⟩
    subst hy0
    intro vu0 vu1 vu3 vu4 vu5 vu6
    obtain rfl := Option.some.inj h
    exact Ex_ret 2 (fun _ => rfl) rfl

