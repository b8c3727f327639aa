set_option maxRecDepth 20000 in
theorem T_X9_go (D : Nat) (t : mTX) (x1 : Int32) (x2 : Int32) (s : mSG) (o : Int32 × mSG) (h : X9_go x1 x2 s = some o) : Runs (D + 46) 195 [.ref 56, .int x1, .int x2] s (LAY t) (some (.int o.1), o.2, LAY t) := by
  refine Runs_mk (d := D + 45) rfl ?_
  show Ex (Runs (D + 45)) cd_X9_go (some (.int o.1), o.2, LAY t) 0 [some (.ref 56), some (.int x1), some (.int x2)] [] s (LAY t)
  unfold X9_go at h
  refine Ex_call 3 (fun _ => rfl) (T_X9_isOne (D + 43) t x1 s _ rfl) rfl rfl ?_
  refine Ex_brZ 1 (X9_isOne x1 s) (fun _ => rfl) (fun hc => ?_) (fun hc => ?_)
  · rw [if_neg (m_nt hc)] at h
    obtain rfl := Option.some.inj h
    exact Ex_ret 2 (fun _ => rfl) rfl
  · rw [if_pos hc] at h
    refine Ex_call 2 (fun _ => rfl) (T_X9_isStone (D + 43) t x2 s _ rfl) rfl rfl ?_
    refine Ex_brZ 1 (X9_isStone x2) (fun _ => rfl) (fun hc => ?_) (fun hc => ?_)
    · rw [if_neg (m_nt hc)] at h
      obtain rfl := Option.some.inj h
      exact Ex_ret 2 (fun _ => rfl) rfl
    · rw [if_pos hc] at h
      obtain ⟨r1, hr, h⟩ := m_bind h
      refine Ex_call 4 (fun _ => rfl) (T_X9_goes D t x1 x2 s r1 hr) rfl rfl ?_
      refine Ex_brZ 1 (r1.1) (fun _ => rfl) (fun hc => ?_) (fun hc => ?_)
      · rw [if_neg (m_nt hc)] at h
        obtain rfl := Option.some.inj h
        exact Ex_ret 2 (fun _ => rfl) rfl
      · rw [if_pos hc] at h
        obtain rfl := Option.some.inj h
        exact Ex_ret 4 (fun _ => rfl) rfl

set_option maxRecDepth 20000 in
theorem T_X9_leaves_j150_15 (D : Nat) (t : mTX) (w : Option Value) (z : mSG) (x1 : Int32) (x2 : Int32) (x3 : Int32) (x4 : Int32) (x5 : Int32) (x6 : Int32) (s : mSG) (u7 u8 u9 : Option Value) (o : (Int32 × mSG) ⊕ mSG) (h : X9_leaves_j150_15 x1 x2 x3 x4 x5 x6 s = some o) (kc : ∀ y : Int32 × mSG, o = .inl y → ∀ (u7 u8 u9 : Option Value), Ex (Runs (D + 44)) cd_X9_leaves (w, z, LAY t) 15 [some (.ref 56), some (.int x1), some (.int x2), some (.int x3), some (.int x4), some (.int x5), some (.int y.1), u7, u8, u9] [] y.2 (LAY t)) (ke0 : ∀ y : mSG, o = .inr y → ∀ (u0 u1 u2 u3 u4 u5 u6 u7 u8 u9 : Option Value), Ex (Runs (D + 44)) cd_X9_leaves (w, z, LAY t) 156 [u0, u1, u2, u3, u4, u5, u6, u7, u8, u9] [] y (LAY t)) : Ex (Runs (D + 44)) cd_X9_leaves (w, z, LAY t) 150 [some (.ref 56), some (.int x1), some (.int x2), some (.int x3), some (.int x4), some (.int x5), some (.int x6), u7, u8, u9] [] s (LAY t) := by
  unfold X9_leaves_j150_15 at h
  refine Ex_sti 2 (fun _ => rfl) ?_
  obtain rfl := Option.some.inj h
  exact kc _ rfl _ _ _

set_option maxRecDepth 20000 in
theorem T_X9_leaves_j132_15 (D : Nat) (t : mTX) (w : Option Value) (z : mSG) (x1 : Int32) (x2 : Int32) (x3 : Int32) (x4 : Int32) (x5 : Int32) (x6 : Int32) (x7 : Int32) (x8 : Int32) (x9 : Int32) (s : mSG) (o : (Int32 × mSG) ⊕ mSG) (h : X9_leaves_j132_15 x1 x2 x3 x4 x5 x6 x7 x8 x9 s = some o) (kc : ∀ y : Int32 × mSG, o = .inl y → ∀ (u7 u8 u9 : Option Value), Ex (Runs (D + 44)) cd_X9_leaves (w, z, LAY t) 15 [some (.ref 56), some (.int x1), some (.int x2), some (.int x3), some (.int x4), some (.int x5), some (.int y.1), u7, u8, u9] [] y.2 (LAY t)) (ke0 : ∀ y : mSG, o = .inr y → ∀ (u0 u1 u2 u3 u4 u5 u6 u7 u8 u9 : Option Value), Ex (Runs (D + 44)) cd_X9_leaves (w, z, LAY t) 156 [u0, u1, u2, u3, u4, u5, u6, u7, u8, u9] [] y (LAY t)) : Ex (Runs (D + 44)) cd_X9_leaves (w, z, LAY t) 132 [some (.ref 56), some (.int x1), some (.int x2), some (.int x3), some (.int x4), some (.int x5), some (.int x6), some (.int x7), some (.int x8), some (.int x9)] [] s (LAY t) := by
  unfold X9_leaves_j132_15 at h
  obtain ⟨hg11, h⟩ := m_ite h
  refine Ex_gd 5 (fun _ => rfl) hg11 ?_
  refine Ex_gd 5 (fun _ => rfl) hg11 ?_
  exact T_X9_leaves_j150_15 D t w z x1 x2 x3 x4 x5 x6 (sI (sI s 69 x8.toNatClampNeg x7) 70 x8.toNatClampNeg x9) _ _ _ _ h kc ke0

set_option maxRecDepth 20000 in
theorem T_X9_leaves_j94_15 (D : Nat) (t : mTX) (w : Option Value) (z : mSG) (x1 : Int32) (x2 : Int32) (x3 : Int32) (x4 : Int32) (x5 : Int32) (x6 : Int32) (x7 : Int32) (x8 : Int32) (p0 : Int32) (s : mSG) (u9 : Option Value) (o : (Int32 × mSG) ⊕ mSG) (h : X9_leaves_j94_15 x1 x2 x3 x4 x5 x6 x7 x8 p0 s = some o) (kc : ∀ y : Int32 × mSG, o = .inl y → ∀ (u7 u8 u9 : Option Value), Ex (Runs (D + 44)) cd_X9_leaves (w, z, LAY t) 15 [some (.ref 56), some (.int x1), some (.int x2), some (.int x3), some (.int x4), some (.int x5), some (.int y.1), u7, u8, u9] [] y.2 (LAY t)) (ke0 : ∀ y : mSG, o = .inr y → ∀ (u0 u1 u2 u3 u4 u5 u6 u7 u8 u9 : Option Value), Ex (Runs (D + 44)) cd_X9_leaves (w, z, LAY t) 156 [u0, u1, u2, u3, u4, u5, u6, u7, u8, u9] [] y (LAY t)) : Ex (Runs (D + 44)) cd_X9_leaves (w, z, LAY t) 94 [some (.ref 56), some (.int x1), some (.int x2), some (.int x3), some (.int x4), some (.int x5), some (.int x6), some (.int x7), some (.int x8), u9] [.int p0] s (LAY t) := by
  unfold X9_leaves_j94_15 at h
  obtain ⟨hg7, h⟩ := m_ite h
  refine Ex_gd 6 (fun _ => rfl) hg7 ?_
  refine Ex_br 1 (x7 < (s.1 69 x8.toNatClampNeg)) (fun _ => rfl) (fun hc8 => ?_) (fun hc8 => ?_)
  · rw [if_pos hc8] at h
    exact T_X9_leaves_j132_15 D t w z x1 x2 x3 x4 x5 x6 x7 x8 p0 s  _ h kc ke0
  · rw [if_neg hc8] at h
    refine Ex_gd 5 (fun _ => rfl) hg7 ?_
    refine Ex_br 1 (x7 = (s.1 69 x8.toNatClampNeg)) (fun _ => rfl) (fun hc9 => ?_) (fun hc9 => ?_)
    · rw [if_pos hc9] at h
      refine Ex_gd 5 (fun _ => rfl) hg7 ?_
      refine Ex_br 1 ((s.1 70 x8.toNatClampNeg) ≤ p0) (fun _ => rfl) (fun hc10 => ?_) (fun hc10 => ?_)
      · rw [if_pos hc10] at h
        exact T_X9_leaves_j150_15 D t w z x1 x2 x3 x4 x5 x6 s _ _ _ _ h kc ke0
      · rw [if_neg hc10] at h
        exact T_X9_leaves_j132_15 D t w z x1 x2 x3 x4 x5 x6 x7 x8 p0 s  _ h kc ke0
    · rw [if_neg hc9] at h
      exact T_X9_leaves_j150_15 D t w z x1 x2 x3 x4 x5 x6 s _ _ _ _ h kc ke0

set_option maxRecDepth 20000 in
theorem T_X9_leaves_b15 (D : Nat) (t : mTX) (w : Option Value) (z : mSG) (x1 : Int32) (x2 : Int32) (x3 : Int32) (x4 : Int32) (x5 : Int32) (x6 : Int32) (s : mSG) (u7 u8 u9 : Option Value) (o : (Int32 × mSG) ⊕ mSG) (h : X9_leaves_b15 x1 x2 x3 x4 x5 x6 s = some o) (kc : ∀ y : Int32 × mSG, o = .inl y → ∀ (u7 u8 u9 : Option Value), Ex (Runs (D + 44)) cd_X9_leaves (w, z, LAY t) 15 [some (.ref 56), some (.int x1), some (.int x2), some (.int x3), some (.int x4), some (.int x5), some (.int y.1), u7, u8, u9] [] y.2 (LAY t)) (ke0 : ∀ y : mSG, o = .inr y → ∀ (u0 u1 u2 u3 u4 u5 u6 u7 u8 u9 : Option Value), Ex (Runs (D + 44)) cd_X9_leaves (w, z, LAY t) 156 [u0, u1, u2, u3, u4, u5, u6, u7, u8, u9] [] y (LAY t)) : Ex (Runs (D + 44)) cd_X9_leaves (w, z, LAY t) 15 [some (.ref 56), some (.int x1), some (.int x2), some (.int x3), some (.int x4), some (.int x5), some (.int x6), u7, u8, u9] [] s (LAY t) := by
  unfold X9_leaves_b15 at h
  refine Ex_br 3 (8 ≤ x6) (fun _ => rfl) (fun hc1 => ?_) (fun hc1 => ?_)
  · rw [if_pos hc1] at h
    obtain rfl := Option.some.inj h
    exact ke0 _ rfl _ _ _ _ _ _ _ _ _ _
  · rw [if_neg hc1] at h
    obtain ⟨r2, hr, h⟩ := m_bind h
    refine Ex_call 7 (fun _ => rfl) (T_X9_canGo D t x1 x5 x3 x4 x6 s r2 hr) rfl rfl ?_
    refine Ex_brZ 1 (r2.1) (fun _ => rfl) (fun hc => ?_) (fun hc => ?_)
    · rw [if_neg (m_nt hc)] at h
      exact T_X9_leaves_j150_15 D t w z x1 x2 x3 x4 x5 x6 r2.2 _ _ _ _ h kc ke0
    · rw [if_pos hc] at h
      obtain ⟨hg3, h⟩ := m_ite h
      refine Ex_gd 4 (fun _ => rfl) hg3 ?_
      obtain ⟨r4, hr, h⟩ := m_bind h
      refine Ex_call 7 (fun _ => rfl) (T_X9_hoursOf D t x1 x5 x3 x4 x6 r2.2 r4 hr) rfl rfl ?_
      obtain ⟨r5, hr, h⟩ := m_bind h
      refine Ex_call 10 (fun _ => rfl) (T_X9_soaks (D + 42) t x1 x5 x3 r4.2 r5 hr) rfl rfl ?_
      refine Ex_gd 6 (fun _ => rfl) hg3 ?_
      refine Ex_br 1 ((r4.2.1 69 x2.toNatClampNeg) = 0) (fun _ => rfl) (fun hc6 => ?_) (fun hc6 => ?_)
      · rw [if_pos hc6] at h
        refine Ex_sti 2 (fun _ => rfl) ?_
        exact T_X9_leaves_j94_15 D t w z x1 x2 x3 x4 x5 x6 ((r2.2.1 69 x2.toNatClampNeg) + r4.1) ((10 * x6) + r5) x6 r4.2 _ _ h kc ke0
      · rw [if_neg hc6] at h
        refine Ex_gd 4 (fun _ => rfl) hg3 ?_
        exact T_X9_leaves_j94_15 D t w z x1 x2 x3 x4 x5 x6 ((r2.2.1 69 x2.toNatClampNeg) + r4.1) ((10 * x6) + r5) (r4.2.1 70 x2.toNatClampNeg) r4.2 _ _ h kc ke0

theorem T_X9_leaves_l15 (D : Nat) (t : mTX) (w : Option Value) (z : mSG) (x1 : Int32) (x2 : Int32) (x3 : Int32) (x4 : Int32) (x5 : Int32) (v : Int32 × mSG) (e : mSG) (h : X9_leaves_l15 x1 x2 x3 x4 x5 v = some e) (ke0 : ∀ y : mSG, e = y → ∀ (u0 u1 u2 u3 u4 u5 u6 u7 u8 u9 : Option Value), Ex (Runs (D + 44)) cd_X9_leaves (w, z, LAY t) 156 [u0, u1, u2, u3, u4, u5, u6, u7, u8, u9] [] y (LAY t)) : ∀ (u7 u8 u9 : Option Value), Ex (Runs (D + 44)) cd_X9_leaves (w, z, LAY t) 15 [some (.ref 56), some (.int x1), some (.int x2), some (.int x3), some (.int x4), some (.int x5), some (.int v.1), u7, u8, u9] [] v.2 (LAY t) :=
  m_iter (P := fun v : Int32 × mSG => ∀ (u7 u8 u9 : Option Value), Ex (Runs (D + 44)) cd_X9_leaves (w, z, LAY t) 15 [some (.ref 56), some (.int x1), some (.int x2), some (.int x3), some (.int x4), some (.int x5), some (.int v.1), u7, u8, u9] [] v.2 (LAY t)) (Q := fun e : mSG => (∀ y : mSG, e = y → ∀ (u0 u1 u2 u3 u4 u5 u6 u7 u8 u9 : Option Value), Ex (Runs (D + 44)) cd_X9_leaves (w, z, LAY t) 156 [u0, u1, u2, u3, u4, u5, u6, u7, u8, u9] [] y (LAY t))) (fun x o hx kc kq u7 u8 u9 => T_X9_leaves_b15 D t w z x1 x2 x3 x4 x5 x.1 x.2 u7 u8 u9 o hx kc (fun e he => kq _ he e rfl)) mFU v e h ke0
set_option maxRecDepth 20000 in
theorem T_X9_leaves (D : Nat) (t : mTX) (x1 : Int32) (x2 : Int32) (x3 : Int32) (s : mSG) (o : mSG) (h : X9_leaves x1 x2 x3 s = some o) : Runs (D + 45) 197 [.ref 56, .int x1, .int x2, .int x3] s (LAY t) (none, o, LAY t) := by
  refine Runs_mk (d := D + 44) rfl ?_
  show Ex (Runs (D + 44)) cd_X9_leaves (none, o, LAY t) 0 [some (.ref 56), some (.int x1), some (.int x2), some (.int x3), none, none, none, none, none, none] [] s (LAY t)
  unfold X9_leaves at h
  refine Ex_gd 3 (fun _ => rfl) (by decide) ?_
  refine Ex_gd 4 (fun _ => rfl) (by decide) ?_
  refine Ex_sti 3 (fun _ => rfl) ?_
  obtain ⟨e15, hl, h⟩ := m_bind h
  refine T_X9_leaves_l15 D t none o x1 x2 x3 (x2 / 10) (x2 - x2 / 10 * 10)  (0, s) _ hl (fun y0 hy0 => ?_) _ _ _
  · obtain ⟨e15, rfl⟩ : ∃ q, q = y0 := ⟨_, rfl⟩
    subst hy0
    intro vu0 vu1 vu2 vu3 vu4 vu5 vu6 vu7 vu8 vu9
    obtain rfl := Option.some.inj h
    exact Ex_ret 1 (fun _ => rfl) rfl

set_option maxRecDepth 20000 in
theorem T_X9_seeks_b3 (D : Nat) (t : mTX) (w : Option Value) (z : mSG) (x1 : Int32) (x2 : Int32) (x3 : Int32) (x4 : Int32) (s : mSG) (u5 u6 : Option Value) (o : (Int32 × mSG) ⊕ mSG) (h : X9_seeks_b3 x1 x2 x3 x4 s = some o) (kc : ∀ y : Int32 × mSG, o = .inl y → ∀ (u5 u6 : Option Value), Ex (Runs (D + 45)) cd_X9_seeks (w, z, LAY t) 3 [some (.ref 56), some (.int x1), some (.int x2), some (.int x3), some (.int y.1), u5, u6] [] y.2 (LAY t)) (ke0 : ∀ y : mSG, o = .inr y → ∀ (u4 u5 u6 : Option Value), Ex (Runs (D + 45)) cd_X9_seeks (w, z, LAY t) 42 [some (.ref 56), some (.int x1), some (.int x2), some (.int x3), u4, u5, u6] [] y (LAY t)) : Ex (Runs (D + 45)) cd_X9_seeks (w, z, LAY t) 3 [some (.ref 56), some (.int x1), some (.int x2), some (.int x3), some (.int x4), u5, u6] [] s (LAY t) := by
  unfold X9_seeks_b3 at h
  refine Ex_br 3 (80 ≤ x4) (fun _ => rfl) (fun hc1 => ?_) (fun hc1 => ?_)
  · rw [if_pos hc1] at h
    obtain rfl := Option.some.inj h
    exact ke0 _ rfl _ _ _
  · rw [if_neg hc1] at h
    obtain ⟨hg2, h⟩ := m_ite h
    refine Ex_gd 5 (fun _ => rfl) hg2 ?_
    refine Ex_gd 5 (fun _ => rfl) hg2 ?_
    refine Ex_gd 5 (fun _ => rfl) hg2 ?_
    refine Ex_sti 2 (fun _ => rfl) ?_
    obtain rfl := Option.some.inj h
    exact kc _ rfl _ _

theorem T_X9_seeks_l3 (D : Nat) (t : mTX) (w : Option Value) (z : mSG) (x1 : Int32) (x2 : Int32) (x3 : Int32) (v : Int32 × mSG) (e : mSG) (h : X9_seeks_l3 x1 x2 x3 v = some e) (ke0 : ∀ y : mSG, e = y → ∀ (u4 u5 u6 : Option Value), Ex (Runs (D + 45)) cd_X9_seeks (w, z, LAY t) 42 [some (.ref 56), some (.int x1), some (.int x2), some (.int x3), u4, u5, u6] [] y (LAY t)) : ∀ (u5 u6 : Option Value), Ex (Runs (D + 45)) cd_X9_seeks (w, z, LAY t) 3 [some (.ref 56), some (.int x1), some (.int x2), some (.int x3), some (.int v.1), u5, u6] [] v.2 (LAY t) :=
  m_iter (P := fun v : Int32 × mSG => ∀ (u5 u6 : Option Value), Ex (Runs (D + 45)) cd_X9_seeks (w, z, LAY t) 3 [some (.ref 56), some (.int x1), some (.int x2), some (.int x3), some (.int v.1), u5, u6] [] v.2 (LAY t)) (Q := fun e : mSG => (∀ y : mSG, e = y → ∀ (u4 u5 u6 : Option Value), Ex (Runs (D + 45)) cd_X9_seeks (w, z, LAY t) 42 [some (.ref 56), some (.int x1), some (.int x2), some (.int x3), u4, u5, u6] [] y (LAY t))) (fun x o hx kc kq u5 u6 => T_X9_seeks_b3 D t w z x1 x2 x3 x.1 x.2 u5 u6 o hx kc (fun e he => kq _ he e rfl)) mFU v e h ke0
set_option maxRecDepth 20000 in
theorem T_X9_seeks_j135_78 (D : Nat) (t : mTX) (w : Option Value) (z : mSG) (x1 : Int32) (x2 : Int32) (x3 : Int32) (x5 : Int32) (x6 : Int32) (s : mSG) (u4 : Option Value) (o : (Int32 × Int32) ⊕ Int32) (h : X9_seeks_j135_78 x1 x2 x3 x5 x6 s = some o) (kc : ∀ y : Int32 × Int32, o = .inl y → ∀ (u4 : Option Value), Ex (Runs (D + 45)) cd_X9_seeks (w, z, LAY t) 78 [some (.ref 56), some (.int x1), some (.int x2), some (.int x3), u4, some (.int y.1), some (.int y.2)] [] s (LAY t)) (ke0 : ∀ y : Int32, o = .inr y → ∀ (u4 u6 : Option Value), Ex (Runs (D + 45)) cd_X9_seeks (w, z, LAY t) 141 [some (.ref 56), some (.int x1), some (.int x2), some (.int x3), u4, some (.int y), u6] [] s (LAY t)) : Ex (Runs (D + 45)) cd_X9_seeks (w, z, LAY t) 135 [some (.ref 56), some (.int x1), some (.int x2), some (.int x3), u4, some (.int x5), some (.int x6)] [] s (LAY t) := by
  unfold X9_seeks_j135_78 at h
  refine Ex_sti 2 (fun _ => rfl) ?_
  obtain rfl := Option.some.inj h
  exact kc _ rfl _

set_option maxRecDepth 20000 in
theorem T_X9_seeks_j131_78 (D : Nat) (t : mTX) (w : Option Value) (z : mSG) (x1 : Int32) (x2 : Int32) (x3 : Int32) (x6 : Int32) (s : mSG) (u4 u5 : Option Value) (o : (Int32 × Int32) ⊕ Int32) (h : X9_seeks_j131_78 x1 x2 x3 x6 s = some o) (kc : ∀ y : Int32 × Int32, o = .inl y → ∀ (u4 : Option Value), Ex (Runs (D + 45)) cd_X9_seeks (w, z, LAY t) 78 [some (.ref 56), some (.int x1), some (.int x2), some (.int x3), u4, some (.int y.1), some (.int y.2)] [] s (LAY t)) (ke0 : ∀ y : Int32, o = .inr y → ∀ (u4 u6 : Option Value), Ex (Runs (D + 45)) cd_X9_seeks (w, z, LAY t) 141 [some (.ref 56), some (.int x1), some (.int x2), some (.int x3), u4, some (.int y), u6] [] s (LAY t)) : Ex (Runs (D + 45)) cd_X9_seeks (w, z, LAY t) 131 [some (.ref 56), some (.int x1), some (.int x2), some (.int x3), u4, u5, some (.int x6)] [] s (LAY t) := by
  unfold X9_seeks_j131_78 at h
  refine Ex_sti 2 (fun _ => rfl) ?_
  exact T_X9_seeks_j135_78 D t w z x1 x2 x3 x6 x6 s _ _ h kc ke0

set_option maxRecDepth 20000 in
theorem T_X9_seeks_b78 (D : Nat) (t : mTX) (w : Option Value) (z : mSG) (x1 : Int32) (x2 : Int32) (x3 : Int32) (x5 : Int32) (x6 : Int32) (s : mSG) (u4 : Option Value) (o : (Int32 × Int32) ⊕ Int32) (h : X9_seeks_b78 x1 x2 x3 x5 x6 s = some o) (kc : ∀ y : Int32 × Int32, o = .inl y → ∀ (u4 : Option Value), Ex (Runs (D + 45)) cd_X9_seeks (w, z, LAY t) 78 [some (.ref 56), some (.int x1), some (.int x2), some (.int x3), u4, some (.int y.1), some (.int y.2)] [] s (LAY t)) (ke0 : ∀ y : Int32, o = .inr y → ∀ (u4 u6 : Option Value), Ex (Runs (D + 45)) cd_X9_seeks (w, z, LAY t) 141 [some (.ref 56), some (.int x1), some (.int x2), some (.int x3), u4, some (.int y), u6] [] s (LAY t)) : Ex (Runs (D + 45)) cd_X9_seeks (w, z, LAY t) 78 [some (.ref 56), some (.int x1), some (.int x2), some (.int x3), u4, some (.int x5), some (.int x6)] [] s (LAY t) := by
  unfold X9_seeks_b78 at h
  refine Ex_br 3 (80 ≤ x6) (fun _ => rfl) (fun hc6 => ?_) (fun hc6 => ?_)
  · rw [if_pos hc6] at h
    obtain rfl := Option.some.inj h
    exact ke0 _ rfl _ _
  · rw [if_neg hc6] at h
    obtain ⟨hg7, h⟩ := m_ite h
    refine Ex_gd 4 (fun _ => rfl) hg7 ?_
    refine Ex_br 1 ((s.1 71 x6.toNatClampNeg) = 0) (fun _ => rfl) (fun hc8 => ?_) (fun hc8 => ?_)
    · rw [if_pos hc8] at h
      refine Ex_gd 4 (fun _ => rfl) hg7 ?_
      refine Ex_br 2 (99999999 ≤ (s.1 69 x6.toNatClampNeg)) (fun _ => rfl) (fun hc9 => ?_) (fun hc9 => ?_)
      · rw [if_pos hc9] at h
        exact T_X9_seeks_j135_78 D t w z x1 x2 x3 x5 x6 s _ _ h kc ke0
      · rw [if_neg hc9] at h
        refine Ex_br 3 (x5 = (-1)) (fun _ => rfl) (fun hc10 => ?_) (fun hc10 => ?_)
        · rw [if_pos hc10] at h
          exact T_X9_seeks_j131_78 D t w z x1 x2 x3 x6 s _ _ _ h kc ke0
        · rw [if_neg hc10] at h
          refine Ex_gd 4 (fun _ => rfl) hg7 ?_
          obtain ⟨hg11, h⟩ := m_ite h
          refine Ex_gd 4 (fun _ => rfl) hg11 ?_
          refine Ex_br 1 ((s.1 69 x5.toNatClampNeg) ≤ (s.1 69 x6.toNatClampNeg)) (fun _ => rfl) (fun hc12 => ?_) (fun hc12 => ?_)
          · rw [if_pos hc12] at h
            exact T_X9_seeks_j135_78 D t w z x1 x2 x3 x5 x6 s _ _ h kc ke0
          · rw [if_neg hc12] at h
            exact T_X9_seeks_j131_78 D t w z x1 x2 x3 x6 s _ _ _ h kc ke0
    · rw [if_neg hc8] at h
      exact T_X9_seeks_j135_78 D t w z x1 x2 x3 x5 x6 s _ _ h kc ke0

theorem T_X9_seeks_l78 (D : Nat) (t : mTX) (w : Option Value) (z : mSG) (x1 : Int32) (x2 : Int32) (x3 : Int32) (s : mSG) (v : Int32 × Int32) (e : Int32) (h : X9_seeks_l78 x1 x2 x3 s v = some e) (ke0 : ∀ y : Int32, e = y → ∀ (u4 u6 : Option Value), Ex (Runs (D + 45)) cd_X9_seeks (w, z, LAY t) 141 [some (.ref 56), some (.int x1), some (.int x2), some (.int x3), u4, some (.int y), u6] [] s (LAY t)) : ∀ (u4 : Option Value), Ex (Runs (D + 45)) cd_X9_seeks (w, z, LAY t) 78 [some (.ref 56), some (.int x1), some (.int x2), some (.int x3), u4, some (.int v.1), some (.int v.2)] [] s (LAY t) :=
  m_iter (P := fun v : Int32 × Int32 => ∀ (u4 : Option Value), Ex (Runs (D + 45)) cd_X9_seeks (w, z, LAY t) 78 [some (.ref 56), some (.int x1), some (.int x2), some (.int x3), u4, some (.int v.1), some (.int v.2)] [] s (LAY t)) (Q := fun e : Int32 => (∀ y : Int32, e = y → ∀ (u4 u6 : Option Value), Ex (Runs (D + 45)) cd_X9_seeks (w, z, LAY t) 141 [some (.ref 56), some (.int x1), some (.int x2), some (.int x3), u4, some (.int y), u6] [] s (LAY t))) (fun x o hx kc kq u4 => T_X9_seeks_b78 D t w z x1 x2 x3 x.1 x.2 s u4 o hx kc (fun e he => kq _ he e rfl)) mFU v e h ke0
set_option maxRecDepth 20000 in
theorem T_X9_seeks_j175_67 (D : Nat) (t : mTX) (w : Option Value) (z : mSG) (x1 : Int32) (x2 : Int32) (x3 : Int32) (x4 : Int32) (s : mSG) (u5 u6 : Option Value) (o : (Int32 × mSG) ⊕ mSG) (h : X9_seeks_j175_67 x1 x2 x3 x4 s = some o) (kc : ∀ y : Int32 × mSG, o = .inl y → ∀ (u5 u6 : Option Value), Ex (Runs (D + 45)) cd_X9_seeks (w, z, LAY t) 67 [some (.ref 56), some (.int x1), some (.int x2), some (.int x3), some (.int y.1), u5, u6] [] y.2 (LAY t)) (ke0 : ∀ y : mSG, o = .inr y → ∀ (u1 u3 u4 u5 u6 : Option Value), Ex (Runs (D + 45)) cd_X9_seeks (w, z, LAY t) 178 [some (.ref 56), u1, some (.int x2), u3, u4, u5, u6] [] y (LAY t)) : Ex (Runs (D + 45)) cd_X9_seeks (w, z, LAY t) 175 [some (.ref 56), some (.int x1), some (.int x2), some (.int x3), some (.int x4), u5, u6] [] s (LAY t) := by
  unfold X9_seeks_j175_67 at h
  refine Ex_sti 1 (fun _ => rfl) ?_
  obtain rfl := Option.some.inj h
  exact kc _ rfl _ _

set_option maxRecDepth 20000 in
theorem T_X9_seeks_j152_67 (D : Nat) (t : mTX) (w : Option Value) (z : mSG) (x1 : Int32) (x2 : Int32) (x3 : Int32) (x5 : Int32) (p0 : Int32) (s : mSG) (u4 u6 : Option Value) (o : (Int32 × mSG) ⊕ mSG) (h : X9_seeks_j152_67 x1 x2 x3 x5 p0 s = some o) (kc : ∀ y : Int32 × mSG, o = .inl y → ∀ (u5 u6 : Option Value), Ex (Runs (D + 45)) cd_X9_seeks (w, z, LAY t) 67 [some (.ref 56), some (.int x1), some (.int x2), some (.int x3), some (.int y.1), u5, u6] [] y.2 (LAY t)) (ke0 : ∀ y : mSG, o = .inr y → ∀ (u1 u3 u4 u5 u6 : Option Value), Ex (Runs (D + 45)) cd_X9_seeks (w, z, LAY t) 178 [some (.ref 56), u1, some (.int x2), u3, u4, u5, u6] [] y (LAY t)) : Ex (Runs (D + 45)) cd_X9_seeks (w, z, LAY t) 152 [some (.ref 56), some (.int x1), some (.int x2), some (.int x3), u4, some (.int x5), u6] [.int p0] s (LAY t) := by
  unfold X9_seeks_j152_67 at h
  refine Ex_br 3 (p0 = 0) (fun _ => rfl) (fun hc14 => ?_) (fun hc14 => ?_)
  · rw [if_pos hc14] at h
    exact T_X9_seeks_j175_67 D t w z x1 x2 x3 p0 s _ _ _ h kc ke0
  · rw [if_neg hc14] at h
    obtain ⟨hg15, h⟩ := m_ite h
    refine Ex_gd 5 (fun _ => rfl) hg15 ?_
    obtain ⟨r16, hr, h⟩ := m_bind h
    refine Ex_call 5 (fun _ => rfl) (T_X9_leaves D t x1 x5 x3 (sI s 71 x5.toNatClampNeg 1) r16 hr) rfl rfl ?_
    exact T_X9_seeks_j175_67 D t w z x1 x2 x3 p0 r16 _ _ _ h kc ke0

set_option maxRecDepth 20000 in
theorem T_X9_seeks_b67 (D : Nat) (t : mTX) (w : Option Value) (z : mSG) (x1 : Int32) (x2 : Int32) (x3 : Int32) (x4 : Int32) (s : mSG) (u5 u6 : Option Value) (o : (Int32 × mSG) ⊕ mSG) (h : X9_seeks_b67 x1 x2 x3 x4 s = some o) (kc : ∀ y : Int32 × mSG, o = .inl y → ∀ (u5 u6 : Option Value), Ex (Runs (D + 45)) cd_X9_seeks (w, z, LAY t) 67 [some (.ref 56), some (.int x1), some (.int x2), some (.int x3), some (.int y.1), u5, u6] [] y.2 (LAY t)) (ke0 : ∀ y : mSG, o = .inr y → ∀ (u1 u3 u4 u5 u6 : Option Value), Ex (Runs (D + 45)) cd_X9_seeks (w, z, LAY t) 178 [some (.ref 56), u1, some (.int x2), u3, u4, u5, u6] [] y (LAY t)) : Ex (Runs (D + 45)) cd_X9_seeks (w, z, LAY t) 67 [some (.ref 56), some (.int x1), some (.int x2), some (.int x3), some (.int x4), u5, u6] [] s (LAY t) := by
  unfold X9_seeks_b67 at h
  refine Ex_br 2 (x4 = 0) (fun _ => rfl) (fun hc5 => ?_) (fun hc5 => ?_)
  · rw [if_pos hc5] at h
    obtain rfl := Option.some.inj h
    exact ke0 _ rfl _ _ _ _ _
  · rw [if_neg hc5] at h
    refine Ex_sti 4 (fun _ => rfl) ?_
    obtain ⟨e78, hl, h⟩ := m_bind h
    refine T_X9_seeks_l78 D t w z x1 x2 x3 s ((-1), 0) _ hl (fun y0 hy0 => ?_) _
    · obtain ⟨e78, rfl⟩ : ∃ q, q = y0 := ⟨_, rfl⟩
      subst hy0
      intro vu4 vu6
      refine Ex_br 3 (e78 = (-1)) (fun _ => rfl) (fun hc17 => ?_) (fun hc17 => ?_)
      · rw [if_pos hc17] at h
        refine Ex_sti 1 (fun _ => rfl) ?_
        exact T_X9_seeks_j152_67 D t w z x1 x2 x3 e78 0 s _ _ _ h kc ke0
      · rw [if_neg hc17] at h
        refine Ex_sti 2 (fun _ => rfl) ?_
        exact T_X9_seeks_j152_67 D t w z x1 x2 x3 e78 1 s _ _ _ h kc ke0

theorem T_X9_seeks_l67 (D : Nat) (t : mTX) (w : Option Value) (z : mSG) (x1 : Int32) (x2 : Int32) (x3 : Int32) (v : Int32 × mSG) (e : mSG) (h : X9_seeks_l67 x1 x2 x3 v = some e) (ke0 : ∀ y : mSG, e = y → ∀ (u1 u3 u4 u5 u6 : Option Value), Ex (Runs (D + 45)) cd_X9_seeks (w, z, LAY t) 178 [some (.ref 56), u1, some (.int x2), u3, u4, u5, u6] [] y (LAY t)) : ∀ (u5 u6 : Option Value), Ex (Runs (D + 45)) cd_X9_seeks (w, z, LAY t) 67 [some (.ref 56), some (.int x1), some (.int x2), some (.int x3), some (.int v.1), u5, u6] [] v.2 (LAY t) :=
  m_iter (P := fun v : Int32 × mSG => ∀ (u5 u6 : Option Value), Ex (Runs (D + 45)) cd_X9_seeks (w, z, LAY t) 67 [some (.ref 56), some (.int x1), some (.int x2), some (.int x3), some (.int v.1), u5, u6] [] v.2 (LAY t)) (Q := fun e : mSG => (∀ y : mSG, e = y → ∀ (u1 u3 u4 u5 u6 : Option Value), Ex (Runs (D + 45)) cd_X9_seeks (w, z, LAY t) 178 [some (.ref 56), u1, some (.int x2), u3, u4, u5, u6] [] y (LAY t))) (fun x o hx kc kq u5 u6 => T_X9_seeks_b67 D t w z x1 x2 x3 x.1 x.2 u5 u6 o hx kc (fun e he => kq _ he e rfl)) mFU v e h ke0
set_option maxRecDepth 20000 in
theorem T_X9_seeks_j291_194 (D : Nat) (t : mTX) (w : Option Value) (z : mSG) (x2 : Int32) (x5 : Int32) (s : mSG) (u1 u3 u4 u6 : Option Value) (o : (Int32 × mSG) ⊕ mSG) (h : X9_seeks_j291_194 x2 x5 s = some o) (kc : ∀ y : Int32 × mSG, o = .inl y → ∀ (u1 u3 u4 u6 : Option Value), Ex (Runs (D + 45)) cd_X9_seeks (w, z, LAY t) 194 [some (.ref 56), u1, some (.int x2), u3, u4, some (.int y.1), u6] [] y.2 (LAY t)) (ke0 : ∀ y : mSG, o = .inr y → ∀ (u0 u1 u2 u3 u4 u5 u6 : Option Value), Ex (Runs (D + 45)) cd_X9_seeks (w, z, LAY t) 297 [u0, u1, u2, u3, u4, u5, u6] [] y (LAY t)) : Ex (Runs (D + 45)) cd_X9_seeks (w, z, LAY t) 291 [some (.ref 56), u1, some (.int x2), u3, u4, some (.int x5), u6] [] s (LAY t) := by
  unfold X9_seeks_j291_194 at h
  refine Ex_sti 2 (fun _ => rfl) ?_
  obtain rfl := Option.some.inj h
  exact kc _ rfl _ _ _ _

set_option maxRecDepth 20000 in
theorem T_X9_seeks_j269_194 (D : Nat) (t : mTX) (w : Option Value) (z : mSG) (x2 : Int32) (x5 : Int32) (s : mSG) (u1 u3 u4 u6 : Option Value) (o : (Int32 × mSG) ⊕ mSG) (h : X9_seeks_j269_194 x2 x5 s = some o) (kc : ∀ y : Int32 × mSG, o = .inl y → ∀ (u1 u3 u4 u6 : Option Value), Ex (Runs (D + 45)) cd_X9_seeks (w, z, LAY t) 194 [some (.ref 56), u1, some (.int x2), u3, u4, some (.int y.1), u6] [] y.2 (LAY t)) (ke0 : ∀ y : mSG, o = .inr y → ∀ (u0 u1 u2 u3 u4 u5 u6 : Option Value), Ex (Runs (D + 45)) cd_X9_seeks (w, z, LAY t) 297 [u0, u1, u2, u3, u4, u5, u6] [] y (LAY t)) : Ex (Runs (D + 45)) cd_X9_seeks (w, z, LAY t) 269 [some (.ref 56), u1, some (.int x2), u3, u4, some (.int x5), u6] [] s (LAY t) := by
  unfold X9_seeks_j269_194 at h
  obtain ⟨hg25, h⟩ := m_ite h
  refine Ex_gd 5 (fun _ => rfl) hg25 ?_
  refine Ex_gd 6 (fun _ => rfl) hg25 ?_
  refine Ex_sti 1 (fun _ => rfl) ?_
  exact T_X9_seeks_j291_194 D t w z x2 x5 (sI (sI s 56 36 (s.1 69 x5.toNatClampNeg)) 56 37 (s.1 70 x5.toNatClampNeg)) _ _ _ _ _ h kc ke0

set_option maxRecDepth 20000 in
theorem T_X9_seeks_b194 (D : Nat) (t : mTX) (w : Option Value) (z : mSG) (x2 : Int32) (x5 : Int32) (s : mSG) (u1 u3 u4 u6 : Option Value) (o : (Int32 × mSG) ⊕ mSG) (h : X9_seeks_b194 x2 x5 s = some o) (kc : ∀ y : Int32 × mSG, o = .inl y → ∀ (u1 u3 u4 u6 : Option Value), Ex (Runs (D + 45)) cd_X9_seeks (w, z, LAY t) 194 [some (.ref 56), u1, some (.int x2), u3, u4, some (.int y.1), u6] [] y.2 (LAY t)) (ke0 : ∀ y : mSG, o = .inr y → ∀ (u0 u1 u2 u3 u4 u5 u6 : Option Value), Ex (Runs (D + 45)) cd_X9_seeks (w, z, LAY t) 297 [u0, u1, u2, u3, u4, u5, u6] [] y (LAY t)) : Ex (Runs (D + 45)) cd_X9_seeks (w, z, LAY t) 194 [some (.ref 56), u1, some (.int x2), u3, u4, some (.int x5), u6] [] s (LAY t) := by
  unfold X9_seeks_b194 at h
  refine Ex_br 7 (((10 * x2) + 10) ≤ x5) (fun _ => rfl) (fun hc18 => ?_) (fun hc18 => ?_)
  · rw [if_pos hc18] at h
    obtain rfl := Option.some.inj h
    exact ke0 _ rfl _ _ _ _ _ _ _
  · rw [if_neg hc18] at h
    obtain ⟨hg19, h⟩ := m_ite h
    refine Ex_gd 4 (fun _ => rfl) hg19 ?_
    refine Ex_br 2 (99999999 ≤ (s.1 69 x5.toNatClampNeg)) (fun _ => rfl) (fun hc20 => ?_) (fun hc20 => ?_)
    · rw [if_pos hc20] at h
      exact T_X9_seeks_j291_194 D t w z x2 x5 s _ _ _ _ _ h kc ke0
    · rw [if_neg hc20] at h
      refine Ex_br 4 ((s.1 56 36) = (-1)) (fun _ => rfl) (fun hc21 => ?_) (fun hc21 => ?_)
      · rw [if_pos hc21] at h
        exact T_X9_seeks_j269_194 D t w z x2 x5 s _ _ _ _ _ h kc ke0
      · rw [if_neg hc21] at h
        refine Ex_gd 4 (fun _ => rfl) hg19 ?_
        refine Ex_br 3 ((s.1 69 x5.toNatClampNeg) < (s.1 56 36)) (fun _ => rfl) (fun hc22 => ?_) (fun hc22 => ?_)
        · rw [if_pos hc22] at h
          exact T_X9_seeks_j269_194 D t w z x2 x5 s _ _ _ _ _ h kc ke0
        · rw [if_neg hc22] at h
          refine Ex_gd 4 (fun _ => rfl) hg19 ?_
          refine Ex_br 3 ((s.1 69 x5.toNatClampNeg) = (s.1 56 36)) (fun _ => rfl) (fun hc23 => ?_) (fun hc23 => ?_)
          · rw [if_pos hc23] at h
            refine Ex_gd 4 (fun _ => rfl) hg19 ?_
            refine Ex_br 3 ((s.1 56 37) ≤ (s.1 70 x5.toNatClampNeg)) (fun _ => rfl) (fun hc24 => ?_) (fun hc24 => ?_)
            · rw [if_pos hc24] at h
              exact T_X9_seeks_j291_194 D t w z x2 x5 s _ _ _ _ _ h kc ke0
            · rw [if_neg hc24] at h
              exact T_X9_seeks_j269_194 D t w z x2 x5 s _ _ _ _ _ h kc ke0
          · rw [if_neg hc23] at h
            exact T_X9_seeks_j291_194 D t w z x2 x5 s _ _ _ _ _ h kc ke0

theorem T_X9_seeks_l194 (D : Nat) (t : mTX) (w : Option Value) (z : mSG) (x2 : Int32) (v : Int32 × mSG) (e : mSG) (h : X9_seeks_l194 x2 v = some e) (ke0 : ∀ y : mSG, e = y → ∀ (u0 u1 u2 u3 u4 u5 u6 : Option Value), Ex (Runs (D + 45)) cd_X9_seeks (w, z, LAY t) 297 [u0, u1, u2, u3, u4, u5, u6] [] y (LAY t)) : ∀ (u1 u3 u4 u6 : Option Value), Ex (Runs (D + 45)) cd_X9_seeks (w, z, LAY t) 194 [some (.ref 56), u1, some (.int x2), u3, u4, some (.int v.1), u6] [] v.2 (LAY t) :=
  m_iter (P := fun v : Int32 × mSG => ∀ (u1 u3 u4 u6 : Option Value), Ex (Runs (D + 45)) cd_X9_seeks (w, z, LAY t) 194 [some (.ref 56), u1, some (.int x2), u3, u4, some (.int v.1), u6] [] v.2 (LAY t)) (Q := fun e : mSG => (∀ y : mSG, e = y → ∀ (u0 u1 u2 u3 u4 u5 u6 : Option Value), Ex (Runs (D + 45)) cd_X9_seeks (w, z, LAY t) 297 [u0, u1, u2, u3, u4, u5, u6] [] y (LAY t))) (fun x o hx kc kq u1 u3 u4 u6 => T_X9_seeks_b194 D t w z x2 x.1 x.2 u1 u3 u4 u6 o hx kc (fun e he => kq _ he e rfl)) mFU v e h ke0
set_option maxRecDepth 20000 in
theorem T_X9_seeks (D : Nat) (t : mTX) (x1 : Int32) (x2 : Int32) (x3 : Int32) (s : mSG) (o : mSG) (h : X9_seeks x1 x2 x3 s = some o) : Runs (D + 46) 196 [.ref 56, .int x1, .int x2, .int x3] s (LAY t) (none, o, LAY t) := by
  refine Runs_mk (d := D + 45) rfl ?_
  show Ex (Runs (D + 45)) cd_X9_seeks (none, o, LAY t) 0 [some (.ref 56), some (.int x1), some (.int x2), some (.int x3), none, none, none] [] s (LAY t)
  unfold X9_seeks at h
  refine Ex_sti 2 (fun _ => rfl) ?_
  obtain ⟨e3, hl, h⟩ := m_bind h
  refine T_X9_seeks_l3 D t none o x1 x2 x3  (0, s) _ hl (fun y0 hy0 => ?_) _ _
  · obtain ⟨e3, rfl⟩ : ∃ q, q = y0 := ⟨_, rfl⟩
    subst hy0
    intro vu4 vu5 vu6
    obtain ⟨hg26, h⟩ := m_ite h
    refine Ex_gd 7 (fun _ => rfl) hg26 ?_
    refine Ex_gd 5 (fun _ => rfl) hg26 ?_
    obtain ⟨hg27, h⟩ := m_ite h
    refine Ex_gd 3 (fun _ => rfl) hg27 ?_
    refine Ex_sti 2 (fun _ => rfl) ?_
    obtain ⟨e67, hl, h⟩ := m_bind h
    refine T_X9_seeks_l67 D t none o x1 x2 x3  (1, sI e3 69 ((10 * (e3.1 65 x1.toNatClampNeg)) + (e3.1 66 x1.toNatClampNeg)).toNatClampNeg 0) _ hl (fun y0 hy0 => ?_) _ _
    · obtain ⟨e67, rfl⟩ : ∃ q, q = y0 := ⟨_, rfl⟩
      subst hy0
      intro vu1 vu3 vu4 vu5 vu6
      refine Ex_sti 10 (fun _ => rfl) ?_
      obtain ⟨e194, hl, h⟩ := m_bind h
      refine T_X9_seeks_l194 D t none o x2  (10 * x2, sI (sI e67 56 36 (-1)) 56 37 (-1)) _ hl (fun y0 hy0 => ?_) _ _ _ _
      · obtain ⟨e194, rfl⟩ : ∃ q, q = y0 := ⟨_, rfl⟩
        subst hy0
        intro vu0 vu1 vu2 vu3 vu4 vu5 vu6
        obtain rfl := Option.some.inj h
        exact Ex_ret 1 (fun _ => rfl) rfl

set_option maxRecDepth 20000 in
theorem T_X9_soonest (D : Nat) (t : mTX) (x1 : Int32) (x2 : Int32) (x3 : Int32) (s : mSG) (o : Int32 × mSG) (h : X9_soonest x1 x2 x3 s = some o) : Runs (D + 47) 198 [.ref 56, .int x1, .int x2, .int x3] s (LAY t) (some (.int o.1), o.2, LAY t) := by
  refine Runs_mk (d := D + 46) rfl ?_
  show Ex (Runs (D + 46)) cd_X9_soonest (some (.int o.1), o.2, LAY t) 0 [some (.ref 56), some (.int x1), some (.int x2), some (.int x3)] [] s (LAY t)
  unfold X9_soonest at h
  refine Ex_call 3 (fun _ => rfl) (T_X9_isOne (D + 44) t x1 s _ rfl) rfl rfl ?_
  refine Ex_brZ 1 (X9_isOne x1 s) (fun _ => rfl) (fun hc => ?_) (fun hc => ?_)
  · rw [if_neg (m_nt hc)] at h
    obtain rfl := Option.some.inj h
    exact Ex_ret 2 (fun _ => rfl) rfl
  · rw [if_pos hc] at h
    refine Ex_call 2 (fun _ => rfl) (T_X9_isStone (D + 44) t x2 s _ rfl) rfl rfl ?_
    refine Ex_brZ 1 (X9_isStone x2) (fun _ => rfl) (fun hc => ?_) (fun hc => ?_)
    · rw [if_neg (m_nt hc)] at h
      obtain rfl := Option.some.inj h
      exact Ex_ret 2 (fun _ => rfl) rfl
    · rw [if_pos hc] at h
      refine Ex_call 5 (fun _ => rfl) (T_X9_in (D + 45) t x3.toInt64 0 1 s _ rfl) rfl rfl ?_
      refine Ex_brZ 1 (X9_in x3.toInt64 0 1) (fun _ => rfl) (fun hc => ?_) (fun hc => ?_)
      · rw [if_neg (m_nt hc)] at h
        obtain rfl := Option.some.inj h
        exact Ex_ret 2 (fun _ => rfl) rfl
      · rw [if_pos hc] at h
        obtain ⟨r1, hr, h⟩ := m_bind h
        refine Ex_call 7 (fun _ => rfl) (T_X9_rainAt (D + 45) t (s.1 56 16) s r1 hr) rfl rfl ?_
        obtain ⟨r2, hr, h⟩ := m_bind h
        refine Ex_call 1 (fun _ => rfl) (T_X9_seeks D t x1 x2 r1 s r2 hr) rfl rfl ?_
        refine Ex_br 2 (x3 = 0) (fun _ => rfl) (fun hc3 => ?_) (fun hc3 => ?_)
        · rw [if_pos hc3] at h
          obtain rfl := Option.some.inj h
          exact Ex_ret 4 (fun _ => rfl) rfl
        · rw [if_neg hc3] at h
          obtain rfl := Option.some.inj h
          exact Ex_ret 3 (fun _ => rfl) rfl

set_option maxRecDepth 20000 in
theorem T_X9_together_b87 (D : Nat) (t : mTX) (w : Option Value) (z : mSG) (x1 : Int32) (x2 : Int32) (x3 : Int32) (x4 : Int32) (x5 : Int32) (x6 : Int32) (s : mSG) (u7 u8 u9 u10 : Option Value) (o : (Int32 × mSG) ⊕ mSG) (h : X9_together_b87 x1 x2 x3 x4 x5 x6 s = some o) (kc : ∀ y : Int32 × mSG, o = .inl y → ∀ (u7 u8 u9 u10 : Option Value), Ex (Runs (D + 43)) cd_X9_together (w, z, LAY t) 87 [some (.ref 56), some (.int x1), some (.int x2), some (.int x3), some (.int x4), some (.int x5), some (.int y.1), u7, u8, u9, u10] [] y.2 (LAY t)) (ke0 : ∀ y : mSG, o = .inr y → ∀ (u6 u7 u8 u9 u10 : Option Value), Ex (Runs (D + 43)) cd_X9_together (w, z, LAY t) 108 [some (.ref 56), some (.int x1), some (.int x2), some (.int x3), some (.int x4), some (.int x5), u6, u7, u8, u9, u10] [] y (LAY t)) : Ex (Runs (D + 43)) cd_X9_together (w, z, LAY t) 87 [some (.ref 56), some (.int x1), some (.int x2), some (.int x3), some (.int x4), some (.int x5), some (.int x6), u7, u8, u9, u10] [] s (LAY t) := by
  unfold X9_together_b87 at h
  refine Ex_br 3 (8 ≤ x6) (fun _ => rfl) (fun hc8 => ?_) (fun hc8 => ?_)
  · rw [if_pos hc8] at h
    obtain rfl := Option.some.inj h
    exact ke0 _ rfl _ _ _ _ _
  · rw [if_neg hc8] at h
    obtain ⟨hg9, h⟩ := m_ite h
    refine Ex_gd 5 (fun _ => rfl) hg9 ?_
    refine Ex_sti 2 (fun _ => rfl) ?_
    obtain rfl := Option.some.inj h
    exact kc _ rfl _ _ _ _

theorem T_X9_together_l87 (D : Nat) (t : mTX) (w : Option Value) (z : mSG) (x1 : Int32) (x2 : Int32) (x3 : Int32) (x4 : Int32) (x5 : Int32) (v : Int32 × mSG) (e : mSG) (h : X9_together_l87 x1 x2 x3 x4 x5 v = some e) (ke0 : ∀ y : mSG, e = y → ∀ (u6 u7 u8 u9 u10 : Option Value), Ex (Runs (D + 43)) cd_X9_together (w, z, LAY t) 108 [some (.ref 56), some (.int x1), some (.int x2), some (.int x3), some (.int x4), some (.int x5), u6, u7, u8, u9, u10] [] y (LAY t)) : ∀ (u7 u8 u9 u10 : Option Value), Ex (Runs (D + 43)) cd_X9_together (w, z, LAY t) 87 [some (.ref 56), some (.int x1), some (.int x2), some (.int x3), some (.int x4), some (.int x5), some (.int v.1), u7, u8, u9, u10] [] v.2 (LAY t) :=
  m_iter (P := fun v : Int32 × mSG => ∀ (u7 u8 u9 u10 : Option Value), Ex (Runs (D + 43)) cd_X9_together (w, z, LAY t) 87 [some (.ref 56), some (.int x1), some (.int x2), some (.int x3), some (.int x4), some (.int x5), some (.int v.1), u7, u8, u9, u10] [] v.2 (LAY t)) (Q := fun e : mSG => (∀ y : mSG, e = y → ∀ (u6 u7 u8 u9 u10 : Option Value), Ex (Runs (D + 43)) cd_X9_together (w, z, LAY t) 108 [some (.ref 56), some (.int x1), some (.int x2), some (.int x3), some (.int x4), some (.int x5), u6, u7, u8, u9, u10] [] y (LAY t))) (fun x o hx kc kq u7 u8 u9 u10 => T_X9_together_b87 D t w z x1 x2 x3 x4 x5 x.1 x.2 u7 u8 u9 u10 o hx kc (fun e he => kq _ he e rfl)) mFU v e h ke0
set_option maxRecDepth 20000 in
theorem T_X9_together_j260_143 (D : Nat) (t : mTX) (w : Option Value) (z : mSG) (x1 : Int32) (x2 : Int32) (x3 : Int32) (x4 : Int32) (x5 : Int32) (x6 : Int32) (x7 : Int32) (x8 : Int32) (s : mSG) (u9 u10 : Option Value) (o : (Int32 × mSG) ⊕ mSG) (h : X9_together_j260_143 x1 x2 x3 x4 x5 x6 x7 x8 s = some o) (kc : ∀ y : Int32 × mSG, o = .inl y → ∀ (u9 u10 : Option Value), Ex (Runs (D + 43)) cd_X9_together (w, z, LAY t) 143 [some (.ref 56), some (.int x1), some (.int x2), some (.int x3), some (.int x4), some (.int x5), some (.int x6), some (.int x7), some (.int y.1), u9, u10] [] y.2 (LAY t)) (ke0 : ∀ y : mSG, o = .inr y → ∀ (u8 u9 u10 : Option Value), Ex (Runs (D + 43)) cd_X9_together (w, z, LAY t) 266 [some (.ref 56), some (.int x1), some (.int x2), some (.int x3), some (.int x4), some (.int x5), some (.int x6), some (.int x7), u8, u9, u10] [] y (LAY t)) : Ex (Runs (D + 43)) cd_X9_together (w, z, LAY t) 260 [some (.ref 56), some (.int x1), some (.int x2), some (.int x3), some (.int x4), some (.int x5), some (.int x6), some (.int x7), some (.int x8), u9, u10] [] s (LAY t) := by
  unfold X9_together_j260_143 at h
  refine Ex_sti 2 (fun _ => rfl) ?_
  obtain rfl := Option.some.inj h
  exact kc _ rfl _ _

set_option maxRecDepth 20000 in
theorem T_X9_together_b143 (D : Nat) (t : mTX) (w : Option Value) (z : mSG) (x1 : Int32) (x2 : Int32) (x3 : Int32) (x4 : Int32) (x5 : Int32) (x6 : Int32) (x7 : Int32) (x8 : Int32) (s : mSG) (u9 u10 : Option Value) (o : (Int32 × mSG) ⊕ mSG) (h : X9_together_b143 x1 x2 x3 x4 x5 x6 x7 x8 s = some o) (kc : ∀ y : Int32 × mSG, o = .inl y → ∀ (u9 u10 : Option Value), Ex (Runs (D + 43)) cd_X9_together (w, z, LAY t) 143 [some (.ref 56), some (.int x1), some (.int x2), some (.int x3), some (.int x4), some (.int x5), some (.int x6), some (.int x7), some (.int y.1), u9, u10] [] y.2 (LAY t)) (ke0 : ∀ y : mSG, o = .inr y → ∀ (u8 u9 u10 : Option Value), Ex (Runs (D + 43)) cd_X9_together (w, z, LAY t) 266 [some (.ref 56), some (.int x1), some (.int x2), some (.int x3), some (.int x4), some (.int x5), some (.int x6), some (.int x7), u8, u9, u10] [] y (LAY t)) : Ex (Runs (D + 43)) cd_X9_together (w, z, LAY t) 143 [some (.ref 56), some (.int x1), some (.int x2), some (.int x3), some (.int x4), some (.int x5), some (.int x6), some (.int x7), some (.int x8), u9, u10] [] s (LAY t) := by
  unfold X9_together_b143 at h
  refine Ex_br 3 (8 ≤ x8) (fun _ => rfl) (fun hc13 => ?_) (fun hc13 => ?_)
  · rw [if_pos hc13] at h
    obtain rfl := Option.some.inj h
    exact ke0 _ rfl _ _ _
  · rw [if_neg hc13] at h
    obtain ⟨hg14, h⟩ := m_ite h
    refine Ex_gd 4 (fun _ => rfl) hg14 ?_
    refine Ex_br 2 ((s.1 72 x7.toNatClampNeg) = x6) (fun _ => rfl) (fun hc15 => ?_) (fun hc15 => ?_)
    · rw [if_pos hc15] at h
      obtain ⟨hg16, h⟩ := m_ite h
      refine Ex_gd 8 (fun _ => rfl) hg16 ?_
      refine Ex_br 4 (x7 = x8) (fun _ => rfl) (fun hc17 => ?_) (fun hc17 => ?_)
      · rw [if_pos hc17] at h
        exact T_X9_together_j260_143 D t w z x1 x2 x3 x4 x5 x6 x7 x8 s _ _ _ h kc ke0
      · rw [if_neg hc17] at h
        refine Ex_br 2 ((s.1 60 ((8 * x7) + x8).toNatClampNeg) ≤ 0) (fun _ => rfl) (fun hc18 => ?_) (fun hc18 => ?_)
        · rw [if_pos hc18] at h
          exact T_X9_together_j260_143 D t w z x1 x2 x3 x4 x5 x6 x7 x8 s _ _ _ h kc ke0
        · rw [if_neg hc18] at h
          obtain ⟨hg19, h⟩ := m_ite h
          refine Ex_gd 4 (fun _ => rfl) hg19 ?_
          refine Ex_br 2 ((s.1 72 x8.toNatClampNeg) = (-1)) (fun _ => rfl) (fun hc20 => ?_) (fun hc20 => ?_)
          · rw [if_pos hc20] at h
            obtain ⟨hg21, h⟩ := m_ite h
            refine Ex_gd 8 (fun _ => rfl) hg21 ?_
            obtain ⟨r22, hr, h⟩ := m_bind h
            refine Ex_call 4 (fun _ => rfl) (T_X9_says D t 0 x1 (s.1 66 x1.toNatClampNeg) x4 x7 x8 s r22 hr) rfl rfl ?_
            obtain ⟨hg23, h⟩ := m_ite h
            refine Ex_gd 8 (fun _ => rfl) hg23 ?_
            obtain ⟨r24, hr, h⟩ := m_bind h
            refine Ex_call 4 (fun _ => rfl) (T_X9_says D t 0 x2 (r22.2.1 66 x2.toNatClampNeg) x4 x7 x8 r22.2 r24 hr) rfl rfl ?_
            refine Ex_br 5 (x5 < (((s.1 60 ((8 * x7) + x8).toNatClampNeg) + r22.1) + r24.1)) (fun _ => rfl) (fun hc25 => ?_) (fun hc25 => ?_)
            · rw [if_pos hc25] at h
              exact T_X9_together_j260_143 D t w z x1 x2 x3 x4 x5 x6 x7 x8 r24.2 _ _ _ h kc ke0
            · rw [if_neg hc25] at h
              refine Ex_gd 7 (fun _ => rfl) hg19 ?_
              exact T_X9_together_j260_143 D t w z x1 x2 x3 x4 x5 x6 x7 x8 (sI r24.2 72 x8.toNatClampNeg (x6 + 1)) _ _ _ h kc ke0
          · rw [if_neg hc20] at h
            exact T_X9_together_j260_143 D t w z x1 x2 x3 x4 x5 x6 x7 x8 s _ _ _ h kc ke0
    · rw [if_neg hc15] at h
      obtain rfl := Option.some.inj h
      exact ke0 _ rfl _ _ _

theorem T_X9_together_l143 (D : Nat) (t : mTX) (w : Option Value) (z : mSG) (x1 : Int32) (x2 : Int32) (x3 : Int32) (x4 : Int32) (x5 : Int32) (x6 : Int32) (x7 : Int32) (v : Int32 × mSG) (e : mSG) (h : X9_together_l143 x1 x2 x3 x4 x5 x6 x7 v = some e) (ke0 : ∀ y : mSG, e = y → ∀ (u8 u9 u10 : Option Value), Ex (Runs (D + 43)) cd_X9_together (w, z, LAY t) 266 [some (.ref 56), some (.int x1), some (.int x2), some (.int x3), some (.int x4), some (.int x5), some (.int x6), some (.int x7), u8, u9, u10] [] y (LAY t)) : ∀ (u9 u10 : Option Value), Ex (Runs (D + 43)) cd_X9_together (w, z, LAY t) 143 [some (.ref 56), some (.int x1), some (.int x2), some (.int x3), some (.int x4), some (.int x5), some (.int x6), some (.int x7), some (.int v.1), u9, u10] [] v.2 (LAY t) :=
  m_iter (P := fun v : Int32 × mSG => ∀ (u9 u10 : Option Value), Ex (Runs (D + 43)) cd_X9_together (w, z, LAY t) 143 [some (.ref 56), some (.int x1), some (.int x2), some (.int x3), some (.int x4), some (.int x5), some (.int x6), some (.int x7), some (.int v.1), u9, u10] [] v.2 (LAY t)) (Q := fun e : mSG => (∀ y : mSG, e = y → ∀ (u8 u9 u10 : Option Value), Ex (Runs (D + 43)) cd_X9_together (w, z, LAY t) 266 [some (.ref 56), some (.int x1), some (.int x2), some (.int x3), some (.int x4), some (.int x5), some (.int x6), some (.int x7), u8, u9, u10] [] y (LAY t))) (fun x o hx kc kq u9 u10 => T_X9_together_b143 D t w z x1 x2 x3 x4 x5 x6 x7 x.1 x.2 u9 u10 o hx kc (fun e he => kq _ he e rfl)) mFU v e h ke0
set_option maxRecDepth 20000 in
theorem T_X9_together_j266_133 (D : Nat) (t : mTX) (w : Option Value) (z : mSG) (x1 : Int32) (x2 : Int32) (x3 : Int32) (x4 : Int32) (x5 : Int32) (x6 : Int32) (x7 : Int32) (s : mSG) (u8 u9 u10 : Option Value) (o : (Int32 × mSG) ⊕ mSG) (h : X9_together_j266_133 x1 x2 x3 x4 x5 x6 x7 s = some o) (kc : ∀ y : Int32 × mSG, o = .inl y → ∀ (u8 u9 u10 : Option Value), Ex (Runs (D + 43)) cd_X9_together (w, z, LAY t) 133 [some (.ref 56), some (.int x1), some (.int x2), some (.int x3), some (.int x4), some (.int x5), some (.int x6), some (.int y.1), u8, u9, u10] [] y.2 (LAY t)) (ke0 : ∀ y : mSG, o = .inr y → ∀ (u7 u8 u9 u10 : Option Value), Ex (Runs (D + 43)) cd_X9_together (w, z, LAY t) 272 [some (.ref 56), some (.int x1), some (.int x2), some (.int x3), some (.int x4), some (.int x5), some (.int x6), u7, u8, u9, u10] [] y (LAY t)) : Ex (Runs (D + 43)) cd_X9_together (w, z, LAY t) 266 [some (.ref 56), some (.int x1), some (.int x2), some (.int x3), some (.int x4), some (.int x5), some (.int x6), some (.int x7), u8, u9, u10] [] s (LAY t) := by
  unfold X9_together_j266_133 at h
  refine Ex_sti 2 (fun _ => rfl) ?_
  obtain rfl := Option.some.inj h
  exact kc _ rfl _ _ _

set_option maxRecDepth 20000 in
theorem T_X9_together_b133 (D : Nat) (t : mTX) (w : Option Value) (z : mSG) (x1 : Int32) (x2 : Int32) (x3 : Int32) (x4 : Int32) (x5 : Int32) (x6 : Int32) (x7 : Int32) (s : mSG) (u8 u9 u10 : Option Value) (o : (Int32 × mSG) ⊕ mSG) (h : X9_together_b133 x1 x2 x3 x4 x5 x6 x7 s = some o) (kc : ∀ y : Int32 × mSG, o = .inl y → ∀ (u8 u9 u10 : Option Value), Ex (Runs (D + 43)) cd_X9_together (w, z, LAY t) 133 [some (.ref 56), some (.int x1), some (.int x2), some (.int x3), some (.int x4), some (.int x5), some (.int x6), some (.int y.1), u8, u9, u10] [] y.2 (LAY t)) (ke0 : ∀ y : mSG, o = .inr y → ∀ (u7 u8 u9 u10 : Option Value), Ex (Runs (D + 43)) cd_X9_together (w, z, LAY t) 272 [some (.ref 56), some (.int x1), some (.int x2), some (.int x3), some (.int x4), some (.int x5), some (.int x6), u7, u8, u9, u10] [] y (LAY t)) : Ex (Runs (D + 43)) cd_X9_together (w, z, LAY t) 133 [some (.ref 56), some (.int x1), some (.int x2), some (.int x3), some (.int x4), some (.int x5), some (.int x6), some (.int x7), u8, u9, u10] [] s (LAY t) := by
  unfold X9_together_b133 at h
  refine Ex_br 3 (8 ≤ x7) (fun _ => rfl) (fun hc12 => ?_) (fun hc12 => ?_)
  · rw [if_pos hc12] at h
    obtain rfl := Option.some.inj h
    exact ke0 _ rfl _ _ _ _
  · rw [if_neg hc12] at h
    refine Ex_sti 2 (fun _ => rfl) ?_
    obtain ⟨e143, hl, h⟩ := m_bind h
    refine T_X9_together_l143 D t w z x1 x2 x3 x4 x5 x6 x7  (0, s) _ hl (fun y0 hy0 => ?_) _ _
    · obtain ⟨e143, rfl⟩ : ∃ q, q = y0 := ⟨_, rfl⟩
      subst hy0
      intro vu8 vu9 vu10
      exact T_X9_together_j266_133 D t w z x1 x2 x3 x4 x5 x6 x7 e143 _ _ _ _ h kc ke0

theorem T_X9_together_l133 (D : Nat) (t : mTX) (w : Option Value) (z : mSG) (x1 : Int32) (x2 : Int32) (x3 : Int32) (x4 : Int32) (x5 : Int32) (x6 : Int32) (v : Int32 × mSG) (e : mSG) (h : X9_together_l133 x1 x2 x3 x4 x5 x6 v = some e) (ke0 : ∀ y : mSG, e = y → ∀ (u7 u8 u9 u10 : Option Value), Ex (Runs (D + 43)) cd_X9_together (w, z, LAY t) 272 [some (.ref 56), some (.int x1), some (.int x2), some (.int x3), some (.int x4), some (.int x5), some (.int x6), u7, u8, u9, u10] [] y (LAY t)) : ∀ (u8 u9 u10 : Option Value), Ex (Runs (D + 43)) cd_X9_together (w, z, LAY t) 133 [some (.ref 56), some (.int x1), some (.int x2), some (.int x3), some (.int x4), some (.int x5), some (.int x6), some (.int v.1), u8, u9, u10] [] v.2 (LAY t) :=
  m_iter (P := fun v : Int32 × mSG => ∀ (u8 u9 u10 : Option Value), Ex (Runs (D + 43)) cd_X9_together (w, z, LAY t) 133 [some (.ref 56), some (.int x1), some (.int x2), some (.int x3), some (.int x4), some (.int x5), some (.int x6), some (.int v.1), u8, u9, u10] [] v.2 (LAY t)) (Q := fun e : mSG => (∀ y : mSG, e = y → ∀ (u7 u8 u9 u10 : Option Value), Ex (Runs (D + 43)) cd_X9_together (w, z, LAY t) 272 [some (.ref 56), some (.int x1), some (.int x2), some (.int x3), some (.int x4), some (.int x5), some (.int x6), u7, u8, u9, u10] [] y (LAY t))) (fun x o hx kc kq u8 u9 u10 => T_X9_together_b133 D t w z x1 x2 x3 x4 x5 x6 x.1 x.2 u8 u9 u10 o hx kc (fun e he => kq _ he e rfl)) mFU v e h ke0
set_option maxRecDepth 20000 in
theorem T_X9_together_b123 (D : Nat) (t : mTX) (w : Option Value) (z : mSG) (x1 : Int32) (x2 : Int32) (x3 : Int32) (x4 : Int32) (x5 : Int32) (x6 : Int32) (s : mSG) (u7 u8 u9 u10 : Option Value) (o : (Int32 × mSG) ⊕ mSG) (h : X9_together_b123 x1 x2 x3 x4 x5 x6 s = some o) (kc : ∀ y : Int32 × mSG, o = .inl y → ∀ (u7 u8 u9 u10 : Option Value), Ex (Runs (D + 43)) cd_X9_together (w, z, LAY t) 123 [some (.ref 56), some (.int x1), some (.int x2), some (.int x3), some (.int x4), some (.int x5), some (.int y.1), u7, u8, u9, u10] [] y.2 (LAY t)) (ke0 : ∀ y : mSG, o = .inr y → ∀ (u1 u2 u4 u5 u6 u7 u8 u9 u10 : Option Value), Ex (Runs (D + 43)) cd_X9_together (w, z, LAY t) 278 [some (.ref 56), u1, u2, some (.int x3), u4, u5, u6, u7, u8, u9, u10] [] y (LAY t)) : Ex (Runs (D + 43)) cd_X9_together (w, z, LAY t) 123 [some (.ref 56), some (.int x1), some (.int x2), some (.int x3), some (.int x4), some (.int x5), some (.int x6), u7, u8, u9, u10] [] s (LAY t) := by
  unfold X9_together_b123 at h
  refine Ex_br 3 (8 ≤ x6) (fun _ => rfl) (fun hc11 => ?_) (fun hc11 => ?_)
  · rw [if_pos hc11] at h
    obtain rfl := Option.some.inj h
    exact ke0 _ rfl _ _ _ _ _ _ _ _ _
  · rw [if_neg hc11] at h
    refine Ex_sti 2 (fun _ => rfl) ?_
    obtain ⟨e133, hl, h⟩ := m_bind h
    refine T_X9_together_l133 D t w z x1 x2 x3 x4 x5 x6  (0, s) _ hl (fun y0 hy0 => ?_) _ _ _
    · obtain ⟨e133, rfl⟩ : ∃ q, q = y0 := ⟨_, rfl⟩
      subst hy0
      intro vu7 vu8 vu9 vu10
      refine Ex_sti 2 (fun _ => rfl) ?_
      obtain rfl := Option.some.inj h
      exact kc _ rfl _ _ _ _

theorem T_X9_together_l123 (D : Nat) (t : mTX) (w : Option Value) (z : mSG) (x1 : Int32) (x2 : Int32) (x3 : Int32) (x4 : Int32) (x5 : Int32) (v : Int32 × mSG) (e : mSG) (h : X9_together_l123 x1 x2 x3 x4 x5 v = some e) (ke0 : ∀ y : mSG, e = y → ∀ (u1 u2 u4 u5 u6 u7 u8 u9 u10 : Option Value), Ex (Runs (D + 43)) cd_X9_together (w, z, LAY t) 278 [some (.ref 56), u1, u2, some (.int x3), u4, u5, u6, u7, u8, u9, u10] [] y (LAY t)) : ∀ (u7 u8 u9 u10 : Option Value), Ex (Runs (D + 43)) cd_X9_together (w, z, LAY t) 123 [some (.ref 56), some (.int x1), some (.int x2), some (.int x3), some (.int x4), some (.int x5), some (.int v.1), u7, u8, u9, u10] [] v.2 (LAY t) :=
  m_iter (P := fun v : Int32 × mSG => ∀ (u7 u8 u9 u10 : Option Value), Ex (Runs (D + 43)) cd_X9_together (w, z, LAY t) 123 [some (.ref 56), some (.int x1), some (.int x2), some (.int x3), some (.int x4), some (.int x5), some (.int v.1), u7, u8, u9, u10] [] v.2 (LAY t)) (Q := fun e : mSG => (∀ y : mSG, e = y → ∀ (u1 u2 u4 u5 u6 u7 u8 u9 u10 : Option Value), Ex (Runs (D + 43)) cd_X9_together (w, z, LAY t) 278 [some (.ref 56), u1, u2, some (.int x3), u4, u5, u6, u7, u8, u9, u10] [] y (LAY t))) (fun x o hx kc kq u7 u8 u9 u10 => T_X9_together_b123 D t w z x1 x2 x3 x4 x5 x.1 x.2 u7 u8 u9 u10 o hx kc (fun e he => kq _ he e rfl)) mFU v e h ke0
set_option maxRecDepth 20000 in
theorem T_X9_together (D : Nat) (t : mTX) (x1 : Int32) (x2 : Int32) (x3 : Int32) (s : mSG) (o : Int32 × mSG) (h : X9_together x1 x2 x3 s = some o) : Runs (D + 44) 199 [.ref 56, .int x1, .int x2, .int x3] s (LAY t) (some (.int o.1), o.2, LAY t) := by
  refine Runs_mk (d := D + 43) rfl ?_
  show Ex (Runs (D + 43)) cd_X9_together (some (.int o.1), o.2, LAY t) 0 [some (.ref 56), some (.int x1), some (.int x2), some (.int x3), none, none, none, none, none, none, none] [] s (LAY t)
  unfold X9_together at h
  refine Ex_call 3 (fun _ => rfl) (T_X9_isOne (D + 41) t x1 s _ rfl) rfl rfl ?_
  refine Ex_brZ 1 (X9_isOne x1 s) (fun _ => rfl) (fun hc => ?_) (fun hc => ?_)
  · rw [if_neg (m_nt hc)] at h
    obtain rfl := Option.some.inj h
    exact Ex_ret 2 (fun _ => rfl) rfl
  · rw [if_pos hc] at h
    refine Ex_call 3 (fun _ => rfl) (T_X9_isOne (D + 41) t x2 s _ rfl) rfl rfl ?_
    refine Ex_brZ 1 (X9_isOne x2 s) (fun _ => rfl) (fun hc => ?_) (fun hc => ?_)
    · rw [if_neg (m_nt hc)] at h
      obtain rfl := Option.some.inj h
      exact Ex_ret 2 (fun _ => rfl) rfl
    · rw [if_pos hc] at h
      refine Ex_br 3 (x1 = x2) (fun _ => rfl) (fun hc1 => ?_) (fun hc1 => ?_)
      · rw [if_pos hc1] at h
        obtain rfl := Option.some.inj h
        exact Ex_ret 2 (fun _ => rfl) rfl
      · rw [if_neg hc1] at h
        refine Ex_call 2 (fun _ => rfl) (T_X9_isStone (D + 41) t x3 s _ rfl) rfl rfl ?_
        refine Ex_brZ 1 (X9_isStone x3) (fun _ => rfl) (fun hc => ?_) (fun hc => ?_)
        · rw [if_neg (m_nt hc)] at h
          obtain rfl := Option.some.inj h
          exact Ex_ret 2 (fun _ => rfl) rfl
        · rw [if_pos hc] at h
          obtain ⟨hg2, h⟩ := m_ite h
          refine Ex_gd 4 (fun _ => rfl) hg2 ?_
          obtain ⟨hg3, h⟩ := m_ite h
          refine Ex_gd 4 (fun _ => rfl) hg3 ?_
          refine Ex_br 1 ((s.1 65 x1.toNatClampNeg) = (s.1 65 x2.toNatClampNeg)) (fun _ => rfl) (fun hc4 => ?_) (fun hc4 => ?_)
          · rw [if_pos hc4] at h
            obtain ⟨r5, hr, h⟩ := m_bind h
            refine Ex_call 4 (fun _ => rfl) (T_X9_rainAt (D + 42) t (s.1 56 16) s r5 hr) rfl rfl ?_
            refine Ex_gd 7 (fun _ => rfl) hg2 ?_
            obtain ⟨r6, hr, h⟩ := m_bind h
            refine Ex_call 1 (fun _ => rfl) (T_X9_reaches (D + 42) t x1 (s.1 66 x1.toNatClampNeg) s r6 hr) rfl rfl ?_
            refine Ex_gd 6 (fun _ => rfl) hg3 ?_
            obtain ⟨r7, hr, h⟩ := m_bind h
            refine Ex_call 1 (fun _ => rfl) (T_X9_reaches (D + 42) t x2 (s.1 66 x2.toNatClampNeg) s r7 hr) rfl rfl ?_
            refine Ex_sti 4 (fun _ => rfl) ?_
            obtain ⟨e87, hl, h⟩ := m_bind h
            refine T_X9_together_l87 D t (some (.int o.1)) o.2 x1 x2 x3 r5 (r6 + r7)  (0, s) _ hl (fun y0 hy0 => ?_) _ _ _ _
            · obtain ⟨e87, rfl⟩ : ∃ q, q = y0 := ⟨_, rfl⟩
              subst hy0
              intro vu6 vu7 vu8 vu9 vu10
              refine Ex_gd 6 (fun _ => rfl) hg2 ?_
              obtain ⟨hg27, h⟩ := m_ite h
              refine Ex_gd 2 (fun _ => rfl) hg27 ?_
              refine Ex_sti 2 (fun _ => rfl) ?_
              obtain ⟨e123, hl, h⟩ := m_bind h
              refine T_X9_together_l123 D t (some (.int o.1)) o.2 x1 x2 x3 r5 (r6 + r7)  (0, sI e87 72 (e87.1 65 x1.toNatClampNeg).toNatClampNeg 0) _ hl (fun y0 hy0 => ?_) _ _ _ _
              · obtain ⟨e123, rfl⟩ : ∃ q, q = y0 := ⟨_, rfl⟩
                subst hy0
                intro vu1 vu2 vu4 vu5 vu6 vu7 vu8 vu9 vu10
                obtain ⟨hg28, h⟩ := m_ite h
                refine Ex_gd 4 (fun _ => rfl) hg28 ?_
                obtain rfl := Option.some.inj h
                exact Ex_ret 1 (fun _ => rfl) rfl
          · rw [if_neg hc4] at h
            obtain rfl := Option.some.inj h
            exact Ex_ret 2 (fun _ => rfl) rfl

set_option maxRecDepth 20000 in
theorem T_X9_lend (D : Nat) (t : mTX) (x1 : Int32) (x2 : Int32) (x3 : Int32) (s : mSG) (o : Int32 × mSG) (h : X9_lend x1 x2 x3 s = some o) : Runs (D + 44) 200 [.ref 56, .int x1, .int x2, .int x3] s (LAY t) (some (.int o.1), o.2, LAY t) := by
  refine Runs_mk (d := D + 43) rfl ?_
  show Ex (Runs (D + 43)) cd_X9_lend (some (.int o.1), o.2, LAY t) 0 [some (.ref 56), some (.int x1), some (.int x2), some (.int x3), none] [] s (LAY t)
  unfold X9_lend at h
  refine Ex_call 3 (fun _ => rfl) (T_X9_isOne (D + 41) t x1 s _ rfl) rfl rfl ?_
  refine Ex_brZ 1 (X9_isOne x1 s) (fun _ => rfl) (fun hc => ?_) (fun hc => ?_)
  · rw [if_neg (m_nt hc)] at h
    obtain rfl := Option.some.inj h
    exact Ex_ret 2 (fun _ => rfl) rfl
  · rw [if_pos hc] at h
    refine Ex_call 3 (fun _ => rfl) (T_X9_isOne (D + 41) t x2 s _ rfl) rfl rfl ?_
    refine Ex_brZ 1 (X9_isOne x2 s) (fun _ => rfl) (fun hc => ?_) (fun hc => ?_)
    · rw [if_neg (m_nt hc)] at h
      obtain rfl := Option.some.inj h
      exact Ex_ret 2 (fun _ => rfl) rfl
    · rw [if_pos hc] at h
      refine Ex_br 3 (x1 = x2) (fun _ => rfl) (fun hc1 => ?_) (fun hc1 => ?_)
      · rw [if_pos hc1] at h
        obtain rfl := Option.some.inj h
        exact Ex_ret 2 (fun _ => rfl) rfl
      · rw [if_neg hc1] at h
        refine Ex_call 5 (fun _ => rfl) (T_X9_in (D + 42) t x3.toInt64 1 99 s _ rfl) rfl rfl ?_
        refine Ex_brZ 1 (X9_in x3.toInt64 1 99) (fun _ => rfl) (fun hc => ?_) (fun hc => ?_)
        · rw [if_neg (m_nt hc)] at h
          obtain rfl := Option.some.inj h
          exact Ex_ret 2 (fun _ => rfl) rfl
        · rw [if_pos hc] at h
          obtain ⟨hg2, h⟩ := m_ite h
          refine Ex_gd 4 (fun _ => rfl) hg2 ?_
          obtain ⟨hg3, h⟩ := m_ite h
          refine Ex_gd 4 (fun _ => rfl) hg3 ?_
          refine Ex_br 1 ((s.1 65 x1.toNatClampNeg) = (s.1 65 x2.toNatClampNeg)) (fun _ => rfl) (fun hc4 => ?_) (fun hc4 => ?_)
          · rw [if_pos hc4] at h
            refine Ex_gd 4 (fun _ => rfl) hg2 ?_
            refine Ex_br 2 ((s.1 63 x1.toNatClampNeg) < x3) (fun _ => rfl) (fun hc5 => ?_) (fun hc5 => ?_)
            · rw [if_pos hc5] at h
              obtain rfl := Option.some.inj h
              exact Ex_ret 2 (fun _ => rfl) rfl
            · rw [if_neg hc5] at h
              refine Ex_gd 4 (fun _ => rfl) hg3 ?_
              refine Ex_br 4 (99 < ((s.1 63 x2.toNatClampNeg) + x3)) (fun _ => rfl) (fun hc6 => ?_) (fun hc6 => ?_)
              · rw [if_pos hc6] at h
                obtain rfl := Option.some.inj h
                exact Ex_ret 2 (fun _ => rfl) rfl
              · rw [if_neg hc6] at h
                obtain ⟨hg7, h⟩ := m_ite h
                refine Ex_gd 8 (fun _ => rfl) hg7 ?_
                refine Ex_br 4 (((s.1 67 ((5 * x2) + x1).toNatClampNeg) + x3) ≤ 99) (fun _ => rfl) (fun hc8 => ?_) (fun hc8 => ?_)
                · rw [if_pos hc8] at h
                  refine Ex_gd 8 (fun _ => rfl) hg2 ?_
                  obtain ⟨r9, hr, h⟩ := m_bind h
                  refine Ex_call 4 (fun _ => rfl) (T_X9_rainAt (D + 42) t (s.1 56 16) s r9 hr) rfl rfl ?_
                  refine Ex_gd 4 (fun _ => rfl) hg2 ?_
                  refine Ex_gd 4 (fun _ => rfl) hg2 ?_
                  obtain ⟨r10, hr, h⟩ := m_bind h
                  refine Ex_call 1 (fun _ => rfl) (T_X9_says D t 2 x1 (s.1 66 x1.toNatClampNeg) r9 (s.1 65 x1.toNatClampNeg) (s.1 65 x1.toNatClampNeg) s r10 hr) rfl rfl ?_
                  refine Ex_gd 7 (fun _ => rfl) hg2 ?_
                  refine Ex_gd 3 (fun _ => rfl) hg2 ?_
                  refine Ex_gd 5 (fun _ => rfl) hg3 ?_
                  refine Ex_gd 3 (fun _ => rfl) hg3 ?_
                  refine Ex_gd 9 (fun _ => rfl) hg7 ?_
                  refine Ex_gd 3 (fun _ => rfl) hg7 ?_
                  obtain rfl := Option.some.inj h
                  exact Ex_ret 2 (fun _ => rfl) rfl
                · rw [if_neg hc8] at h
                  obtain rfl := Option.some.inj h
                  exact Ex_ret 2 (fun _ => rfl) rfl
          · rw [if_neg hc4] at h
            obtain rfl := Option.some.inj h
            exact Ex_ret 2 (fun _ => rfl) rfl

set_option maxRecDepth 20000 in
theorem T_X9_owed (D : Nat) (t : mTX) (x1 : Int32) (x2 : Int32) (s : mSG) (o : Int32) (h : X9_owed x1 x2 s = some o) : Runs (D + 3) 201 [.ref 56, .int x1, .int x2] s (LAY t) (some (.int o), s, LAY t) := by
  refine Runs_mk (d := D + 2) rfl ?_
  show Ex (Runs (D + 2)) cd_X9_owed (some (.int o), s, LAY t) 0 [some (.ref 56), some (.int x1), some (.int x2)] [] s (LAY t)
  unfold X9_owed at h
  refine Ex_call 3 (fun _ => rfl) (T_X9_isOne D t x1 s _ rfl) rfl rfl ?_
  refine Ex_brZ 1 (X9_isOne x1 s) (fun _ => rfl) (fun hc => ?_) (fun hc => ?_)
  · rw [if_neg (m_nt hc)] at h
    obtain rfl := Option.some.inj h
    exact Ex_ret 2 (fun _ => rfl) rfl
  · rw [if_pos hc] at h
    refine Ex_call 3 (fun _ => rfl) (T_X9_isOne D t x2 s _ rfl) rfl rfl ?_
    refine Ex_brZ 1 (X9_isOne x2 s) (fun _ => rfl) (fun hc => ?_) (fun hc => ?_)
    · rw [if_neg (m_nt hc)] at h
      obtain rfl := Option.some.inj h
      exact Ex_ret 2 (fun _ => rfl) rfl
    · rw [if_pos hc] at h
      obtain ⟨hg1, h⟩ := m_ite h
      refine Ex_gd 8 (fun _ => rfl) hg1 ?_
      obtain rfl := Option.some.inj h
      exact Ex_ret 2 (fun _ => rfl) rfl

set_option maxRecDepth 20000 in
theorem T_X9_takesRing_j81 (D : Nat) (t : mTX) (x4 : Int32) (x5 : Int32) (x6 : Int32) (p0 : Int32) (s : mSG) (u1 u2 u3 u7 : Option Value) (o : Int32 × mSG) (h : X9_takesRing_j81 x4 x5 x6 p0 s = some o)  : Ex (Runs (D)) cd_X9_takesRing (some (.int o.1), o.2, LAY t) 81 [some (.ref 56), u1, u2, u3, some (.int x4), some (.int x5), some (.int x6), u7] [.int p0] s (LAY t) := by
  unfold X9_takesRing_j81 at h
  obtain ⟨hg6, h⟩ := m_ite h
  refine Ex_gd 6 (fun _ => rfl) hg6 ?_
  refine Ex_gd 3 (fun _ => rfl) hg6 ?_
  obtain ⟨hg7, h⟩ := m_ite h
  refine Ex_gd 5 (fun _ => rfl) hg7 ?_
  refine Ex_gd 3 (fun _ => rfl) hg7 ?_
  obtain ⟨hg8, h⟩ := m_ite h
  refine Ex_gd 5 (fun _ => rfl) hg8 ?_
  refine Ex_gd 3 (fun _ => rfl) hg8 ?_
  obtain rfl := Option.some.inj h
  exact Ex_ret 2 (fun _ => rfl) rfl

set_option maxRecDepth 20000 in
theorem T_X9_takesRing_j55 (D : Nat) (t : mTX) (x4 : Int32) (x5 : Int32) (x6 : Int32) (p0 : Int32) (s : mSG) (u1 u2 u3 u7 : Option Value) (o : Int32 × mSG) (h : X9_takesRing_j55 x4 x5 x6 p0 s = some o)  : Ex (Runs (D)) cd_X9_takesRing (some (.int o.1), o.2, LAY t) 55 [some (.ref 56), u1, u2, u3, some (.int x4), some (.int x5), some (.int x6), u7] [.int p0] s (LAY t) := by
  unfold X9_takesRing_j55 at h
  obtain ⟨hg4, h⟩ := m_ite h
  refine Ex_gd 5 (fun _ => rfl) hg4 ?_
  refine Ex_br 2 (p0 ≤ (s.1 67 x6.toNatClampNeg)) (fun _ => rfl) (fun hc5 => ?_) (fun hc5 => ?_)
  · rw [if_pos hc5] at h
    refine Ex_sti 1 (fun _ => rfl) ?_
    exact T_X9_takesRing_j81 D t x4 x5 x6 p0 s _ _ _ _ _ h
  · rw [if_neg hc5] at h
    refine Ex_gd 4 (fun _ => rfl) hg4 ?_
    refine Ex_sti 1 (fun _ => rfl) ?_
    exact T_X9_takesRing_j81 D t x4 x5 x6 (s.1 67 x6.toNatClampNeg) s _ _ _ _ _ h

set_option maxRecDepth 20000 in
theorem T_X9_takesRing (D : Nat) (t : mTX) (x1 : Int32) (x2 : Int32) (x3 : Int32) (s : mSG) (o : Int32 × mSG) (h : X9_takesRing x1 x2 x3 s = some o) : Runs (D + 1) 202 [.ref 56, .int x1, .int x2, .int x3] s (LAY t) (some (.int o.1), o.2, LAY t) := by
  refine Runs_mk (d := D) rfl ?_
  show Ex (Runs (D)) cd_X9_takesRing (some (.int o.1), o.2, LAY t) 0 [some (.ref 56), some (.int x1), some (.int x2), some (.int x3), none, none, none, none] [] s (LAY t)
  unfold X9_takesRing at h
  obtain ⟨hg1, h⟩ := m_ite h
  refine Ex_gd 22 (fun _ => rfl) hg1 ?_
  obtain ⟨hg2, h⟩ := m_ite h
  refine Ex_gd 4 (fun _ => rfl) hg2 ?_
  refine Ex_br 1 ((s.1 67 ((5 * x2) + x3).toNatClampNeg) ≤ (s.1 67 ((5 * x1) + x2).toNatClampNeg)) (fun _ => rfl) (fun hc3 => ?_) (fun hc3 => ?_)
  · rw [if_pos hc3] at h
    refine Ex_gd 4 (fun _ => rfl) hg2 ?_
    exact T_X9_takesRing_j55 D t ((5 * x1) + x2) ((5 * x2) + x3) ((5 * x3) + x1) (s.1 67 ((5 * x2) + x3).toNatClampNeg) s _ _ _ _ _ h
  · rw [if_neg hc3] at h
    refine Ex_gd 4 (fun _ => rfl) hg1 ?_
    refine Ex_sti 1 (fun _ => rfl) ?_
    exact T_X9_takesRing_j55 D t ((5 * x1) + x2) ((5 * x2) + x3) ((5 * x3) + x1) (s.1 67 ((5 * x1) + x2).toNatClampNeg) s _ _ _ _ _ h

set_option maxRecDepth 20000 in
theorem T_X9_rings_j72_16 (D : Nat) (t : mTX) (w : Option Value) (z : mSG) (x1 : Int32) (x2 : Int32) (x3 : Int32) (x4 : Int32) (x5 : Int32) (p0 : Int32) (s : mSG) (u6 : Option Value) (o : (Int32 × Int32 × mSG) ⊕ Int32 × mSG) (h : X9_rings_j72_16 x1 x2 x3 x4 x5 p0 s = some o) (kc : ∀ y : Int32 × Int32 × mSG, o = .inl y → ∀ (u4 u5 u6 : Option Value), Ex (Runs (D + 1)) cd_X9_rings (w, z, LAY t) 16 [some (.ref 56), some (.int y.1), some (.int x2), some (.int y.2.1), u4, u5, u6] [] y.2.2 (LAY t)) (ke0 : ∀ y : Int32 × mSG, o = .inr y → ∀ (u3 u4 u5 u6 : Option Value), Ex (Runs (D + 1)) cd_X9_rings (w, z, LAY t) 109 [some (.ref 56), some (.int y.1), some (.int x2), u3, u4, u5, u6] [] y.2 (LAY t)) : Ex (Runs (D + 1)) cd_X9_rings (w, z, LAY t) 72 [some (.ref 56), some (.int x1), some (.int x2), some (.int x3), some (.int x4), some (.int x5), u6] [.int p0] s (LAY t) := by
  unfold X9_rings_j72_16 at h
  obtain ⟨hg6, h⟩ := m_ite h
  refine Ex_gd 6 (fun _ => rfl) hg6 ?_
  refine Ex_gd 3 (fun _ => rfl) hg6 ?_
  obtain ⟨hg7, h⟩ := m_ite h
  refine Ex_gd 5 (fun _ => rfl) hg7 ?_
  refine Ex_gd 3 (fun _ => rfl) hg7 ?_
  refine Ex_sti 6 (fun _ => rfl) ?_
  obtain rfl := Option.some.inj h
  exact kc _ rfl _ _ _

set_option maxRecDepth 20000 in
theorem T_X9_rings_b16 (D : Nat) (t : mTX) (w : Option Value) (z : mSG) (x2 : Int32) (x1 : Int32) (x3 : Int32) (s : mSG) (u4 u5 u6 : Option Value) (o : (Int32 × Int32 × mSG) ⊕ Int32 × mSG) (h : X9_rings_b16 x2 x1 x3 s = some o) (kc : ∀ y : Int32 × Int32 × mSG, o = .inl y → ∀ (u4 u5 u6 : Option Value), Ex (Runs (D + 1)) cd_X9_rings (w, z, LAY t) 16 [some (.ref 56), some (.int y.1), some (.int x2), some (.int y.2.1), u4, u5, u6] [] y.2.2 (LAY t)) (ke0 : ∀ y : Int32 × mSG, o = .inr y → ∀ (u3 u4 u5 u6 : Option Value), Ex (Runs (D + 1)) cd_X9_rings (w, z, LAY t) 109 [some (.ref 56), some (.int y.1), some (.int x2), u3, u4, u5, u6] [] y.2 (LAY t)) : Ex (Runs (D + 1)) cd_X9_rings (w, z, LAY t) 16 [some (.ref 56), some (.int x1), some (.int x2), some (.int x3), u4, u5, u6] [] s (LAY t) := by
  unfold X9_rings_b16 at h
  refine Ex_br 4 ((s.1 56 15) ≤ x3) (fun _ => rfl) (fun hc2 => ?_) (fun hc2 => ?_)
  · rw [if_pos hc2] at h
    obtain rfl := Option.some.inj h
    exact ke0 _ rfl _ _ _ _
  · rw [if_neg hc2] at h
    obtain ⟨hg3, h⟩ := m_ite h
    refine Ex_gd 16 (fun _ => rfl) hg3 ?_
    obtain ⟨hg4, h⟩ := m_ite h
    refine Ex_gd 4 (fun _ => rfl) hg4 ?_
    refine Ex_br 1 ((s.1 67 ((5 * x3) + x2).toNatClampNeg) ≤ (s.1 67 ((5 * x2) + x3).toNatClampNeg)) (fun _ => rfl) (fun hc5 => ?_) (fun hc5 => ?_)
    · rw [if_pos hc5] at h
      refine Ex_gd 4 (fun _ => rfl) hg4 ?_
      exact T_X9_rings_j72_16 D t w z x1 x2 x3 ((5 * x2) + x3) ((5 * x3) + x2) (s.1 67 ((5 * x3) + x2).toNatClampNeg) s _ _ h kc ke0
    · rw [if_neg hc5] at h
      refine Ex_gd 4 (fun _ => rfl) hg3 ?_
      refine Ex_sti 1 (fun _ => rfl) ?_
      exact T_X9_rings_j72_16 D t w z x1 x2 x3 ((5 * x2) + x3) ((5 * x3) + x2) (s.1 67 ((5 * x2) + x3).toNatClampNeg) s _ _ h kc ke0

theorem T_X9_rings_l16 (D : Nat) (t : mTX) (w : Option Value) (z : mSG) (x2 : Int32) (v : Int32 × Int32 × mSG) (e : Int32 × mSG) (h : X9_rings_l16 x2 v = some e) (ke0 : ∀ y : Int32 × mSG, e = y → ∀ (u3 u4 u5 u6 : Option Value), Ex (Runs (D + 1)) cd_X9_rings (w, z, LAY t) 109 [some (.ref 56), some (.int y.1), some (.int x2), u3, u4, u5, u6] [] y.2 (LAY t)) : ∀ (u4 u5 u6 : Option Value), Ex (Runs (D + 1)) cd_X9_rings (w, z, LAY t) 16 [some (.ref 56), some (.int v.1), some (.int x2), some (.int v.2.1), u4, u5, u6] [] v.2.2 (LAY t) :=
  m_iter (P := fun v : Int32 × Int32 × mSG => ∀ (u4 u5 u6 : Option Value), Ex (Runs (D + 1)) cd_X9_rings (w, z, LAY t) 16 [some (.ref 56), some (.int v.1), some (.int x2), some (.int v.2.1), u4, u5, u6] [] v.2.2 (LAY t)) (Q := fun e : Int32 × mSG => (∀ y : Int32 × mSG, e = y → ∀ (u3 u4 u5 u6 : Option Value), Ex (Runs (D + 1)) cd_X9_rings (w, z, LAY t) 109 [some (.ref 56), some (.int y.1), some (.int x2), u3, u4, u5, u6] [] y.2 (LAY t))) (fun x o hx kc kq u4 u5 u6 => T_X9_rings_b16 D t w z x2 x.1 x.2.1 x.2.2 u4 u5 u6 o hx kc (fun e he => kq _ he e rfl)) mFU v e h ke0
set_option maxRecDepth 20000 in
theorem T_X9_rings_b4 (D : Nat) (t : mTX) (w : Option Value) (z : mSG) (x1 : Int32) (x2 : Int32) (s : mSG) (u3 u4 u5 u6 : Option Value) (o : (Int32 × Int32 × mSG) ⊕ Int32 × mSG) (h : X9_rings_b4 x1 x2 s = some o) (kc : ∀ y : Int32 × Int32 × mSG, o = .inl y → ∀ (u3 u4 u5 u6 : Option Value), Ex (Runs (D + 1)) cd_X9_rings (w, z, LAY t) 4 [some (.ref 56), some (.int y.1), some (.int y.2.1), u3, u4, u5, u6] [] y.2.2 (LAY t)) (ke0 : ∀ y : Int32 × mSG, o = .inr y → ∀ (u2 u3 u4 u5 u6 : Option Value), Ex (Runs (D + 1)) cd_X9_rings (w, z, LAY t) 115 [some (.ref 56), some (.int y.1), u2, u3, u4, u5, u6] [] y.2 (LAY t)) : Ex (Runs (D + 1)) cd_X9_rings (w, z, LAY t) 4 [some (.ref 56), some (.int x1), some (.int x2), u3, u4, u5, u6] [] s (LAY t) := by
  unfold X9_rings_b4 at h
  refine Ex_br 4 ((s.1 56 15) ≤ x2) (fun _ => rfl) (fun hc1 => ?_) (fun hc1 => ?_)
  · rw [if_pos hc1] at h
    obtain rfl := Option.some.inj h
    exact ke0 _ rfl _ _ _ _ _
  · rw [if_neg hc1] at h
    refine Ex_sti 4 (fun _ => rfl) ?_
    obtain ⟨e16, hl, h⟩ := m_bind h
    refine T_X9_rings_l16 D t w z x2  (x1, x2 + 1, s) _ hl (fun y0 hy0 => ?_) _ _ _
    · obtain ⟨e16, rfl⟩ : ∃ q, q = y0 := ⟨_, rfl⟩
      subst hy0
      intro vu3 vu4 vu5 vu6
      refine Ex_sti 2 (fun _ => rfl) ?_
      obtain rfl := Option.some.inj h
      exact kc _ rfl _ _ _ _

theorem T_X9_rings_l4 (D : Nat) (t : mTX) (w : Option Value) (z : mSG) (v : Int32 × Int32 × mSG) (e : Int32 × mSG) (h : X9_rings_l4 v = some e) (ke0 : ∀ y : Int32 × mSG, e = y → ∀ (u2 u3 u4 u5 u6 : Option Value), Ex (Runs (D + 1)) cd_X9_rings (w, z, LAY t) 115 [some (.ref 56), some (.int y.1), u2, u3, u4, u5, u6] [] y.2 (LAY t)) : ∀ (u3 u4 u5 u6 : Option Value), Ex (Runs (D + 1)) cd_X9_rings (w, z, LAY t) 4 [some (.ref 56), some (.int v.1), some (.int v.2.1), u3, u4, u5, u6] [] v.2.2 (LAY t) :=
  m_iter (P := fun v : Int32 × Int32 × mSG => ∀ (u3 u4 u5 u6 : Option Value), Ex (Runs (D + 1)) cd_X9_rings (w, z, LAY t) 4 [some (.ref 56), some (.int v.1), some (.int v.2.1), u3, u4, u5, u6] [] v.2.2 (LAY t)) (Q := fun e : Int32 × mSG => (∀ y : Int32 × mSG, e = y → ∀ (u2 u3 u4 u5 u6 : Option Value), Ex (Runs (D + 1)) cd_X9_rings (w, z, LAY t) 115 [some (.ref 56), some (.int y.1), u2, u3, u4, u5, u6] [] y.2 (LAY t))) (fun x o hx kc kq u3 u4 u5 u6 => T_X9_rings_b4 D t w z  x.1 x.2.1 x.2.2 u3 u4 u5 u6 o hx kc (fun e he => kq _ he e rfl)) mFU v e h ke0
set_option maxRecDepth 20000 in
theorem T_X9_rings_b142 (D : Nat) (t : mTX) (w : Option Value) (z : mSG) (x2 : Int32) (x3 : Int32) (x1 : Int32) (x4 : Int32) (s : mSG) (u5 u6 : Option Value) (o : (Int32 × Int32 × mSG) ⊕ Int32 × mSG) (h : X9_rings_b142 x2 x3 x1 x4 s = some o) (kc : ∀ y : Int32 × Int32 × mSG, o = .inl y → ∀ (u5 u6 : Option Value), Ex (Runs (D + 1)) cd_X9_rings (w, z, LAY t) 142 [some (.ref 56), some (.int y.1), some (.int x2), some (.int x3), some (.int y.2.1), u5, u6] [] y.2.2 (LAY t)) (ke0 : ∀ y : Int32 × mSG, o = .inr y → ∀ (u4 u5 u6 : Option Value), Ex (Runs (D + 1)) cd_X9_rings (w, z, LAY t) 179 [some (.ref 56), some (.int y.1), some (.int x2), some (.int x3), u4, u5, u6] [] y.2 (LAY t)) : Ex (Runs (D + 1)) cd_X9_rings (w, z, LAY t) 142 [some (.ref 56), some (.int x1), some (.int x2), some (.int x3), some (.int x4), u5, u6] [] s (LAY t) := by
  unfold X9_rings_b142 at h
  refine Ex_br 4 ((s.1 56 15) ≤ x4) (fun _ => rfl) (fun hc10 => ?_) (fun hc10 => ?_)
  · rw [if_pos hc10] at h
    obtain rfl := Option.some.inj h
    exact ke0 _ rfl _ _ _
  · rw [if_neg hc10] at h
    obtain ⟨r11, hr, h⟩ := m_bind h
    refine Ex_call 6 (fun _ => rfl) (T_X9_takesRing D t x2 x3 x4 s r11 hr) rfl rfl ?_
    obtain ⟨r12, hr, h⟩ := m_bind h
    refine Ex_call 8 (fun _ => rfl) (T_X9_takesRing D t x2 x4 x3 r11.2 r12 hr) rfl rfl ?_
    refine Ex_sti 4 (fun _ => rfl) ?_
    obtain rfl := Option.some.inj h
    exact kc _ rfl _ _

theorem T_X9_rings_l142 (D : Nat) (t : mTX) (w : Option Value) (z : mSG) (x2 : Int32) (x3 : Int32) (v : Int32 × Int32 × mSG) (e : Int32 × mSG) (h : X9_rings_l142 x2 x3 v = some e) (ke0 : ∀ y : Int32 × mSG, e = y → ∀ (u4 u5 u6 : Option Value), Ex (Runs (D + 1)) cd_X9_rings (w, z, LAY t) 179 [some (.ref 56), some (.int y.1), some (.int x2), some (.int x3), u4, u5, u6] [] y.2 (LAY t)) : ∀ (u5 u6 : Option Value), Ex (Runs (D + 1)) cd_X9_rings (w, z, LAY t) 142 [some (.ref 56), some (.int v.1), some (.int x2), some (.int x3), some (.int v.2.1), u5, u6] [] v.2.2 (LAY t) :=
  m_iter (P := fun v : Int32 × Int32 × mSG => ∀ (u5 u6 : Option Value), Ex (Runs (D + 1)) cd_X9_rings (w, z, LAY t) 142 [some (.ref 56), some (.int v.1), some (.int x2), some (.int x3), some (.int v.2.1), u5, u6] [] v.2.2 (LAY t)) (Q := fun e : Int32 × mSG => (∀ y : Int32 × mSG, e = y → ∀ (u4 u5 u6 : Option Value), Ex (Runs (D + 1)) cd_X9_rings (w, z, LAY t) 179 [some (.ref 56), some (.int y.1), some (.int x2), some (.int x3), u4, u5, u6] [] y.2 (LAY t))) (fun x o hx kc kq u5 u6 => T_X9_rings_b142 D t w z x2 x3 x.1 x.2.1 x.2.2 u5 u6 o hx kc (fun e he => kq _ he e rfl)) mFU v e h ke0
set_option maxRecDepth 20000 in
theorem T_X9_rings_b129 (D : Nat) (t : mTX) (w : Option Value) (z : mSG) (x2 : Int32) (x1 : Int32) (x3 : Int32) (s : mSG) (u4 u5 u6 : Option Value) (o : (Int32 × Int32 × mSG) ⊕ Int32 × mSG) (h : X9_rings_b129 x2 x1 x3 s = some o) (kc : ∀ y : Int32 × Int32 × mSG, o = .inl y → ∀ (u4 u5 u6 : Option Value), Ex (Runs (D + 1)) cd_X9_rings (w, z, LAY t) 129 [some (.ref 56), some (.int y.1), some (.int x2), some (.int y.2.1), u4, u5, u6] [] y.2.2 (LAY t)) (ke0 : ∀ y : Int32 × mSG, o = .inr y → ∀ (u3 u4 u5 u6 : Option Value), Ex (Runs (D + 1)) cd_X9_rings (w, z, LAY t) 185 [some (.ref 56), some (.int y.1), some (.int x2), u3, u4, u5, u6] [] y.2 (LAY t)) : Ex (Runs (D + 1)) cd_X9_rings (w, z, LAY t) 129 [some (.ref 56), some (.int x1), some (.int x2), some (.int x3), u4, u5, u6] [] s (LAY t) := by
  unfold X9_rings_b129 at h
  refine Ex_br 4 ((s.1 56 15) ≤ x3) (fun _ => rfl) (fun hc9 => ?_) (fun hc9 => ?_)
  · rw [if_pos hc9] at h
    obtain rfl := Option.some.inj h
    exact ke0 _ rfl _ _ _ _
  · rw [if_neg hc9] at h
    refine Ex_sti 4 (fun _ => rfl) ?_
    obtain ⟨e142, hl, h⟩ := m_bind h
    refine T_X9_rings_l142 D t w z x2 x3  (x1, x3 + 1, s) _ hl (fun y0 hy0 => ?_) _ _
    · obtain ⟨e142, rfl⟩ : ∃ q, q = y0 := ⟨_, rfl⟩
      subst hy0
      intro vu4 vu5 vu6
      refine Ex_sti 2 (fun _ => rfl) ?_
      obtain rfl := Option.some.inj h
      exact kc _ rfl _ _ _

theorem T_X9_rings_l129 (D : Nat) (t : mTX) (w : Option Value) (z : mSG) (x2 : Int32) (v : Int32 × Int32 × mSG) (e : Int32 × mSG) (h : X9_rings_l129 x2 v = some e) (ke0 : ∀ y : Int32 × mSG, e = y → ∀ (u3 u4 u5 u6 : Option Value), Ex (Runs (D + 1)) cd_X9_rings (w, z, LAY t) 185 [some (.ref 56), some (.int y.1), some (.int x2), u3, u4, u5, u6] [] y.2 (LAY t)) : ∀ (u4 u5 u6 : Option Value), Ex (Runs (D + 1)) cd_X9_rings (w, z, LAY t) 129 [some (.ref 56), some (.int v.1), some (.int x2), some (.int v.2.1), u4, u5, u6] [] v.2.2 (LAY t) :=
  m_iter (P := fun v : Int32 × Int32 × mSG => ∀ (u4 u5 u6 : Option Value), Ex (Runs (D + 1)) cd_X9_rings (w, z, LAY t) 129 [some (.ref 56), some (.int v.1), some (.int x2), some (.int v.2.1), u4, u5, u6] [] v.2.2 (LAY t)) (Q := fun e : Int32 × mSG => (∀ y : Int32 × mSG, e = y → ∀ (u3 u4 u5 u6 : Option Value), Ex (Runs (D + 1)) cd_X9_rings (w, z, LAY t) 185 [some (.ref 56), some (.int y.1), some (.int x2), u3, u4, u5, u6] [] y.2 (LAY t))) (fun x o hx kc kq u4 u5 u6 => T_X9_rings_b129 D t w z x2 x.1 x.2.1 x.2.2 u4 u5 u6 o hx kc (fun e he => kq _ he e rfl)) mFU v e h ke0
set_option maxRecDepth 20000 in
theorem T_X9_rings_b117 (D : Nat) (t : mTX) (w : Option Value) (z : mSG) (x1 : Int32) (x2 : Int32) (s : mSG) (u3 u4 u5 u6 : Option Value) (o : (Int32 × Int32 × mSG) ⊕ Int32 × mSG) (h : X9_rings_b117 x1 x2 s = some o) (kc : ∀ y : Int32 × Int32 × mSG, o = .inl y → ∀ (u3 u4 u5 u6 : Option Value), Ex (Runs (D + 1)) cd_X9_rings (w, z, LAY t) 117 [some (.ref 56), some (.int y.1), some (.int y.2.1), u3, u4, u5, u6] [] y.2.2 (LAY t)) (ke0 : ∀ y : Int32 × mSG, o = .inr y → ∀ (u0 u2 u3 u4 u5 u6 : Option Value), Ex (Runs (D + 1)) cd_X9_rings (w, z, LAY t) 191 [u0, some (.int y.1), u2, u3, u4, u5, u6] [] y.2 (LAY t)) : Ex (Runs (D + 1)) cd_X9_rings (w, z, LAY t) 117 [some (.ref 56), some (.int x1), some (.int x2), u3, u4, u5, u6] [] s (LAY t) := by
  unfold X9_rings_b117 at h
  refine Ex_br 4 ((s.1 56 15) ≤ x2) (fun _ => rfl) (fun hc8 => ?_) (fun hc8 => ?_)
  · rw [if_pos hc8] at h
    obtain rfl := Option.some.inj h
    exact ke0 _ rfl _ _ _ _ _ _
  · rw [if_neg hc8] at h
    refine Ex_sti 4 (fun _ => rfl) ?_
    obtain ⟨e129, hl, h⟩ := m_bind h
    refine T_X9_rings_l129 D t w z x2  (x1, x2 + 1, s) _ hl (fun y0 hy0 => ?_) _ _ _
    · obtain ⟨e129, rfl⟩ : ∃ q, q = y0 := ⟨_, rfl⟩
      subst hy0
      intro vu3 vu4 vu5 vu6
      refine Ex_sti 2 (fun _ => rfl) ?_
      obtain rfl := Option.some.inj h
      exact kc _ rfl _ _ _ _

theorem T_X9_rings_l117 (D : Nat) (t : mTX) (w : Option Value) (z : mSG) (v : Int32 × Int32 × mSG) (e : Int32 × mSG) (h : X9_rings_l117 v = some e) (ke0 : ∀ y : Int32 × mSG, e = y → ∀ (u0 u2 u3 u4 u5 u6 : Option Value), Ex (Runs (D + 1)) cd_X9_rings (w, z, LAY t) 191 [u0, some (.int y.1), u2, u3, u4, u5, u6] [] y.2 (LAY t)) : ∀ (u3 u4 u5 u6 : Option Value), Ex (Runs (D + 1)) cd_X9_rings (w, z, LAY t) 117 [some (.ref 56), some (.int v.1), some (.int v.2.1), u3, u4, u5, u6] [] v.2.2 (LAY t) :=
  m_iter (P := fun v : Int32 × Int32 × mSG => ∀ (u3 u4 u5 u6 : Option Value), Ex (Runs (D + 1)) cd_X9_rings (w, z, LAY t) 117 [some (.ref 56), some (.int v.1), some (.int v.2.1), u3, u4, u5, u6] [] v.2.2 (LAY t)) (Q := fun e : Int32 × mSG => (∀ y : Int32 × mSG, e = y → ∀ (u0 u2 u3 u4 u5 u6 : Option Value), Ex (Runs (D + 1)) cd_X9_rings (w, z, LAY t) 191 [u0, some (.int y.1), u2, u3, u4, u5, u6] [] y.2 (LAY t))) (fun x o hx kc kq u3 u4 u5 u6 => T_X9_rings_b117 D t w z  x.1 x.2.1 x.2.2 u3 u4 u5 u6 o hx kc (fun e he => kq _ he e rfl)) mFU v e h ke0
set_option maxRecDepth 20000 in
theorem T_X9_rings (D : Nat) (t : mTX) (s : mSG) (o : Int32 × mSG) (h : X9_rings s = some o) : Runs (D + 2) 203 [.ref 56] s (LAY t) (some (.int o.1), o.2, LAY t) := by
  refine Runs_mk (d := D + 1) rfl ?_
  show Ex (Runs (D + 1)) cd_X9_rings (some (.int o.1), o.2, LAY t) 0 [some (.ref 56), none, none, none, none, none, none] [] s (LAY t)
  unfold X9_rings at h
  refine Ex_sti 4 (fun _ => rfl) ?_
  obtain ⟨e4, hl, h⟩ := m_bind h
  refine T_X9_rings_l4 D t (some (.int o.1)) o.2   (0, 0, s) _ hl (fun y0 hy0 => ?_) _ _ _ _
  · obtain ⟨e4, rfl⟩ : ∃ q, q = y0 := ⟨_, rfl⟩
    subst hy0
    intro vu2 vu3 vu4 vu5 vu6
    refine Ex_sti 2 (fun _ => rfl) ?_
    obtain ⟨e117, hl, h⟩ := m_bind h
    refine T_X9_rings_l117 D t (some (.int o.1)) o.2   (e4.1, 0, e4.2) _ hl (fun y0 hy0 => ?_) _ _ _ _
    · obtain ⟨e117, rfl⟩ : ∃ q, q = y0 := ⟨_, rfl⟩
      subst hy0
      intro vu0 vu2 vu3 vu4 vu5 vu6
      obtain rfl := Option.some.inj h
      exact Ex_ret 2 (fun _ => rfl) rfl

set_option maxRecDepth 20000 in
theorem T_X9_shaken_b54 (D : Nat) (t : mTX) (w : Option Value) (z : mSG) (x1 : Int32) (x2 : Int32) (x3 : Int32) (x4 : Int32) (s : mSG) (u5 u6 u7 u8 u9 : Option Value) (o : (Int32 × mSG) ⊕ mSG) (h : X9_shaken_b54 x1 x2 x3 x4 s = some o) (kc : ∀ y : Int32 × mSG, o = .inl y → ∀ (u5 u6 u7 u8 u9 : Option Value), Ex (Runs (D + 44)) cd_X9_shaken (w, z, LAY t) 54 [some (.ref 56), some (.int x1), some (.int x2), some (.int x3), some (.int y.1), u5, u6, u7, u8, u9] [] y.2 (LAY t)) (ke0 : ∀ y : mSG, o = .inr y → ∀ (u4 u5 u6 u7 u8 u9 : Option Value), Ex (Runs (D + 44)) cd_X9_shaken (w, z, LAY t) 76 [some (.ref 56), some (.int x1), some (.int x2), some (.int x3), u4, u5, u6, u7, u8, u9] [] y (LAY t)) : Ex (Runs (D + 44)) cd_X9_shaken (w, z, LAY t) 54 [some (.ref 56), some (.int x1), some (.int x2), some (.int x3), some (.int x4), u5, u6, u7, u8, u9] [] s (LAY t) := by
  unfold X9_shaken_b54 at h
  refine Ex_br 3 (800 ≤ x4) (fun _ => rfl) (fun hc6 => ?_) (fun hc6 => ?_)
  · rw [if_pos hc6] at h
    obtain rfl := Option.some.inj h
    exact ke0 _ rfl _ _ _ _ _ _
  · rw [if_neg hc6] at h
    obtain ⟨hg7, h⟩ := m_ite h
    refine Ex_gd 5 (fun _ => rfl) hg7 ?_
    refine Ex_sti 2 (fun _ => rfl) ?_
    obtain rfl := Option.some.inj h
    exact kc _ rfl _ _ _ _ _

theorem T_X9_shaken_l54 (D : Nat) (t : mTX) (w : Option Value) (z : mSG) (x1 : Int32) (x2 : Int32) (x3 : Int32) (v : Int32 × mSG) (e : mSG) (h : X9_shaken_l54 x1 x2 x3 v = some e) (ke0 : ∀ y : mSG, e = y → ∀ (u4 u5 u6 u7 u8 u9 : Option Value), Ex (Runs (D + 44)) cd_X9_shaken (w, z, LAY t) 76 [some (.ref 56), some (.int x1), some (.int x2), some (.int x3), u4, u5, u6, u7, u8, u9] [] y (LAY t)) : ∀ (u5 u6 u7 u8 u9 : Option Value), Ex (Runs (D + 44)) cd_X9_shaken (w, z, LAY t) 54 [some (.ref 56), some (.int x1), some (.int x2), some (.int x3), some (.int v.1), u5, u6, u7, u8, u9] [] v.2 (LAY t) :=
  m_iter (P := fun v : Int32 × mSG => ∀ (u5 u6 u7 u8 u9 : Option Value), Ex (Runs (D + 44)) cd_X9_shaken (w, z, LAY t) 54 [some (.ref 56), some (.int x1), some (.int x2), some (.int x3), some (.int v.1), u5, u6, u7, u8, u9] [] v.2 (LAY t)) (Q := fun e : mSG => (∀ y : mSG, e = y → ∀ (u4 u5 u6 u7 u8 u9 : Option Value), Ex (Runs (D + 44)) cd_X9_shaken (w, z, LAY t) 76 [some (.ref 56), some (.int x1), some (.int x2), some (.int x3), u4, u5, u6, u7, u8, u9] [] y (LAY t))) (fun x o hx kc kq u5 u6 u7 u8 u9 => T_X9_shaken_b54 D t w z x1 x2 x3 x.1 x.2 u5 u6 u7 u8 u9 o hx kc (fun e he => kq _ he e rfl)) mFU v e h ke0
set_option maxRecDepth 20000 in
theorem T_X9_shaken_j269_132 (D : Nat) (t : mTX) (w : Option Value) (z : mSG) (x1 : Int32) (x2 : Int32) (x3 : Int32) (x4 : Int32) (x5 : Int32) (x6 : Int32) (s : mSG) (u7 u8 u9 : Option Value) (o : (Int32 × mSG) ⊕ (mSG ⊕ mSG)) (h : X9_shaken_j269_132 x1 x2 x3 x4 x5 x6 s = some o) (kc : ∀ y : Int32 × mSG, o = .inl y → ∀ (u7 u8 u9 : Option Value), Ex (Runs (D + 44)) cd_X9_shaken (w, z, LAY t) 132 [some (.ref 56), some (.int x1), some (.int x2), some (.int x3), some (.int x4), some (.int x5), some (.int y.1), u7, u8, u9] [] y.2 (LAY t)) (ke0 : ∀ y : mSG, o = .inr (.inl y) → ∀ (u0 u1 u2 u3 u5 u6 u7 u8 u9 : Option Value), Ex (Runs (D + 44)) cd_X9_shaken (w, z, LAY t) 201 [u0, u1, u2, u3, some (.int x4), u5, u6, u7, u8, u9] [] y (LAY t)) (ke1 : ∀ y : mSG, o = .inr (.inr y) → ∀ (u6 u7 u8 u9 : Option Value), Ex (Runs (D + 44)) cd_X9_shaken (w, z, LAY t) 275 [some (.ref 56), some (.int x1), some (.int x2), some (.int x3), some (.int x4), some (.int x5), u6, u7, u8, u9] [] y (LAY t)) : Ex (Runs (D + 44)) cd_X9_shaken (w, z, LAY t) 269 [some (.ref 56), some (.int x1), some (.int x2), some (.int x3), some (.int x4), some (.int x5), some (.int x6), u7, u8, u9] [] s (LAY t) := by
  unfold X9_shaken_j269_132 at h
  refine Ex_sti 2 (fun _ => rfl) ?_
  obtain rfl := Option.some.inj h
  exact kc _ rfl _ _ _

set_option maxRecDepth 20000 in
theorem T_X9_shaken_j268_132 (D : Nat) (t : mTX) (w : Option Value) (z : mSG) (x1 : Int32) (x2 : Int32) (x3 : Int32) (x4 : Int32) (x5 : Int32) (x6 : Int32) (p1 : Int32) (p2 : Int32) (s : mSG) (u7 u8 u9 : Option Value) (o : (Int32 × mSG) ⊕ (mSG ⊕ mSG)) (h : X9_shaken_j268_132 x1 x2 x3 x4 x5 x6 p1 p2 s = some o) (kc : ∀ y : Int32 × mSG, o = .inl y → ∀ (u7 u8 u9 : Option Value), Ex (Runs (D + 44)) cd_X9_shaken (w, z, LAY t) 132 [some (.ref 56), some (.int x1), some (.int x2), some (.int x3), some (.int x4), some (.int x5), some (.int y.1), u7, u8, u9] [] y.2 (LAY t)) (ke0 : ∀ y : mSG, o = .inr (.inl y) → ∀ (u0 u1 u2 u3 u5 u6 u7 u8 u9 : Option Value), Ex (Runs (D + 44)) cd_X9_shaken (w, z, LAY t) 201 [u0, u1, u2, u3, some (.int x4), u5, u6, u7, u8, u9] [] y (LAY t)) (ke1 : ∀ y : mSG, o = .inr (.inr y) → ∀ (u6 u7 u8 u9 : Option Value), Ex (Runs (D + 44)) cd_X9_shaken (w, z, LAY t) 275 [some (.ref 56), some (.int x1), some (.int x2), some (.int x3), some (.int x4), some (.int x5), u6, u7, u8, u9] [] y (LAY t)) : Ex (Runs (D + 44)) cd_X9_shaken (w, z, LAY t) 268 [some (.ref 56), some (.int x1), some (.int x2), some (.int x3), some (.int x4), some (.int x5), some (.int x6), u7, u8, u9] [.int p2, .int p1, .ref 73] s (LAY t) := by
  unfold X9_shaken_j268_132 at h
  obtain ⟨hg20, h⟩ := m_ite h
  refine Ex_gd 1 (fun _ => rfl) hg20 ?_
  exact T_X9_shaken_j269_132 D t w z x1 x2 x3 x4 x5 x6 (sI s 73 p1.toNatClampNeg p2) _ _ _ _ h kc ke0 ke1

set_option maxRecDepth 20000 in
theorem T_X9_shaken_b132 (D : Nat) (t : mTX) (w : Option Value) (z : mSG) (x1 : Int32) (x2 : Int32) (x3 : Int32) (x4 : Int32) (x5 : Int32) (x6 : Int32) (s : mSG) (u7 u8 u9 : Option Value) (o : (Int32 × mSG) ⊕ (mSG ⊕ mSG)) (h : X9_shaken_b132 x1 x2 x3 x4 x5 x6 s = some o) (kc : ∀ y : Int32 × mSG, o = .inl y → ∀ (u7 u8 u9 : Option Value), Ex (Runs (D + 44)) cd_X9_shaken (w, z, LAY t) 132 [some (.ref 56), some (.int x1), some (.int x2), some (.int x3), some (.int x4), some (.int x5), some (.int y.1), u7, u8, u9] [] y.2 (LAY t)) (ke0 : ∀ y : mSG, o = .inr (.inl y) → ∀ (u0 u1 u2 u3 u5 u6 u7 u8 u9 : Option Value), Ex (Runs (D + 44)) cd_X9_shaken (w, z, LAY t) 201 [u0, u1, u2, u3, some (.int x4), u5, u6, u7, u8, u9] [] y (LAY t)) (ke1 : ∀ y : mSG, o = .inr (.inr y) → ∀ (u6 u7 u8 u9 : Option Value), Ex (Runs (D + 44)) cd_X9_shaken (w, z, LAY t) 275 [some (.ref 56), some (.int x1), some (.int x2), some (.int x3), some (.int x4), some (.int x5), u6, u7, u8, u9] [] y (LAY t)) : Ex (Runs (D + 44)) cd_X9_shaken (w, z, LAY t) 132 [some (.ref 56), some (.int x1), some (.int x2), some (.int x3), some (.int x4), some (.int x5), some (.int x6), u7, u8, u9] [] s (LAY t) := by
  unfold X9_shaken_b132 at h
  refine Ex_br 3 (8 ≤ x6) (fun _ => rfl) (fun hc11 => ?_) (fun hc11 => ?_)
  · rw [if_pos hc11] at h
    obtain rfl := Option.some.inj h
    exact ke1 _ rfl _ _ _ _
  · rw [if_neg hc11] at h
    obtain ⟨hg12, h⟩ := m_ite h
    refine Ex_gd 4 (fun _ => rfl) hg12 ?_
    refine Ex_br 2 ((s.1 73 x5.toNatClampNeg) = x4) (fun _ => rfl) (fun hc13 => ?_) (fun hc13 => ?_)
    · rw [if_pos hc13] at h
      refine Ex_gd 3 (fun _ => rfl) (by decide) ?_
      refine Ex_gd 4 (fun _ => rfl) (by decide) ?_
      refine Ex_gd 2 (fun _ => rfl) (by decide) ?_
      obtain ⟨r14, hr, h⟩ := m_bind h
      refine Ex_call 8 (fun _ => rfl) (T_X9_canGo D t x1 ((x5 / 10) - (x5 / 10) / 10 * 10) x3 (x5 / 100) x6 s r14 hr) rfl rfl ?_
      refine Ex_brZ 1 (r14.1) (fun _ => rfl) (fun hc => ?_) (fun hc => ?_)
      · rw [if_neg (m_nt hc)] at h
        exact T_X9_shaken_j269_132 D t w z x1 x2 x3 x4 x5 x6 r14.2 _ _ _ _ h kc ke0 ke1
      · rw [if_pos hc] at h
        refine Ex_gd 5 (fun _ => rfl) (by decide) ?_
        obtain ⟨r15, hr, h⟩ := m_bind h
        refine Ex_call 4 (fun _ => rfl) (T_X9_canGo D t x2 (x5 - x5 / 10 * 10) x3 (x5 / 100) x6 r14.2 r15 hr) rfl rfl ?_
        refine Ex_brZ 1 (r15.1) (fun _ => rfl) (fun hc => ?_) (fun hc => ?_)
        · rw [if_neg (m_nt hc)] at h
          obtain rfl := Option.some.inj h
          exact ke0 _ rfl _ _ _ _ _ _ _ _ _
        · rw [if_pos hc] at h
          obtain ⟨r16, hr, h⟩ := m_bind h
          refine Ex_call 9 (fun _ => rfl) (T_X9_soaks (D + 42) t x1 ((x5 / 10) - (x5 / 10) / 10 * 10) x3 r15.2 r16 hr) rfl rfl ?_
          refine Ex_gd 7 (fun _ => rfl) (by decide) ?_
          obtain ⟨r17, hr, h⟩ := m_bind h
          refine Ex_call 2 (fun _ => rfl) (T_X9_soaks (D + 42) t x2 (x5 - x5 / 10 * 10) x3 r15.2 r17 hr) rfl rfl ?_
          obtain ⟨hg18, h⟩ := m_ite h
          refine Ex_gd 9 (fun _ => rfl) hg18 ?_
          refine Ex_br 2 ((r15.2.1 73 (((100 * x6) + (10 * r16)) + r17).toNatClampNeg) = (-1)) (fun _ => rfl) (fun hc19 => ?_) (fun hc19 => ?_)
          · rw [if_pos hc19] at h
            refine Ex_sti 4 (fun _ => rfl) ?_
            exact T_X9_shaken_j268_132 D t w z x1 x2 x3 x4 x5 x6 (((100 * x6) + (10 * r16)) + r17) (x4 + 1) r15.2 _ _ _ _ h kc ke0 ke1
          · rw [if_neg hc19] at h
            refine Ex_gd 4 (fun _ => rfl) hg18 ?_
            exact T_X9_shaken_j268_132 D t w z x1 x2 x3 x4 x5 x6 (((100 * x6) + (10 * r16)) + r17) (r15.2.1 73 (((100 * x6) + (10 * r16)) + r17).toNatClampNeg) r15.2 _ _ _ _ h kc ke0 ke1
    · rw [if_neg hc13] at h
      obtain rfl := Option.some.inj h
      exact ke1 _ rfl _ _ _ _

theorem T_X9_shaken_l132 (D : Nat) (t : mTX) (w : Option Value) (z : mSG) (x1 : Int32) (x2 : Int32) (x3 : Int32) (x4 : Int32) (x5 : Int32) (v : Int32 × mSG) (e : (mSG ⊕ mSG)) (h : X9_shaken_l132 x1 x2 x3 x4 x5 v = some e) (ke0 : ∀ y : mSG, e = (.inl y) → ∀ (u0 u1 u2 u3 u5 u6 u7 u8 u9 : Option Value), Ex (Runs (D + 44)) cd_X9_shaken (w, z, LAY t) 201 [u0, u1, u2, u3, some (.int x4), u5, u6, u7, u8, u9] [] y (LAY t)) (ke1 : ∀ y : mSG, e = (.inr y) → ∀ (u6 u7 u8 u9 : Option Value), Ex (Runs (D + 44)) cd_X9_shaken (w, z, LAY t) 275 [some (.ref 56), some (.int x1), some (.int x2), some (.int x3), some (.int x4), some (.int x5), u6, u7, u8, u9] [] y (LAY t)) : ∀ (u7 u8 u9 : Option Value), Ex (Runs (D + 44)) cd_X9_shaken (w, z, LAY t) 132 [some (.ref 56), some (.int x1), some (.int x2), some (.int x3), some (.int x4), some (.int x5), some (.int v.1), u7, u8, u9] [] v.2 (LAY t) :=
  m_iter (P := fun v : Int32 × mSG => ∀ (u7 u8 u9 : Option Value), Ex (Runs (D + 44)) cd_X9_shaken (w, z, LAY t) 132 [some (.ref 56), some (.int x1), some (.int x2), some (.int x3), some (.int x4), some (.int x5), some (.int v.1), u7, u8, u9] [] v.2 (LAY t)) (Q := fun e : (mSG ⊕ mSG) => (∀ y : mSG, e = (.inl y) → ∀ (u0 u1 u2 u3 u5 u6 u7 u8 u9 : Option Value), Ex (Runs (D + 44)) cd_X9_shaken (w, z, LAY t) 201 [u0, u1, u2, u3, some (.int x4), u5, u6, u7, u8, u9] [] y (LAY t)) ∧ (∀ y : mSG, e = (.inr y) → ∀ (u6 u7 u8 u9 : Option Value), Ex (Runs (D + 44)) cd_X9_shaken (w, z, LAY t) 275 [some (.ref 56), some (.int x1), some (.int x2), some (.int x3), some (.int x4), some (.int x5), u6, u7, u8, u9] [] y (LAY t))) (fun x o hx kc kq u7 u8 u9 => T_X9_shaken_b132 D t w z x1 x2 x3 x4 x5 x.1 x.2 u7 u8 u9 o hx kc (fun e he => (kq _ (by rw [he])).1 e rfl) (fun e he => (kq _ (by rw [he])).2 e rfl)) mFU v e h ⟨ke0, ke1⟩
set_option maxRecDepth 20000 in
theorem T_X9_shaken_j275_121 (D : Nat) (t : mTX) (w : Option Value) (z : mSG) (x1 : Int32) (x2 : Int32) (x3 : Int32) (x4 : Int32) (x5 : Int32) (s : mSG) (u6 u7 u8 u9 : Option Value) (o : (Int32 × mSG) ⊕ (mSG ⊕ mSG)) (h : X9_shaken_j275_121 x1 x2 x3 x4 x5 s = some o) (kc : ∀ y : Int32 × mSG, o = .inl y → ∀ (u6 u7 u8 u9 : Option Value), Ex (Runs (D + 44)) cd_X9_shaken (w, z, LAY t) 121 [some (.ref 56), some (.int x1), some (.int x2), some (.int x3), some (.int x4), some (.int y.1), u6, u7, u8, u9] [] y.2 (LAY t)) (ke0 : ∀ y : mSG, o = .inr (.inl y) → ∀ (u0 u1 u2 u3 u5 u6 u7 u8 u9 : Option Value), Ex (Runs (D + 44)) cd_X9_shaken (w, z, LAY t) 201 [u0, u1, u2, u3, some (.int x4), u5, u6, u7, u8, u9] [] y (LAY t)) (ke1 : ∀ y : mSG, o = .inr (.inr y) → ∀ (u5 u6 u7 u8 u9 : Option Value), Ex (Runs (D + 44)) cd_X9_shaken (w, z, LAY t) 281 [some (.ref 56), some (.int x1), some (.int x2), some (.int x3), some (.int x4), u5, u6, u7, u8, u9] [] y (LAY t)) : Ex (Runs (D + 44)) cd_X9_shaken (w, z, LAY t) 275 [some (.ref 56), some (.int x1), some (.int x2), some (.int x3), some (.int x4), some (.int x5), u6, u7, u8, u9] [] s (LAY t) := by
  unfold X9_shaken_j275_121 at h
  refine Ex_sti 2 (fun _ => rfl) ?_
  obtain rfl := Option.some.inj h
  exact kc _ rfl _ _ _ _

set_option maxRecDepth 20000 in
theorem T_X9_shaken_b121 (D : Nat) (t : mTX) (w : Option Value) (z : mSG) (x1 : Int32) (x2 : Int32) (x3 : Int32) (x4 : Int32) (x5 : Int32) (s : mSG) (u6 u7 u8 u9 : Option Value) (o : (Int32 × mSG) ⊕ (mSG ⊕ mSG)) (h : X9_shaken_b121 x1 x2 x3 x4 x5 s = some o) (kc : ∀ y : Int32 × mSG, o = .inl y → ∀ (u6 u7 u8 u9 : Option Value), Ex (Runs (D + 44)) cd_X9_shaken (w, z, LAY t) 121 [some (.ref 56), some (.int x1), some (.int x2), some (.int x3), some (.int x4), some (.int y.1), u6, u7, u8, u9] [] y.2 (LAY t)) (ke0 : ∀ y : mSG, o = .inr (.inl y) → ∀ (u0 u1 u2 u3 u5 u6 u7 u8 u9 : Option Value), Ex (Runs (D + 44)) cd_X9_shaken (w, z, LAY t) 201 [u0, u1, u2, u3, some (.int x4), u5, u6, u7, u8, u9] [] y (LAY t)) (ke1 : ∀ y : mSG, o = .inr (.inr y) → ∀ (u5 u6 u7 u8 u9 : Option Value), Ex (Runs (D + 44)) cd_X9_shaken (w, z, LAY t) 281 [some (.ref 56), some (.int x1), some (.int x2), some (.int x3), some (.int x4), u5, u6, u7, u8, u9] [] y (LAY t)) : Ex (Runs (D + 44)) cd_X9_shaken (w, z, LAY t) 121 [some (.ref 56), some (.int x1), some (.int x2), some (.int x3), some (.int x4), some (.int x5), u6, u7, u8, u9] [] s (LAY t) := by
  unfold X9_shaken_b121 at h
  refine Ex_br 3 (800 ≤ x5) (fun _ => rfl) (fun hc10 => ?_) (fun hc10 => ?_)
  · rw [if_pos hc10] at h
    obtain rfl := Option.some.inj h
    exact ke1 _ rfl _ _ _ _ _
  · rw [if_neg hc10] at h
    refine Ex_sti 2 (fun _ => rfl) ?_
    obtain ⟨e132, hl, h⟩ := m_bind h
    refine T_X9_shaken_l132 D t w z x1 x2 x3 x4 x5  (0, s) _ hl (fun y0 hy0 => ?_) (fun y1 hy1 => ?_) _ _ _
    · obtain ⟨e132_0, rfl⟩ : ∃ q, q = y0 := ⟨_, rfl⟩
      subst hy0
      simp only [Sum.elim_inl, Sum.elim_inr] at h
      intro vu0 vu1 vu2 vu3 vu5 vu6 vu7 vu8 vu9
      obtain rfl := Option.some.inj h
      exact ke0 _ rfl _ _ _ _ _ _ _ _ _
    · obtain ⟨e132_1, rfl⟩ : ∃ q, q = y1 := ⟨_, rfl⟩
      subst hy1
      simp only [Sum.elim_inl, Sum.elim_inr] at h
      intro vu6 vu7 vu8 vu9
      exact T_X9_shaken_j275_121 D t w z x1 x2 x3 x4 x5 e132_1 _ _ _ _ _ h kc ke0 ke1

theorem T_X9_shaken_l121 (D : Nat) (t : mTX) (w : Option Value) (z : mSG) (x1 : Int32) (x2 : Int32) (x3 : Int32) (x4 : Int32) (v : Int32 × mSG) (e : (mSG ⊕ mSG)) (h : X9_shaken_l121 x1 x2 x3 x4 v = some e) (ke0 : ∀ y : mSG, e = (.inl y) → ∀ (u0 u1 u2 u3 u5 u6 u7 u8 u9 : Option Value), Ex (Runs (D + 44)) cd_X9_shaken (w, z, LAY t) 201 [u0, u1, u2, u3, some (.int x4), u5, u6, u7, u8, u9] [] y (LAY t)) (ke1 : ∀ y : mSG, e = (.inr y) → ∀ (u5 u6 u7 u8 u9 : Option Value), Ex (Runs (D + 44)) cd_X9_shaken (w, z, LAY t) 281 [some (.ref 56), some (.int x1), some (.int x2), some (.int x3), some (.int x4), u5, u6, u7, u8, u9] [] y (LAY t)) : ∀ (u6 u7 u8 u9 : Option Value), Ex (Runs (D + 44)) cd_X9_shaken (w, z, LAY t) 121 [some (.ref 56), some (.int x1), some (.int x2), some (.int x3), some (.int x4), some (.int v.1), u6, u7, u8, u9] [] v.2 (LAY t) :=
  m_iter (P := fun v : Int32 × mSG => ∀ (u6 u7 u8 u9 : Option Value), Ex (Runs (D + 44)) cd_X9_shaken (w, z, LAY t) 121 [some (.ref 56), some (.int x1), some (.int x2), some (.int x3), some (.int x4), some (.int v.1), u6, u7, u8, u9] [] v.2 (LAY t)) (Q := fun e : (mSG ⊕ mSG) => (∀ y : mSG, e = (.inl y) → ∀ (u0 u1 u2 u3 u5 u6 u7 u8 u9 : Option Value), Ex (Runs (D + 44)) cd_X9_shaken (w, z, LAY t) 201 [u0, u1, u2, u3, some (.int x4), u5, u6, u7, u8, u9] [] y (LAY t)) ∧ (∀ y : mSG, e = (.inr y) → ∀ (u5 u6 u7 u8 u9 : Option Value), Ex (Runs (D + 44)) cd_X9_shaken (w, z, LAY t) 281 [some (.ref 56), some (.int x1), some (.int x2), some (.int x3), some (.int x4), u5, u6, u7, u8, u9] [] y (LAY t))) (fun x o hx kc kq u6 u7 u8 u9 => T_X9_shaken_b121 D t w z x1 x2 x3 x4 x.1 x.2 u6 u7 u8 u9 o hx kc (fun e he => (kq _ (by rw [he])).1 e rfl) (fun e he => (kq _ (by rw [he])).2 e rfl)) mFU v e h ⟨ke0, ke1⟩
set_option maxRecDepth 20000 in
theorem T_X9_shaken_b111 (D : Nat) (t : mTX) (w : Option Value) (z : mSG) (x1 : Int32) (x2 : Int32) (x3 : Int32) (x4 : Int32) (s : mSG) (u5 u6 u7 u8 u9 : Option Value) (o : (Int32 × mSG) ⊕ ((Int32 × mSG) ⊕ mSG)) (h : X9_shaken_b111 x1 x2 x3 x4 s = some o) (kc : ∀ y : Int32 × mSG, o = .inl y → ∀ (u5 u6 u7 u8 u9 : Option Value), Ex (Runs (D + 44)) cd_X9_shaken (w, z, LAY t) 111 [some (.ref 56), some (.int x1), some (.int x2), some (.int x3), some (.int y.1), u5, u6, u7, u8, u9] [] y.2 (LAY t)) (ke0 : ∀ y : Int32 × mSG, o = .inr (.inl y) → ∀ (u0 u1 u2 u3 u5 u6 u7 u8 u9 : Option Value), Ex (Runs (D + 44)) cd_X9_shaken (w, z, LAY t) 201 [u0, u1, u2, u3, some (.int y.1), u5, u6, u7, u8, u9] [] y.2 (LAY t)) (ke1 : ∀ y : mSG, o = .inr (.inr y) → ∀ (u0 u1 u2 u3 u4 u5 u6 u7 u8 u9 : Option Value), Ex (Runs (D + 44)) cd_X9_shaken (w, z, LAY t) 287 [u0, u1, u2, u3, u4, u5, u6, u7, u8, u9] [] y (LAY t)) : Ex (Runs (D + 44)) cd_X9_shaken (w, z, LAY t) 111 [some (.ref 56), some (.int x1), some (.int x2), some (.int x3), some (.int x4), u5, u6, u7, u8, u9] [] s (LAY t) := by
  unfold X9_shaken_b111 at h
  refine Ex_br 3 (8 ≤ x4) (fun _ => rfl) (fun hc9 => ?_) (fun hc9 => ?_)
  · rw [if_pos hc9] at h
    obtain rfl := Option.some.inj h
    exact ke1 _ rfl _ _ _ _ _ _ _ _ _ _
  · rw [if_neg hc9] at h
    refine Ex_sti 2 (fun _ => rfl) ?_
    obtain ⟨e121, hl, h⟩ := m_bind h
    refine T_X9_shaken_l121 D t w z x1 x2 x3 x4  (0, s) _ hl (fun y0 hy0 => ?_) (fun y1 hy1 => ?_) _ _ _ _
    · obtain ⟨e121_0, rfl⟩ : ∃ q, q = y0 := ⟨_, rfl⟩
      subst hy0
      simp only [Sum.elim_inl, Sum.elim_inr] at h
      intro vu0 vu1 vu2 vu3 vu5 vu6 vu7 vu8 vu9
      obtain rfl := Option.some.inj h
      exact ke0 _ rfl _ _ _ _ _ _ _ _ _
    · obtain ⟨e121_1, rfl⟩ : ∃ q, q = y1 := ⟨_, rfl⟩
      subst hy1
      simp only [Sum.elim_inl, Sum.elim_inr] at h
      intro vu5 vu6 vu7 vu8 vu9
      refine Ex_sti 2 (fun _ => rfl) ?_
      obtain rfl := Option.some.inj h
      exact kc _ rfl _ _ _ _ _

theorem T_X9_shaken_l111 (D : Nat) (t : mTX) (w : Option Value) (z : mSG) (x1 : Int32) (x2 : Int32) (x3 : Int32) (v : Int32 × mSG) (e : ((Int32 × mSG) ⊕ mSG)) (h : X9_shaken_l111 x1 x2 x3 v = some e) (ke0 : ∀ y : Int32 × mSG, e = (.inl y) → ∀ (u0 u1 u2 u3 u5 u6 u7 u8 u9 : Option Value), Ex (Runs (D + 44)) cd_X9_shaken (w, z, LAY t) 201 [u0, u1, u2, u3, some (.int y.1), u5, u6, u7, u8, u9] [] y.2 (LAY t)) (ke1 : ∀ y : mSG, e = (.inr y) → ∀ (u0 u1 u2 u3 u4 u5 u6 u7 u8 u9 : Option Value), Ex (Runs (D + 44)) cd_X9_shaken (w, z, LAY t) 287 [u0, u1, u2, u3, u4, u5, u6, u7, u8, u9] [] y (LAY t)) : ∀ (u5 u6 u7 u8 u9 : Option Value), Ex (Runs (D + 44)) cd_X9_shaken (w, z, LAY t) 111 [some (.ref 56), some (.int x1), some (.int x2), some (.int x3), some (.int v.1), u5, u6, u7, u8, u9] [] v.2 (LAY t) :=
  m_iter (P := fun v : Int32 × mSG => ∀ (u5 u6 u7 u8 u9 : Option Value), Ex (Runs (D + 44)) cd_X9_shaken (w, z, LAY t) 111 [some (.ref 56), some (.int x1), some (.int x2), some (.int x3), some (.int v.1), u5, u6, u7, u8, u9] [] v.2 (LAY t)) (Q := fun e : ((Int32 × mSG) ⊕ mSG) => (∀ y : Int32 × mSG, e = (.inl y) → ∀ (u0 u1 u2 u3 u5 u6 u7 u8 u9 : Option Value), Ex (Runs (D + 44)) cd_X9_shaken (w, z, LAY t) 201 [u0, u1, u2, u3, some (.int y.1), u5, u6, u7, u8, u9] [] y.2 (LAY t)) ∧ (∀ y : mSG, e = (.inr y) → ∀ (u0 u1 u2 u3 u4 u5 u6 u7 u8 u9 : Option Value), Ex (Runs (D + 44)) cd_X9_shaken (w, z, LAY t) 287 [u0, u1, u2, u3, u4, u5, u6, u7, u8, u9] [] y (LAY t))) (fun x o hx kc kq u5 u6 u7 u8 u9 => T_X9_shaken_b111 D t w z x1 x2 x3 x.1 x.2 u5 u6 u7 u8 u9 o hx kc (fun e he => (kq _ (by rw [he])).1 e rfl) (fun e he => (kq _ (by rw [he])).2 e rfl)) mFU v e h ⟨ke0, ke1⟩
set_option maxRecDepth 20000 in
theorem T_X9_shaken (D : Nat) (t : mTX) (x1 : Int32) (x2 : Int32) (s : mSG) (o : Int32 × mSG) (h : X9_shaken x1 x2 s = some o) : Runs (D + 45) 204 [.ref 56, .int x1, .int x2] s (LAY t) (some (.int o.1), o.2, LAY t) := by
  refine Runs_mk (d := D + 44) rfl ?_
  show Ex (Runs (D + 44)) cd_X9_shaken (some (.int o.1), o.2, LAY t) 0 [some (.ref 56), some (.int x1), some (.int x2), none, none, none, none, none, none, none] [] s (LAY t)
  unfold X9_shaken at h
  refine Ex_call 3 (fun _ => rfl) (T_X9_isOne (D + 42) t x1 s _ rfl) rfl rfl ?_
  refine Ex_brZ 1 (X9_isOne x1 s) (fun _ => rfl) (fun hc => ?_) (fun hc => ?_)
  · rw [if_neg (m_nt hc)] at h
    obtain rfl := Option.some.inj h
    exact Ex_ret 2 (fun _ => rfl) rfl
  · rw [if_pos hc] at h
    refine Ex_call 3 (fun _ => rfl) (T_X9_isOne (D + 42) t x2 s _ rfl) rfl rfl ?_
    refine Ex_brZ 1 (X9_isOne x2 s) (fun _ => rfl) (fun hc => ?_) (fun hc => ?_)
    · rw [if_neg (m_nt hc)] at h
      obtain rfl := Option.some.inj h
      exact Ex_ret 2 (fun _ => rfl) rfl
    · rw [if_pos hc] at h
      refine Ex_br 3 (x1 = x2) (fun _ => rfl) (fun hc1 => ?_) (fun hc1 => ?_)
      · rw [if_pos hc1] at h
        obtain rfl := Option.some.inj h
        exact Ex_ret 2 (fun _ => rfl) rfl
      · rw [if_neg hc1] at h
        obtain ⟨hg2, h⟩ := m_ite h
        refine Ex_gd 4 (fun _ => rfl) hg2 ?_
        obtain ⟨hg3, h⟩ := m_ite h
        refine Ex_gd 4 (fun _ => rfl) hg3 ?_
        refine Ex_br 1 ((s.1 65 x1.toNatClampNeg) = (s.1 65 x2.toNatClampNeg)) (fun _ => rfl) (fun hc4 => ?_) (fun hc4 => ?_)
        · rw [if_pos hc4] at h
          obtain ⟨r5, hr, h⟩ := m_bind h
          refine Ex_call 4 (fun _ => rfl) (T_X9_rainAt (D + 43) t (s.1 56 16) s r5 hr) rfl rfl ?_
          refine Ex_sti 3 (fun _ => rfl) ?_
          obtain ⟨e54, hl, h⟩ := m_bind h
          refine T_X9_shaken_l54 D t (some (.int o.1)) o.2 x1 x2 r5  (0, s) _ hl (fun y0 hy0 => ?_) _ _ _ _ _
          · obtain ⟨e54, rfl⟩ : ∃ q, q = y0 := ⟨_, rfl⟩
            subst hy0
            intro vu4 vu5 vu6 vu7 vu8 vu9
            refine Ex_gd 7 (fun _ => rfl) hg2 ?_
            refine Ex_gd 6 (fun _ => rfl) hg2 ?_
            refine Ex_gd 6 (fun _ => rfl) hg3 ?_
            obtain ⟨hg21, h⟩ := m_ite h
            refine Ex_gd 3 (fun _ => rfl) hg21 ?_
            refine Ex_sti 2 (fun _ => rfl) ?_
            obtain ⟨e111, hl, h⟩ := m_bind h
            refine T_X9_shaken_l111 D t (some (.int o.1)) o.2 x1 x2 r5  (0, sI e54 73 (((100 * (e54.1 65 x1.toNatClampNeg)) + (10 * (e54.1 66 x1.toNatClampNeg))) + (e54.1 66 x2.toNatClampNeg)).toNatClampNeg 0) _ hl (fun y0 hy0 => ?_) (fun y1 hy1 => ?_) _ _ _ _ _
            · obtain ⟨e111_0, rfl⟩ : ∃ q, q = y0 := ⟨_, rfl⟩
              subst hy0
              simp only [Sum.elim_inl, Sum.elim_inr] at h
              intro vu0 vu1 vu2 vu3 vu5 vu6 vu7 vu8 vu9
              obtain rfl := Option.some.inj h
              exact Ex_ret 4 (fun _ => rfl) rfl
            · obtain ⟨e111_1, rfl⟩ : ∃ q, q = y1 := ⟨_, rfl⟩
              subst hy1
              simp only [Sum.elim_inl, Sum.elim_inr] at h
              intro vu0 vu1 vu2 vu3 vu4 vu5 vu6 vu7 vu8 vu9
              obtain rfl := Option.some.inj h
              exact Ex_ret 2 (fun _ => rfl) rfl
        · rw [if_neg hc4] at h
          obtain rfl := Option.some.inj h
          exact Ex_ret 2 (fun _ => rfl) rfl

set_option maxRecDepth 20000 in
theorem T_X9_isSheet (D : Nat) (t : mTX) (x0 : Int32) (s : mSG) (o : Bool) (h : X9_isSheet x0 = o) : Runs (D + 2) 217 [.int x0] s (LAY t) (some (.int (b2i o)), s, LAY t) := by
  refine Runs_mk (d := D + 1) rfl ?_
  show Ex (Runs (D + 1)) cd_X9_isSheet (some (.int (b2i o)), s, LAY t) 0 [some (.int x0)] [] s (LAY t)
  unfold X9_isSheet at h
  refine Ex_call 5 (fun _ => rfl) (T_X9_in D t x0.toInt64 0 3 s _ rfl) rfl rfl ?_
  subst h
  exact Ex_retZ 1 (fun _ => rfl) (b2i_01 _) rfl

set_option maxRecDepth 20000 in
theorem T_X9_prints_b24 (D : Nat) (t : mTX) (w : Option Value) (z : mSG) (x1 : Int32) (x2 : Int32) (s : mSG) (u3 u4 u5 u6 u7 : Option Value) (o : Int32 ⊕ (Unit ⊕ Unit)) (h : X9_prints_b24 x1 x2 s = some o) (kc : ∀ y : Int32, o = .inl y → ∀ (u3 u4 u5 u6 u7 : Option Value), Ex (Runs (D + 44)) cd_X9_prints (w, z, LAY t) 24 [some (.ref 56), some (.int x1), some (.int y), u3, u4, u5, u6, u7] [] s (LAY t)) (ke0 : ∀ y : Unit, o = .inr (.inl y) → ∀ (u0 u1 u2 u3 u4 u5 u6 u7 : Option Value), Ex (Runs (D + 44)) cd_X9_prints (w, z, LAY t) 51 [u0, u1, u2, u3, u4, u5, u6, u7] [] s (LAY t)) (ke1 : ∀ y : Unit, o = .inr (.inr y) → ∀ (u2 u3 u4 u5 u6 u7 : Option Value), Ex (Runs (D + 44)) cd_X9_prints (w, z, LAY t) 60 [some (.ref 56), some (.int x1), u2, u3, u4, u5, u6, u7] [] s (LAY t)) : Ex (Runs (D + 44)) cd_X9_prints (w, z, LAY t) 24 [some (.ref 56), some (.int x1), some (.int x2), u3, u4, u5, u6, u7] [] s (LAY t) := by
  unfold X9_prints_b24 at h
  obtain ⟨hg3, h⟩ := m_ite h
  refine Ex_gd 5 (fun _ => rfl) hg3 ?_
  refine Ex_br 1 ((s.1 82 x1.toNatClampNeg) ≤ x2) (fun _ => rfl) (fun hc4 => ?_) (fun hc4 => ?_)
  · rw [if_pos hc4] at h
    obtain rfl := Option.some.inj h
    exact ke1 _ rfl _ _ _ _ _ _
  · rw [if_neg hc4] at h
    obtain ⟨hg5, h⟩ := m_ite h
    refine Ex_gd 8 (fun _ => rfl) hg5 ?_
    refine Ex_call 1 (fun _ => rfl) (T_X9_isStone (D + 42) t (s.1 83 ((40 * x1) + x2).toNatClampNeg) s _ rfl) rfl rfl ?_
    refine Ex_brZ 1 (X9_isStone (s.1 83 ((40 * x1) + x2).toNatClampNeg)) (fun _ => rfl) (fun hc => ?_) (fun hc => ?_)
    · rw [if_neg (m_nt hc)] at h
      obtain rfl := Option.some.inj h
      exact ke0 _ rfl _ _ _ _ _ _ _ _
    · rw [if_pos hc] at h
      refine Ex_sti 2 (fun _ => rfl) ?_
      obtain rfl := Option.some.inj h
      exact kc _ rfl _ _ _ _ _

theorem T_X9_prints_l24 (D : Nat) (t : mTX) (w : Option Value) (z : mSG) (x1 : Int32) (s : mSG) (v : Int32) (e : (Unit ⊕ Unit)) (h : X9_prints_l24 x1 s v = some e) (ke0 : ∀ y : Unit, e = (.inl y) → ∀ (u0 u1 u2 u3 u4 u5 u6 u7 : Option Value), Ex (Runs (D + 44)) cd_X9_prints (w, z, LAY t) 51 [u0, u1, u2, u3, u4, u5, u6, u7] [] s (LAY t)) (ke1 : ∀ y : Unit, e = (.inr y) → ∀ (u2 u3 u4 u5 u6 u7 : Option Value), Ex (Runs (D + 44)) cd_X9_prints (w, z, LAY t) 60 [some (.ref 56), some (.int x1), u2, u3, u4, u5, u6, u7] [] s (LAY t)) : ∀ (u3 u4 u5 u6 u7 : Option Value), Ex (Runs (D + 44)) cd_X9_prints (w, z, LAY t) 24 [some (.ref 56), some (.int x1), some (.int v), u3, u4, u5, u6, u7] [] s (LAY t) :=
  m_iter (P := fun v : Int32 => ∀ (u3 u4 u5 u6 u7 : Option Value), Ex (Runs (D + 44)) cd_X9_prints (w, z, LAY t) 24 [some (.ref 56), some (.int x1), some (.int v), u3, u4, u5, u6, u7] [] s (LAY t)) (Q := fun e : (Unit ⊕ Unit) => (∀ y : Unit, e = (.inl y) → ∀ (u0 u1 u2 u3 u4 u5 u6 u7 : Option Value), Ex (Runs (D + 44)) cd_X9_prints (w, z, LAY t) 51 [u0, u1, u2, u3, u4, u5, u6, u7] [] s (LAY t)) ∧ (∀ y : Unit, e = (.inr y) → ∀ (u2 u3 u4 u5 u6 u7 : Option Value), Ex (Runs (D + 44)) cd_X9_prints (w, z, LAY t) 60 [some (.ref 56), some (.int x1), u2, u3, u4, u5, u6, u7] [] s (LAY t))) (fun x o hx kc kq u3 u4 u5 u6 u7 => T_X9_prints_b24 D t w z x1 x s u3 u4 u5 u6 u7 o hx kc (fun e he => (kq _ (by rw [he])).1 e rfl) (fun e he => (kq _ (by rw [he])).2 e rfl)) mFU v e h ⟨ke0, ke1⟩
set_option maxRecDepth 20000 in
theorem T_X9_prints_j170_111 (D : Nat) (t : mTX) (w : Option Value) (z : mSG) (x1 : Int32) (x2 : Int32) (x3 : Int32) (x4 : Int32) (x5 : Int32) (x7 : Int32) (p0 : Int32) (s : mSG) (u6 : Option Value) (o : (Int32 × Int32 × Int32 × mSG) ⊕ Int32 × mSG) (h : X9_prints_j170_111 x1 x2 x3 x4 x5 x7 p0 s = some o) (kc : ∀ y : Int32 × Int32 × Int32 × mSG, o = .inl y → Ex (Runs (D + 44)) cd_X9_prints (w, z, LAY t) 111 [some (.ref 56), some (.int x1), some (.int x2), some (.int x3), some (.int x4), some (.int y.1), some (.int y.2.1), some (.int y.2.2.1)] [] y.2.2.2 (LAY t)) (ke0 : ∀ y : Int32 × mSG, o = .inr y → ∀ (u5 u7 : Option Value), Ex (Runs (D + 44)) cd_X9_prints (w, z, LAY t) 189 [some (.ref 56), some (.int x1), some (.int x2), some (.int x3), some (.int x4), u5, some (.int y.1), u7] [] y.2 (LAY t)) : Ex (Runs (D + 44)) cd_X9_prints (w, z, LAY t) 170 [some (.ref 56), some (.int x1), some (.int x2), some (.int x3), some (.int x4), some (.int x5), u6, some (.int x7)] [.int p0] s (LAY t) := by
  unfold X9_prints_j170_111 at h
  obtain ⟨r16, hr, h⟩ := m_bind h
  refine Ex_call 6 (fun _ => rfl) (T_X9_soaks (D + 42) t x4 x5 x2 s r16 hr) rfl rfl ?_
  refine Ex_sti 3 (fun _ => rfl) ?_
  obtain rfl := Option.some.inj h
  exact kc _ rfl 

set_option maxRecDepth 20000 in
theorem T_X9_prints_j169_111 (D : Nat) (t : mTX) (w : Option Value) (z : mSG) (x1 : Int32) (x2 : Int32) (x3 : Int32) (x4 : Int32) (x5 : Int32) (x7 : Int32) (s : mSG) (u6 : Option Value) (o : (Int32 × Int32 × Int32 × mSG) ⊕ Int32 × mSG) (h : X9_prints_j169_111 x1 x2 x3 x4 x5 x7 s = some o) (kc : ∀ y : Int32 × Int32 × Int32 × mSG, o = .inl y → Ex (Runs (D + 44)) cd_X9_prints (w, z, LAY t) 111 [some (.ref 56), some (.int x1), some (.int x2), some (.int x3), some (.int x4), some (.int y.1), some (.int y.2.1), some (.int y.2.2.1)] [] y.2.2.2 (LAY t)) (ke0 : ∀ y : Int32 × mSG, o = .inr y → ∀ (u5 u7 : Option Value), Ex (Runs (D + 44)) cd_X9_prints (w, z, LAY t) 189 [some (.ref 56), some (.int x1), some (.int x2), some (.int x3), some (.int x4), u5, some (.int y.1), u7] [] y.2 (LAY t)) : Ex (Runs (D + 44)) cd_X9_prints (w, z, LAY t) 169 [some (.ref 56), some (.int x1), some (.int x2), some (.int x3), some (.int x4), some (.int x5), u6, some (.int x7)] [] s (LAY t) := by
  unfold X9_prints_j169_111 at h
  refine Ex_sti 1 (fun _ => rfl) ?_
  exact T_X9_prints_j170_111 D t w z x1 x2 x3 x4 x5 x7 0 s _ _ h kc ke0

set_option maxRecDepth 20000 in
theorem T_X9_prints_b111 (D : Nat) (t : mTX) (w : Option Value) (z : mSG) (x1 : Int32) (x2 : Int32) (x3 : Int32) (x4 : Int32) (x5 : Int32) (x6 : Int32) (x7 : Int32) (s : mSG) (o : (Int32 × Int32 × Int32 × mSG) ⊕ Int32 × mSG) (h : X9_prints_b111 x1 x2 x3 x4 x5 x6 x7 s = some o) (kc : ∀ y : Int32 × Int32 × Int32 × mSG, o = .inl y → Ex (Runs (D + 44)) cd_X9_prints (w, z, LAY t) 111 [some (.ref 56), some (.int x1), some (.int x2), some (.int x3), some (.int x4), some (.int y.1), some (.int y.2.1), some (.int y.2.2.1)] [] y.2.2.2 (LAY t)) (ke0 : ∀ y : Int32 × mSG, o = .inr y → ∀ (u5 u7 : Option Value), Ex (Runs (D + 44)) cd_X9_prints (w, z, LAY t) 189 [some (.ref 56), some (.int x1), some (.int x2), some (.int x3), some (.int x4), u5, some (.int y.1), u7] [] y.2 (LAY t)) : Ex (Runs (D + 44)) cd_X9_prints (w, z, LAY t) 111 [some (.ref 56), some (.int x1), some (.int x2), some (.int x3), some (.int x4), some (.int x5), some (.int x6), some (.int x7)] [] s (LAY t) := by
  unfold X9_prints_b111 at h
  obtain ⟨hg10, h⟩ := m_ite h
  refine Ex_gd 5 (fun _ => rfl) hg10 ?_
  refine Ex_br 1 ((s.1 82 x1.toNatClampNeg) ≤ x7) (fun _ => rfl) (fun hc11 => ?_) (fun hc11 => ?_)
  · rw [if_pos hc11] at h
    obtain rfl := Option.some.inj h
    exact ke0 _ rfl _ _
  · rw [if_neg hc11] at h
    refine Ex_br 2 (x6 = 0) (fun _ => rfl) (fun hc12 => ?_) (fun hc12 => ?_)
    · rw [if_pos hc12] at h
      exact T_X9_prints_j169_111 D t w z x1 x2 x3 x4 x5 x7 s _ _ h kc ke0
    · rw [if_neg hc12] at h
      obtain ⟨hg13, h⟩ := m_ite h
      refine Ex_gd 14 (fun _ => rfl) hg13 ?_
      obtain ⟨hg14, h⟩ := m_ite h
      refine Ex_gd 8 (fun _ => rfl) hg14 ?_
      obtain ⟨r15, hr, h⟩ := m_bind h
      refine Ex_call 1 (fun _ => rfl) (T_X9_canGo D t x4 x5 x2 (s.1 83 (((40 * x1) + x7) - 1).toNatClampNeg) (s.1 83 ((40 * x1) + x7).toNatClampNeg) s r15 hr) rfl rfl ?_
      refine Ex_brZ 1 (r15.1) (fun _ => rfl) (fun hc => ?_) (fun hc => ?_)
      · rw [if_neg (m_nt hc)] at h
        exact T_X9_prints_j169_111 D t w z x1 x2 x3 x4 x5 x7 r15.2 _ _ h kc ke0
      · rw [if_pos hc] at h
        refine Ex_sti 2 (fun _ => rfl) ?_
        exact T_X9_prints_j170_111 D t w z x1 x2 x3 x4 x5 x7 1 r15.2 _ _ h kc ke0

theorem T_X9_prints_l111 (D : Nat) (t : mTX) (w : Option Value) (z : mSG) (x1 : Int32) (x2 : Int32) (x3 : Int32) (x4 : Int32) (v : Int32 × Int32 × Int32 × mSG) (e : Int32 × mSG) (h : X9_prints_l111 x1 x2 x3 x4 v = some e) (ke0 : ∀ y : Int32 × mSG, e = y → ∀ (u5 u7 : Option Value), Ex (Runs (D + 44)) cd_X9_prints (w, z, LAY t) 189 [some (.ref 56), some (.int x1), some (.int x2), some (.int x3), some (.int x4), u5, some (.int y.1), u7] [] y.2 (LAY t)) : Ex (Runs (D + 44)) cd_X9_prints (w, z, LAY t) 111 [some (.ref 56), some (.int x1), some (.int x2), some (.int x3), some (.int x4), some (.int v.1), some (.int v.2.1), some (.int v.2.2.1)] [] v.2.2.2 (LAY t) :=
  m_iter (P := fun v : Int32 × Int32 × Int32 × mSG => Ex (Runs (D + 44)) cd_X9_prints (w, z, LAY t) 111 [some (.ref 56), some (.int x1), some (.int x2), some (.int x3), some (.int x4), some (.int v.1), some (.int v.2.1), some (.int v.2.2.1)] [] v.2.2.2 (LAY t)) (Q := fun e : Int32 × mSG => (∀ y : Int32 × mSG, e = y → ∀ (u5 u7 : Option Value), Ex (Runs (D + 44)) cd_X9_prints (w, z, LAY t) 189 [some (.ref 56), some (.int x1), some (.int x2), some (.int x3), some (.int x4), u5, some (.int y.1), u7] [] y.2 (LAY t))) (fun x o hx kc kq  => T_X9_prints_b111 D t w z x1 x2 x3 x4 x.1 x.2.1 x.2.2.1 x.2.2.2  o hx kc (fun e he => kq _ he e rfl)) mFU v e h ke0
set_option maxRecDepth 20000 in
theorem T_X9_prints_j200_87 (D : Nat) (t : mTX) (w : Option Value) (z : mSG) (x1 : Int32) (x2 : Int32) (x4 : Int32) (p0 : Int32) (p1 : Int32) (s : mSG) (u3 u5 u6 u7 : Option Value) (o : (Int32 × Int32 × mSG) ⊕ Int32 × mSG) (h : X9_prints_j200_87 x1 x2 x4 p0 p1 s = some o) (kc : ∀ y : Int32 × Int32 × mSG, o = .inl y → ∀ (u5 u6 u7 : Option Value), Ex (Runs (D + 44)) cd_X9_prints (w, z, LAY t) 87 [some (.ref 56), some (.int x1), some (.int x2), some (.int y.1), some (.int y.2.1), u5, u6, u7] [] y.2.2 (LAY t)) (ke0 : ∀ y : Int32 × mSG, o = .inr y → ∀ (u0 u1 u2 u4 u5 u6 u7 : Option Value), Ex (Runs (D + 44)) cd_X9_prints (w, z, LAY t) 211 [u0, u1, u2, some (.int y.1), u4, u5, u6, u7] [] y.2 (LAY t)) : Ex (Runs (D + 44)) cd_X9_prints (w, z, LAY t) 200 [some (.ref 56), some (.int x1), some (.int x2), u3, some (.int x4), u5, u6, u7] [.int p1, .int p0] s (LAY t) := by
  unfold X9_prints_j200_87 at h
  refine Ex_sti 6 (fun _ => rfl) ?_
  obtain rfl := Option.some.inj h
  exact kc _ rfl _ _ _

set_option maxRecDepth 20000 in
theorem T_X9_prints_b87 (D : Nat) (t : mTX) (w : Option Value) (z : mSG) (x1 : Int32) (x2 : Int32) (x3 : Int32) (x4 : Int32) (s : mSG) (u5 u6 u7 : Option Value) (o : (Int32 × Int32 × mSG) ⊕ Int32 × mSG) (h : X9_prints_b87 x1 x2 x3 x4 s = some o) (kc : ∀ y : Int32 × Int32 × mSG, o = .inl y → ∀ (u5 u6 u7 : Option Value), Ex (Runs (D + 44)) cd_X9_prints (w, z, LAY t) 87 [some (.ref 56), some (.int x1), some (.int x2), some (.int y.1), some (.int y.2.1), u5, u6, u7] [] y.2.2 (LAY t)) (ke0 : ∀ y : Int32 × mSG, o = .inr y → ∀ (u0 u1 u2 u4 u5 u6 u7 : Option Value), Ex (Runs (D + 44)) cd_X9_prints (w, z, LAY t) 211 [u0, u1, u2, some (.int y.1), u4, u5, u6, u7] [] y.2 (LAY t)) : Ex (Runs (D + 44)) cd_X9_prints (w, z, LAY t) 87 [some (.ref 56), some (.int x1), some (.int x2), some (.int x3), some (.int x4), u5, u6, u7] [] s (LAY t) := by
  unfold X9_prints_b87 at h
  refine Ex_br 4 ((s.1 56 15) ≤ x4) (fun _ => rfl) (fun hc8 => ?_) (fun hc8 => ?_)
  · rw [if_pos hc8] at h
    obtain rfl := Option.some.inj h
    exact ke0 _ rfl _ _ _ _ _ _ _
  · rw [if_neg hc8] at h
    obtain ⟨hg9, h⟩ := m_ite h
    refine Ex_gd 4 (fun _ => rfl) hg9 ?_
    refine Ex_sti 5 (fun _ => rfl) ?_
    obtain ⟨e111, hl, h⟩ := m_bind h
    refine T_X9_prints_l111 D t w z x1 x2 x3 x4  (s.1 66 x4.toNatClampNeg, 1, 1, s) _ hl (fun y0 hy0 => ?_) 
    · obtain ⟨e111, rfl⟩ : ∃ q, q = y0 := ⟨_, rfl⟩
      subst hy0
      intro vu5 vu7
      refine Ex_br 3 (e111.1 = 0) (fun _ => rfl) (fun hc18 => ?_) (fun hc18 => ?_)
      · rw [if_pos hc18] at h
        refine Ex_sti 1 (fun _ => rfl) ?_
        exact T_X9_prints_j200_87 D t w z x1 x2 x4 x3 0 e111.2 _ _ _ _ _ h kc ke0
      · rw [if_neg hc18] at h
        refine Ex_sti 2 (fun _ => rfl) ?_
        exact T_X9_prints_j200_87 D t w z x1 x2 x4 x3 1 e111.2 _ _ _ _ _ h kc ke0

theorem T_X9_prints_l87 (D : Nat) (t : mTX) (w : Option Value) (z : mSG) (x1 : Int32) (x2 : Int32) (v : Int32 × Int32 × mSG) (e : Int32 × mSG) (h : X9_prints_l87 x1 x2 v = some e) (ke0 : ∀ y : Int32 × mSG, e = y → ∀ (u0 u1 u2 u4 u5 u6 u7 : Option Value), Ex (Runs (D + 44)) cd_X9_prints (w, z, LAY t) 211 [u0, u1, u2, some (.int y.1), u4, u5, u6, u7] [] y.2 (LAY t)) : ∀ (u5 u6 u7 : Option Value), Ex (Runs (D + 44)) cd_X9_prints (w, z, LAY t) 87 [some (.ref 56), some (.int x1), some (.int x2), some (.int v.1), some (.int v.2.1), u5, u6, u7] [] v.2.2 (LAY t) :=
  m_iter (P := fun v : Int32 × Int32 × mSG => ∀ (u5 u6 u7 : Option Value), Ex (Runs (D + 44)) cd_X9_prints (w, z, LAY t) 87 [some (.ref 56), some (.int x1), some (.int x2), some (.int v.1), some (.int v.2.1), u5, u6, u7] [] v.2.2 (LAY t)) (Q := fun e : Int32 × mSG => (∀ y : Int32 × mSG, e = y → ∀ (u0 u1 u2 u4 u5 u6 u7 : Option Value), Ex (Runs (D + 44)) cd_X9_prints (w, z, LAY t) 211 [u0, u1, u2, some (.int y.1), u4, u5, u6, u7] [] y.2 (LAY t))) (fun x o hx kc kq u5 u6 u7 => T_X9_prints_b87 D t w z x1 x2 x.1 x.2.1 x.2.2 u5 u6 u7 o hx kc (fun e he => kq _ he e rfl)) mFU v e h ke0
set_option maxRecDepth 20000 in
theorem T_X9_prints (D : Nat) (t : mTX) (x1 : Int32) (s : mSG) (o : Int32 × mSG) (h : X9_prints x1 s = some o) : Runs (D + 45) 205 [.ref 56, .int x1] s (LAY t) (some (.int o.1), o.2, LAY t) := by
  refine Runs_mk (d := D + 44) rfl ?_
  show Ex (Runs (D + 44)) cd_X9_prints (some (.int o.1), o.2, LAY t) 0 [some (.ref 56), some (.int x1), none, none, none, none, none, none] [] s (LAY t)
  unfold X9_prints at h
  refine Ex_call 2 (fun _ => rfl) (T_X9_isSheet (D + 42) t x1 s _ rfl) rfl rfl ?_
  refine Ex_brZ 1 (X9_isSheet x1) (fun _ => rfl) (fun hc => ?_) (fun hc => ?_)
  · rw [if_neg (m_nt hc)] at h
    obtain rfl := Option.some.inj h
    exact Ex_ret 2 (fun _ => rfl) rfl
  · rw [if_pos hc] at h
    obtain ⟨hg1, h⟩ := m_ite h
    refine Ex_gd 4 (fun _ => rfl) hg1 ?_
    refine Ex_br 1 ((s.1 80 x1.toNatClampNeg) = 0) (fun _ => rfl) (fun hc2 => ?_) (fun hc2 => ?_)
    · rw [if_pos hc2] at h
      obtain rfl := Option.some.inj h
      exact Ex_ret 2 (fun _ => rfl) rfl
    · rw [if_neg hc2] at h
      refine Ex_sti 2 (fun _ => rfl) ?_
      obtain ⟨e24, hl, h⟩ := m_bind h
      refine T_X9_prints_l24 D t (some (.int o.1)) o.2 x1 s 0 _ hl (fun y0 hy0 => ?_) (fun y1 hy1 => ?_) _ _ _ _ _
      · obtain ⟨e24_0, rfl⟩ : ∃ q, q = y0 := ⟨_, rfl⟩
        subst hy0
        simp only [Sum.elim_inl, Sum.elim_inr] at h
        intro vu0 vu1 vu2 vu3 vu4 vu5 vu6 vu7
        obtain rfl := Option.some.inj h
        exact Ex_ret 2 (fun _ => rfl) rfl
      · obtain ⟨e24_1, rfl⟩ : ∃ q, q = y1 := ⟨_, rfl⟩
        subst hy1
        simp only [Sum.elim_inl, Sum.elim_inr] at h
        intro vu2 vu3 vu4 vu5 vu6 vu7
        refine Ex_gd 4 (fun _ => rfl) hg1 ?_
        refine Ex_br 2 (2 ≤ (s.1 82 x1.toNatClampNeg)) (fun _ => rfl) (fun hc19 => ?_) (fun hc19 => ?_)
        · rw [if_pos hc19] at h
          obtain ⟨r20, hr, h⟩ := m_bind h
          refine Ex_call 4 (fun _ => rfl) (T_X9_rainAt (D + 43) t (s.1 56 16) s r20 hr) rfl rfl ?_
          refine Ex_sti 5 (fun _ => rfl) ?_
          obtain ⟨e87, hl, h⟩ := m_bind h
          refine T_X9_prints_l87 D t (some (.int o.1)) o.2 x1 r20  (0, 0, s) _ hl (fun y0 hy0 => ?_) _ _ _
          · obtain ⟨e87, rfl⟩ : ∃ q, q = y0 := ⟨_, rfl⟩
            subst hy0
            intro vu0 vu1 vu2 vu4 vu5 vu6 vu7
            obtain rfl := Option.some.inj h
            exact Ex_ret 2 (fun _ => rfl) rfl
        · rw [if_neg hc19] at h
          obtain rfl := Option.some.inj h
          exact Ex_ret 2 (fun _ => rfl) rfl

