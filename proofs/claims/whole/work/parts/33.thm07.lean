set_option maxRecDepth 20000 in
theorem T_X9_out_j100_37 (D : Nat) (t : mTX) (w : Option Value) (z : mSG) (x1 : Int32) (x2 : Int32) (x3 : Int32) (x4 : Int32) (x5 : Int32) (x6 : Int32) (s : mSG) (o : (Int32 × Int32 × Int32 × mSG) ⊕ Int32 × Int32 × mSG) (h : X9_out_j100_37 x1 x2 x3 x4 x5 x6 s = some o) (kc : ∀ y : Int32 × Int32 × Int32 × mSG, o = .inl y → Ex (Runs (D + 46)) cd_X9_out (w, z, LAY t) 37 [some (.ref 56), some (.int x1), some (.int x2), some (.int x3), some (.int y.1), some (.int y.2.1), some (.int y.2.2.1)] [] y.2.2.2 (LAY t)) (ke0 : ∀ y : Int32 × Int32 × mSG, o = .inr y → ∀ (u0 u1 u2 u6 : Option Value), Ex (Runs (D + 46)) cd_X9_out (w, z, LAY t) 106 [u0, u1, u2, some (.int x3), some (.int y.1), some (.int y.2.1), u6] [] y.2.2 (LAY t)) : Ex (Runs (D + 46)) cd_X9_out (w, z, LAY t) 100 [some (.ref 56), some (.int x1), some (.int x2), some (.int x3), some (.int x4), some (.int x5), some (.int x6)] [] s (LAY t) := by
  unfold X9_out_j100_37 at h
  refine Ex_sti 2 (fun _ => rfl) ?_
  obtain rfl := Option.some.inj h
  exact kc _ rfl 

set_option maxRecDepth 20000 in
theorem T_X9_out_j87_37 (D : Nat) (t : mTX) (w : Option Value) (z : mSG) (x1 : Int32) (x2 : Int32) (x3 : Int32) (x6 : Int32) (s : mSG) (u4 u5 : Option Value) (o : (Int32 × Int32 × Int32 × mSG) ⊕ Int32 × Int32 × mSG) (h : X9_out_j87_37 x1 x2 x3 x6 s = some o) (kc : ∀ y : Int32 × Int32 × Int32 × mSG, o = .inl y → Ex (Runs (D + 46)) cd_X9_out (w, z, LAY t) 37 [some (.ref 56), some (.int x1), some (.int x2), some (.int x3), some (.int y.1), some (.int y.2.1), some (.int y.2.2.1)] [] y.2.2.2 (LAY t)) (ke0 : ∀ y : Int32 × Int32 × mSG, o = .inr y → ∀ (u0 u1 u2 u6 : Option Value), Ex (Runs (D + 46)) cd_X9_out (w, z, LAY t) 106 [u0, u1, u2, some (.int x3), some (.int y.1), some (.int y.2.1), u6] [] y.2.2 (LAY t)) : Ex (Runs (D + 46)) cd_X9_out (w, z, LAY t) 87 [some (.ref 56), some (.int x1), some (.int x2), some (.int x3), u4, u5, some (.int x6)] [] s (LAY t) := by
  unfold X9_out_j87_37 at h
  refine Ex_sti 7 (fun _ => rfl) ?_
  exact T_X9_out_j100_37 D t w z x1 x2 x3 x6 (x6 + (s.1 56 36)) x6 s  _ h kc ke0

set_option maxRecDepth 20000 in
theorem T_X9_out_b37 (D : Nat) (t : mTX) (w : Option Value) (z : mSG) (x1 : Int32) (x2 : Int32) (x3 : Int32) (x4 : Int32) (x5 : Int32) (x6 : Int32) (s : mSG) (o : (Int32 × Int32 × Int32 × mSG) ⊕ Int32 × Int32 × mSG) (h : X9_out_b37 x1 x2 x3 x4 x5 x6 s = some o) (kc : ∀ y : Int32 × Int32 × Int32 × mSG, o = .inl y → Ex (Runs (D + 46)) cd_X9_out (w, z, LAY t) 37 [some (.ref 56), some (.int x1), some (.int x2), some (.int x3), some (.int y.1), some (.int y.2.1), some (.int y.2.2.1)] [] y.2.2.2 (LAY t)) (ke0 : ∀ y : Int32 × Int32 × mSG, o = .inr y → ∀ (u0 u1 u2 u6 : Option Value), Ex (Runs (D + 46)) cd_X9_out (w, z, LAY t) 106 [u0, u1, u2, some (.int x3), some (.int y.1), some (.int y.2.1), u6] [] y.2.2 (LAY t)) : Ex (Runs (D + 46)) cd_X9_out (w, z, LAY t) 37 [some (.ref 56), some (.int x1), some (.int x2), some (.int x3), some (.int x4), some (.int x5), some (.int x6)] [] s (LAY t) := by
  unfold X9_out_b37 at h
  refine Ex_br 3 (24 ≤ x6) (fun _ => rfl) (fun hc1 => ?_) (fun hc1 => ?_)
  · rw [if_pos hc1] at h
    obtain rfl := Option.some.inj h
    exact ke0 _ rfl _ _ _ _
  · rw [if_neg hc1] at h
    obtain ⟨r2, hr, h⟩ := m_bind h
    refine Ex_call 9 (fun _ => rfl) (T_X9_rainAt (D + 45) t ((s.1 56 16) + x6) s r2 hr) rfl rfl ?_
    obtain ⟨r3, hr, h⟩ := m_bind h
    refine Ex_call 1 (fun _ => rfl) (T_X9_seeks D t x1 x2 r2 s r3 hr) rfl rfl ?_
    refine Ex_br 4 ((r3.1 56 36) = (-1)) (fun _ => rfl) (fun hc4 => ?_) (fun hc4 => ?_)
    · rw [if_pos hc4] at h
      exact T_X9_out_j100_37 D t w z x1 x2 x3 x4 x5 x6 r3  _ h kc ke0
    · rw [if_neg hc4] at h
      refine Ex_br 3 (x4 = (-1)) (fun _ => rfl) (fun hc5 => ?_) (fun hc5 => ?_)
      · rw [if_pos hc5] at h
        exact T_X9_out_j87_37 D t w z x1 x2 x3 x6 r3 _ _ _ h kc ke0
      · rw [if_neg hc5] at h
        refine Ex_br 6 (x5 ≤ (x6 + (r3.1 56 36))) (fun _ => rfl) (fun hc6 => ?_) (fun hc6 => ?_)
        · rw [if_pos hc6] at h
          exact T_X9_out_j100_37 D t w z x1 x2 x3 x4 x5 x6 r3  _ h kc ke0
        · rw [if_neg hc6] at h
          exact T_X9_out_j87_37 D t w z x1 x2 x3 x6 r3 _ _ _ h kc ke0

theorem T_X9_out_l37 (D : Nat) (t : mTX) (w : Option Value) (z : mSG) (x1 : Int32) (x2 : Int32) (x3 : Int32) (v : Int32 × Int32 × Int32 × mSG) (e : Int32 × Int32 × mSG) (h : X9_out_l37 x1 x2 x3 v = some e) (ke0 : ∀ y : Int32 × Int32 × mSG, e = y → ∀ (u0 u1 u2 u6 : Option Value), Ex (Runs (D + 46)) cd_X9_out (w, z, LAY t) 106 [u0, u1, u2, some (.int x3), some (.int y.1), some (.int y.2.1), u6] [] y.2.2 (LAY t)) : Ex (Runs (D + 46)) cd_X9_out (w, z, LAY t) 37 [some (.ref 56), some (.int x1), some (.int x2), some (.int x3), some (.int v.1), some (.int v.2.1), some (.int v.2.2.1)] [] v.2.2.2 (LAY t) :=
  m_iter (P := fun v : Int32 × Int32 × Int32 × mSG => Ex (Runs (D + 46)) cd_X9_out (w, z, LAY t) 37 [some (.ref 56), some (.int x1), some (.int x2), some (.int x3), some (.int v.1), some (.int v.2.1), some (.int v.2.2.1)] [] v.2.2.2 (LAY t)) (Q := fun e : Int32 × Int32 × mSG => (∀ y : Int32 × Int32 × mSG, e = y → ∀ (u0 u1 u2 u6 : Option Value), Ex (Runs (D + 46)) cd_X9_out (w, z, LAY t) 106 [u0, u1, u2, some (.int x3), some (.int y.1), some (.int y.2.1), u6] [] y.2.2 (LAY t))) (fun x o hx kc kq  => T_X9_out_b37 D t w z x1 x2 x3 x.1 x.2.1 x.2.2.1 x.2.2.2  o hx kc (fun e he => kq _ he e rfl)) mFU v e h ke0
set_option maxRecDepth 20000 in
theorem T_X9_out (D : Nat) (t : mTX) (x1 : Int32) (x2 : Int32) (x3 : Int32) (s : mSG) (o : Int32 × mSG) (h : X9_out x1 x2 x3 s = some o) : Runs (D + 47) 206 [.ref 56, .int x1, .int x2, .int x3] s (LAY t) (some (.int o.1), o.2, LAY t) := by
  refine Runs_mk (d := D + 46) rfl ?_
  show Ex (Runs (D + 46)) cd_X9_out (some (.int o.1), o.2, LAY t) 0 [some (.ref 56), some (.int x1), some (.int x2), some (.int x3), none, none, none] [] s (LAY t)
  unfold X9_out at h
  refine Ex_call 3 (fun _ => rfl) (T_X9_isOne (D + 44) t x1 s _ rfl) rfl rfl ?_
  refine Ex_brZ 1 (X9_isOne x1 s) (fun _ => rfl) (fun hc => ?_) (fun hc => ?_)
  · rw [if_neg (m_nt hc)] at h
    obtain rfl := Option.some.inj h
    exact Ex_ret 2 (fun _ => rfl) rfl
  · rw [if_pos hc] at h
    refine Ex_call 2 (fun _ => rfl) (T_X9_isStone (D + 44) t x2 s _ rfl) rfl rfl ?_
    refine Ex_brZ 1 (X9_isStone x2) (fun _ => rfl) (fun hc => ?_) (fun hc => ?_)
    · rw [if_neg (m_nt hc)] at h
      obtain rfl := Option.some.inj h
      exact Ex_ret 2 (fun _ => rfl) rfl
    · rw [if_pos hc] at h
      refine Ex_call 5 (fun _ => rfl) (T_X9_in (D + 45) t x3.toInt64 0 1 s _ rfl) rfl rfl ?_
      refine Ex_brZ 1 (X9_in x3.toInt64 0 1) (fun _ => rfl) (fun hc => ?_) (fun hc => ?_)
      · rw [if_neg (m_nt hc)] at h
        obtain rfl := Option.some.inj h
        exact Ex_ret 2 (fun _ => rfl) rfl
      · rw [if_pos hc] at h
        refine Ex_sti 6 (fun _ => rfl) ?_
        obtain ⟨e37, hl, h⟩ := m_bind h
        refine T_X9_out_l37 D t (some (.int o.1)) o.2 x1 x2 x3  ((-1), (-1), 0, s) _ hl (fun y0 hy0 => ?_) 
        · obtain ⟨e37, rfl⟩ : ∃ q, q = y0 := ⟨_, rfl⟩
          subst hy0
          intro vu0 vu1 vu2 vu6
          refine Ex_br 2 (x3 = 0) (fun _ => rfl) (fun hc8 => ?_) (fun hc8 => ?_)
          · rw [if_pos hc8] at h
            obtain rfl := Option.some.inj h
            exact Ex_ret 3 (fun _ => rfl) rfl
          · rw [if_neg hc8] at h
            obtain rfl := Option.some.inj h
            exact Ex_ret 2 (fun _ => rfl) rfl

set_option maxRecDepth 20000 in
theorem T_X9_road_j146_86 (D : Nat) (t : mTX) (w : Option Value) (z : mSG) (x1 : Int32) (x2 : Int32) (x3 : Int32) (x4 : Int32) (x5 : Int32) (x6 : Int32) (x7 : Int32) (x8 : Int32) (x9 : Int32) (x11 : Int32) (p0 : Int32) (p1 : Int32) (s : mSG) (u10 : Option Value) (o : (Int32 × Int32 × Int32 × mSG) ⊕ Int32 × Int32 × mSG) (h : X9_road_j146_86 x1 x2 x3 x4 x5 x6 x7 x8 x9 x11 p0 p1 s = some o) (kc : ∀ y : Int32 × Int32 × Int32 × mSG, o = .inl y → Ex (Runs (D + 46)) cd_X9_road (w, z, LAY t) 86 [some (.ref 56), some (.int x1), some (.int x2), some (.int x3), some (.int x4), some (.int x5), some (.int x6), some (.int x7), some (.int x8), some (.int y.1), some (.int y.2.1), some (.int y.2.2.1)] [] y.2.2.2 (LAY t)) (ke0 : ∀ y : Int32 × Int32 × mSG, o = .inr y → ∀ (u11 : Option Value), Ex (Runs (D + 46)) cd_X9_road (w, z, LAY t) 155 [some (.ref 56), some (.int x1), some (.int x2), some (.int x3), some (.int x4), some (.int x5), some (.int x6), some (.int x7), some (.int x8), some (.int y.1), some (.int y.2.1), u11] [] y.2.2 (LAY t)) : Ex (Runs (D + 46)) cd_X9_road (w, z, LAY t) 146 [some (.ref 56), some (.int x1), some (.int x2), some (.int x3), some (.int x4), some (.int x5), some (.int x6), some (.int x7), some (.int x8), some (.int x9), u10, some (.int x11)] [.int p1, .int p0] s (LAY t) := by
  unfold X9_road_j146_86 at h
  refine Ex_sti 4 (fun _ => rfl) ?_
  obtain rfl := Option.some.inj h
  exact kc _ rfl 

set_option maxRecDepth 20000 in
theorem T_X9_road_j125_86 (D : Nat) (t : mTX) (w : Option Value) (z : mSG) (x1 : Int32) (x2 : Int32) (x3 : Int32) (x4 : Int32) (x5 : Int32) (x6 : Int32) (x7 : Int32) (x8 : Int32) (x10 : Int32) (x11 : Int32) (p0 : Int32) (p1 : Int32) (s : mSG) (u9 : Option Value) (o : (Int32 × Int32 × Int32 × mSG) ⊕ Int32 × Int32 × mSG) (h : X9_road_j125_86 x1 x2 x3 x4 x5 x6 x7 x8 x10 x11 p0 p1 s = some o) (kc : ∀ y : Int32 × Int32 × Int32 × mSG, o = .inl y → Ex (Runs (D + 46)) cd_X9_road (w, z, LAY t) 86 [some (.ref 56), some (.int x1), some (.int x2), some (.int x3), some (.int x4), some (.int x5), some (.int x6), some (.int x7), some (.int x8), some (.int y.1), some (.int y.2.1), some (.int y.2.2.1)] [] y.2.2.2 (LAY t)) (ke0 : ∀ y : Int32 × Int32 × mSG, o = .inr y → ∀ (u11 : Option Value), Ex (Runs (D + 46)) cd_X9_road (w, z, LAY t) 155 [some (.ref 56), some (.int x1), some (.int x2), some (.int x3), some (.int x4), some (.int x5), some (.int x6), some (.int x7), some (.int x8), some (.int y.1), some (.int y.2.1), u11] [] y.2.2 (LAY t)) : Ex (Runs (D + 46)) cd_X9_road (w, z, LAY t) 125 [some (.ref 56), some (.int x1), some (.int x2), some (.int x3), some (.int x4), some (.int x5), some (.int x6), some (.int x7), some (.int x8), u9, some (.int x10), some (.int x11)] [.int p1, .int p0] s (LAY t) := by
  unfold X9_road_j125_86 at h
  refine Ex_br 7 ((s.1 56 36) = (-1)) (fun _ => rfl) (fun hc9 => ?_) (fun hc9 => ?_)
  · rw [if_pos hc9] at h
    refine Ex_sti 2 (fun _ => rfl) ?_
    exact T_X9_road_j146_86 D t w z x1 x2 x3 x4 x5 x6 x7 x8 (p0 + p1) x11 x10 0 s _ _ h kc ke0
  · rw [if_neg hc9] at h
    refine Ex_sti 2 (fun _ => rfl) ?_
    exact T_X9_road_j146_86 D t w z x1 x2 x3 x4 x5 x6 x7 x8 (p0 + p1) x11 x10 (s.1 56 36) s _ _ h kc ke0

set_option maxRecDepth 20000 in
theorem T_X9_road_b86 (D : Nat) (t : mTX) (w : Option Value) (z : mSG) (x1 : Int32) (x2 : Int32) (x3 : Int32) (x4 : Int32) (x5 : Int32) (x6 : Int32) (x7 : Int32) (x8 : Int32) (x9 : Int32) (x10 : Int32) (x11 : Int32) (s : mSG) (o : (Int32 × Int32 × Int32 × mSG) ⊕ Int32 × Int32 × mSG) (h : X9_road_b86 x1 x2 x3 x4 x5 x6 x7 x8 x9 x10 x11 s = some o) (kc : ∀ y : Int32 × Int32 × Int32 × mSG, o = .inl y → Ex (Runs (D + 46)) cd_X9_road (w, z, LAY t) 86 [some (.ref 56), some (.int x1), some (.int x2), some (.int x3), some (.int x4), some (.int x5), some (.int x6), some (.int x7), some (.int x8), some (.int y.1), some (.int y.2.1), some (.int y.2.2.1)] [] y.2.2.2 (LAY t)) (ke0 : ∀ y : Int32 × Int32 × mSG, o = .inr y → ∀ (u11 : Option Value), Ex (Runs (D + 46)) cd_X9_road (w, z, LAY t) 155 [some (.ref 56), some (.int x1), some (.int x2), some (.int x3), some (.int x4), some (.int x5), some (.int x6), some (.int x7), some (.int x8), some (.int y.1), some (.int y.2.1), u11] [] y.2.2 (LAY t)) : Ex (Runs (D + 46)) cd_X9_road (w, z, LAY t) 86 [some (.ref 56), some (.int x1), some (.int x2), some (.int x3), some (.int x4), some (.int x5), some (.int x6), some (.int x7), some (.int x8), some (.int x9), some (.int x10), some (.int x11)] [] s (LAY t) := by
  unfold X9_road_b86 at h
  refine Ex_br 4 ((s.1 56 15) ≤ x11) (fun _ => rfl) (fun hc5 => ?_) (fun hc5 => ?_)
  · rw [if_pos hc5] at h
    obtain rfl := Option.some.inj h
    exact ke0 _ rfl _
  · rw [if_neg hc5] at h
    obtain ⟨r6, hr, h⟩ := m_bind h
    refine Ex_call 7 (fun _ => rfl) (T_X9_rainAt (D + 45) t (s.1 56 16) s r6 hr) rfl rfl ?_
    obtain ⟨r7, hr, h⟩ := m_bind h
    refine Ex_call 1 (fun _ => rfl) (T_X9_seeks D t x11 x1 r6 s r7 hr) rfl rfl ?_
    refine Ex_br 5 ((r7.1 56 36) = (-1)) (fun _ => rfl) (fun hc8 => ?_) (fun hc8 => ?_)
    · rw [if_pos hc8] at h
      refine Ex_sti 2 (fun _ => rfl) ?_
      exact T_X9_road_j125_86 D t w z x1 x2 x3 x4 x5 x6 x7 x8 x10 x11 x9 0 r7 _ _ h kc ke0
    · rw [if_neg hc8] at h
      refine Ex_sti 1 (fun _ => rfl) ?_
      exact T_X9_road_j125_86 D t w z x1 x2 x3 x4 x5 x6 x7 x8 x10 x11 x9 1 r7 _ _ h kc ke0

theorem T_X9_road_l86 (D : Nat) (t : mTX) (w : Option Value) (z : mSG) (x1 : Int32) (x2 : Int32) (x3 : Int32) (x4 : Int32) (x5 : Int32) (x6 : Int32) (x7 : Int32) (x8 : Int32) (v : Int32 × Int32 × Int32 × mSG) (e : Int32 × Int32 × mSG) (h : X9_road_l86 x1 x2 x3 x4 x5 x6 x7 x8 v = some e) (ke0 : ∀ y : Int32 × Int32 × mSG, e = y → ∀ (u11 : Option Value), Ex (Runs (D + 46)) cd_X9_road (w, z, LAY t) 155 [some (.ref 56), some (.int x1), some (.int x2), some (.int x3), some (.int x4), some (.int x5), some (.int x6), some (.int x7), some (.int x8), some (.int y.1), some (.int y.2.1), u11] [] y.2.2 (LAY t)) : Ex (Runs (D + 46)) cd_X9_road (w, z, LAY t) 86 [some (.ref 56), some (.int x1), some (.int x2), some (.int x3), some (.int x4), some (.int x5), some (.int x6), some (.int x7), some (.int x8), some (.int v.1), some (.int v.2.1), some (.int v.2.2.1)] [] v.2.2.2 (LAY t) :=
  m_iter (P := fun v : Int32 × Int32 × Int32 × mSG => Ex (Runs (D + 46)) cd_X9_road (w, z, LAY t) 86 [some (.ref 56), some (.int x1), some (.int x2), some (.int x3), some (.int x4), some (.int x5), some (.int x6), some (.int x7), some (.int x8), some (.int v.1), some (.int v.2.1), some (.int v.2.2.1)] [] v.2.2.2 (LAY t)) (Q := fun e : Int32 × Int32 × mSG => (∀ y : Int32 × Int32 × mSG, e = y → ∀ (u11 : Option Value), Ex (Runs (D + 46)) cd_X9_road (w, z, LAY t) 155 [some (.ref 56), some (.int x1), some (.int x2), some (.int x3), some (.int x4), some (.int x5), some (.int x6), some (.int x7), some (.int x8), some (.int y.1), some (.int y.2.1), u11] [] y.2.2 (LAY t))) (fun x o hx kc kq  => T_X9_road_b86 D t w z x1 x2 x3 x4 x5 x6 x7 x8 x.1 x.2.1 x.2.2.1 x.2.2.2  o hx kc (fun e he => kq _ he e rfl)) mFU v e h ke0
set_option maxRecDepth 20000 in
theorem T_X9_road_j203_46 (D : Nat) (t : mTX) (w : Option Value) (z : mSG) (x1 : Int32) (x2 : Int32) (x3 : Int32) (x4 : Int32) (x5 : Int32) (x6 : Int32) (x7 : Int32) (s : mSG) (u8 u9 u10 u11 : Option Value) (o : (Int32 × Int32 × Int32 × Int32 × mSG) ⊕ Int32 × Int32 × Int32 × mSG) (h : X9_road_j203_46 x1 x2 x3 x4 x5 x6 x7 s = some o) (kc : ∀ y : Int32 × Int32 × Int32 × Int32 × mSG, o = .inl y → ∀ (u8 u9 u10 u11 : Option Value), Ex (Runs (D + 46)) cd_X9_road (w, z, LAY t) 46 [some (.ref 56), some (.int x1), some (.int x2), some (.int y.1), some (.int y.2.1), some (.int y.2.2.1), some (.int x6), some (.int y.2.2.2.1), u8, u9, u10, u11] [] y.2.2.2.2 (LAY t)) (ke0 : ∀ y : Int32 × Int32 × Int32 × mSG, o = .inr y → ∀ (u7 u8 u9 u10 u11 : Option Value), Ex (Runs (D + 46)) cd_X9_road (w, z, LAY t) 209 [some (.ref 56), some (.int x1), some (.int x2), some (.int y.1), some (.int y.2.1), some (.int y.2.2.1), some (.int x6), u7, u8, u9, u10, u11] [] y.2.2.2 (LAY t)) : Ex (Runs (D + 46)) cd_X9_road (w, z, LAY t) 203 [some (.ref 56), some (.int x1), some (.int x2), some (.int x3), some (.int x4), some (.int x5), some (.int x6), some (.int x7), u8, u9, u10, u11] [] s (LAY t) := by
  unfold X9_road_j203_46 at h
  refine Ex_sti 2 (fun _ => rfl) ?_
  obtain rfl := Option.some.inj h
  exact kc _ rfl _ _ _ _

set_option maxRecDepth 20000 in
theorem T_X9_road_j186_46 (D : Nat) (t : mTX) (w : Option Value) (z : mSG) (x1 : Int32) (x2 : Int32) (x6 : Int32) (x7 : Int32) (x9 : Int32) (x10 : Int32) (s : mSG) (u3 u4 u5 u8 u11 : Option Value) (o : (Int32 × Int32 × Int32 × Int32 × mSG) ⊕ Int32 × Int32 × Int32 × mSG) (h : X9_road_j186_46 x1 x2 x6 x7 x9 x10 s = some o) (kc : ∀ y : Int32 × Int32 × Int32 × Int32 × mSG, o = .inl y → ∀ (u8 u9 u10 u11 : Option Value), Ex (Runs (D + 46)) cd_X9_road (w, z, LAY t) 46 [some (.ref 56), some (.int x1), some (.int x2), some (.int y.1), some (.int y.2.1), some (.int y.2.2.1), some (.int x6), some (.int y.2.2.2.1), u8, u9, u10, u11] [] y.2.2.2.2 (LAY t)) (ke0 : ∀ y : Int32 × Int32 × Int32 × mSG, o = .inr y → ∀ (u7 u8 u9 u10 u11 : Option Value), Ex (Runs (D + 46)) cd_X9_road (w, z, LAY t) 209 [some (.ref 56), some (.int x1), some (.int x2), some (.int y.1), some (.int y.2.1), some (.int y.2.2.1), some (.int x6), u7, u8, u9, u10, u11] [] y.2.2.2 (LAY t)) : Ex (Runs (D + 46)) cd_X9_road (w, z, LAY t) 186 [some (.ref 56), some (.int x1), some (.int x2), u3, u4, u5, some (.int x6), some (.int x7), u8, some (.int x9), some (.int x10), u11] [] s (LAY t) := by
  unfold X9_road_j186_46 at h
  refine Ex_sti 10 (fun _ => rfl) ?_
  exact T_X9_road_j203_46 D t w z x1 x2 ((10 * x6) + x7) x9 x10 x6 x7 s _ _ _ _ _ h kc ke0

set_option maxRecDepth 20000 in
theorem T_X9_road_b46 (D : Nat) (t : mTX) (w : Option Value) (z : mSG) (x1 : Int32) (x2 : Int32) (x6 : Int32) (x3 : Int32) (x4 : Int32) (x5 : Int32) (x7 : Int32) (s : mSG) (u8 u9 u10 u11 : Option Value) (o : (Int32 × Int32 × Int32 × Int32 × mSG) ⊕ Int32 × Int32 × Int32 × mSG) (h : X9_road_b46 x1 x2 x6 x3 x4 x5 x7 s = some o) (kc : ∀ y : Int32 × Int32 × Int32 × Int32 × mSG, o = .inl y → ∀ (u8 u9 u10 u11 : Option Value), Ex (Runs (D + 46)) cd_X9_road (w, z, LAY t) 46 [some (.ref 56), some (.int x1), some (.int x2), some (.int y.1), some (.int y.2.1), some (.int y.2.2.1), some (.int x6), some (.int y.2.2.2.1), u8, u9, u10, u11] [] y.2.2.2.2 (LAY t)) (ke0 : ∀ y : Int32 × Int32 × Int32 × mSG, o = .inr y → ∀ (u7 u8 u9 u10 u11 : Option Value), Ex (Runs (D + 46)) cd_X9_road (w, z, LAY t) 209 [some (.ref 56), some (.int x1), some (.int x2), some (.int y.1), some (.int y.2.1), some (.int y.2.2.1), some (.int x6), u7, u8, u9, u10, u11] [] y.2.2.2 (LAY t)) : Ex (Runs (D + 46)) cd_X9_road (w, z, LAY t) 46 [some (.ref 56), some (.int x1), some (.int x2), some (.int x3), some (.int x4), some (.int x5), some (.int x6), some (.int x7), u8, u9, u10, u11] [] s (LAY t) := by
  unfold X9_road_b46 at h
  refine Ex_br 3 (8 ≤ x7) (fun _ => rfl) (fun hc2 => ?_) (fun hc2 => ?_)
  · rw [if_pos hc2] at h
    obtain rfl := Option.some.inj h
    exact ke0 _ rfl _ _ _ _ _
  · rw [if_neg hc2] at h
    obtain ⟨hg3, h⟩ := m_ite h
    refine Ex_gd 8 (fun _ => rfl) hg3 ?_
    obtain ⟨r4, hr, h⟩ := m_bind h
    refine Ex_call 6 (fun _ => rfl) (T_X9_muddy (D + 45) t x6 x7 1 s r4 hr) rfl rfl ?_
    refine Ex_sti 6 (fun _ => rfl) ?_
    obtain ⟨e86, hl, h⟩ := m_bind h
    refine T_X9_road_l86 D t w z x1 x2 x3 x4 x5 x6 x7 (s.1 60 ((8 * x6) + x7).toNatClampNeg)  (0, 0, 0, r4) _ hl (fun y0 hy0 => ?_) 
    · obtain ⟨e86, rfl⟩ : ∃ q, q = y0 := ⟨_, rfl⟩
      subst hy0
      intro vu11
      obtain ⟨r14, hr, h⟩ := m_bind h
      refine Ex_call 5 (fun _ => rfl) (T_X9_muddy (D + 45) t x6 x7 (s.1 60 ((8 * x6) + x7).toNatClampNeg) e86.2.2 r14 hr) rfl rfl ?_
      refine Ex_br 3 (x4 < e86.1) (fun _ => rfl) (fun hc15 => ?_) (fun hc15 => ?_)
      · rw [if_pos hc15] at h
        exact T_X9_road_j186_46 D t w z x1 x2 x6 x7 e86.1 e86.2.1 r14 _ _ _ _ _ _ h kc ke0
      · rw [if_neg hc15] at h
        refine Ex_br 3 (e86.1 = x4) (fun _ => rfl) (fun hc16 => ?_) (fun hc16 => ?_)
        · rw [if_pos hc16] at h
          refine Ex_br 3 (x5 ≤ e86.2.1) (fun _ => rfl) (fun hc17 => ?_) (fun hc17 => ?_)
          · rw [if_pos hc17] at h
            exact T_X9_road_j203_46 D t w z x1 x2 x3 x4 x5 x6 x7 r14 _ _ _ _ _ h kc ke0
          · rw [if_neg hc17] at h
            exact T_X9_road_j186_46 D t w z x1 x2 x6 x7 e86.1 e86.2.1 r14 _ _ _ _ _ _ h kc ke0
        · rw [if_neg hc16] at h
          exact T_X9_road_j203_46 D t w z x1 x2 x3 x4 x5 x6 x7 r14 _ _ _ _ _ h kc ke0

theorem T_X9_road_l46 (D : Nat) (t : mTX) (w : Option Value) (z : mSG) (x1 : Int32) (x2 : Int32) (x6 : Int32) (v : Int32 × Int32 × Int32 × Int32 × mSG) (e : Int32 × Int32 × Int32 × mSG) (h : X9_road_l46 x1 x2 x6 v = some e) (ke0 : ∀ y : Int32 × Int32 × Int32 × mSG, e = y → ∀ (u7 u8 u9 u10 u11 : Option Value), Ex (Runs (D + 46)) cd_X9_road (w, z, LAY t) 209 [some (.ref 56), some (.int x1), some (.int x2), some (.int y.1), some (.int y.2.1), some (.int y.2.2.1), some (.int x6), u7, u8, u9, u10, u11] [] y.2.2.2 (LAY t)) : ∀ (u8 u9 u10 u11 : Option Value), Ex (Runs (D + 46)) cd_X9_road (w, z, LAY t) 46 [some (.ref 56), some (.int x1), some (.int x2), some (.int v.1), some (.int v.2.1), some (.int v.2.2.1), some (.int x6), some (.int v.2.2.2.1), u8, u9, u10, u11] [] v.2.2.2.2 (LAY t) :=
  m_iter (P := fun v : Int32 × Int32 × Int32 × Int32 × mSG => ∀ (u8 u9 u10 u11 : Option Value), Ex (Runs (D + 46)) cd_X9_road (w, z, LAY t) 46 [some (.ref 56), some (.int x1), some (.int x2), some (.int v.1), some (.int v.2.1), some (.int v.2.2.1), some (.int x6), some (.int v.2.2.2.1), u8, u9, u10, u11] [] v.2.2.2.2 (LAY t)) (Q := fun e : Int32 × Int32 × Int32 × mSG => (∀ y : Int32 × Int32 × Int32 × mSG, e = y → ∀ (u7 u8 u9 u10 u11 : Option Value), Ex (Runs (D + 46)) cd_X9_road (w, z, LAY t) 209 [some (.ref 56), some (.int x1), some (.int x2), some (.int y.1), some (.int y.2.1), some (.int y.2.2.1), some (.int x6), u7, u8, u9, u10, u11] [] y.2.2.2 (LAY t))) (fun x o hx kc kq u8 u9 u10 u11 => T_X9_road_b46 D t w z x1 x2 x6 x.1 x.2.1 x.2.2.1 x.2.2.2.1 x.2.2.2.2 u8 u9 u10 u11 o hx kc (fun e he => kq _ he e rfl)) mFU v e h ke0
set_option maxRecDepth 20000 in
theorem T_X9_road_b33 (D : Nat) (t : mTX) (w : Option Value) (z : mSG) (x1 : Int32) (x2 : Int32) (x3 : Int32) (x4 : Int32) (x5 : Int32) (x6 : Int32) (s : mSG) (u7 u8 u9 u10 u11 : Option Value) (o : (Int32 × Int32 × Int32 × Int32 × mSG) ⊕ Int32 × Int32 × Int32 × mSG) (h : X9_road_b33 x1 x2 x3 x4 x5 x6 s = some o) (kc : ∀ y : Int32 × Int32 × Int32 × Int32 × mSG, o = .inl y → ∀ (u7 u8 u9 u10 u11 : Option Value), Ex (Runs (D + 46)) cd_X9_road (w, z, LAY t) 33 [some (.ref 56), some (.int x1), some (.int x2), some (.int y.1), some (.int y.2.1), some (.int y.2.2.1), some (.int y.2.2.2.1), u7, u8, u9, u10, u11] [] y.2.2.2.2 (LAY t)) (ke0 : ∀ y : Int32 × Int32 × Int32 × mSG, o = .inr y → ∀ (u0 u1 u6 u7 u8 u9 u10 u11 : Option Value), Ex (Runs (D + 46)) cd_X9_road (w, z, LAY t) 215 [u0, u1, some (.int x2), some (.int y.1), some (.int y.2.1), some (.int y.2.2.1), u6, u7, u8, u9, u10, u11] [] y.2.2.2 (LAY t)) : Ex (Runs (D + 46)) cd_X9_road (w, z, LAY t) 33 [some (.ref 56), some (.int x1), some (.int x2), some (.int x3), some (.int x4), some (.int x5), some (.int x6), u7, u8, u9, u10, u11] [] s (LAY t) := by
  unfold X9_road_b33 at h
  refine Ex_br 3 (8 ≤ x6) (fun _ => rfl) (fun hc1 => ?_) (fun hc1 => ?_)
  · rw [if_pos hc1] at h
    obtain rfl := Option.some.inj h
    exact ke0 _ rfl _ _ _ _ _ _ _ _
  · rw [if_neg hc1] at h
    refine Ex_sti 4 (fun _ => rfl) ?_
    obtain ⟨e46, hl, h⟩ := m_bind h
    refine T_X9_road_l46 D t w z x1 x2 x6  (x3, x4, x5, x6 + 1, s) _ hl (fun y0 hy0 => ?_) _ _ _ _
    · obtain ⟨e46, rfl⟩ : ∃ q, q = y0 := ⟨_, rfl⟩
      subst hy0
      intro vu7 vu8 vu9 vu10 vu11
      refine Ex_sti 2 (fun _ => rfl) ?_
      obtain rfl := Option.some.inj h
      exact kc _ rfl _ _ _ _ _

theorem T_X9_road_l33 (D : Nat) (t : mTX) (w : Option Value) (z : mSG) (x1 : Int32) (x2 : Int32) (v : Int32 × Int32 × Int32 × Int32 × mSG) (e : Int32 × Int32 × Int32 × mSG) (h : X9_road_l33 x1 x2 v = some e) (ke0 : ∀ y : Int32 × Int32 × Int32 × mSG, e = y → ∀ (u0 u1 u6 u7 u8 u9 u10 u11 : Option Value), Ex (Runs (D + 46)) cd_X9_road (w, z, LAY t) 215 [u0, u1, some (.int x2), some (.int y.1), some (.int y.2.1), some (.int y.2.2.1), u6, u7, u8, u9, u10, u11] [] y.2.2.2 (LAY t)) : ∀ (u7 u8 u9 u10 u11 : Option Value), Ex (Runs (D + 46)) cd_X9_road (w, z, LAY t) 33 [some (.ref 56), some (.int x1), some (.int x2), some (.int v.1), some (.int v.2.1), some (.int v.2.2.1), some (.int v.2.2.2.1), u7, u8, u9, u10, u11] [] v.2.2.2.2 (LAY t) :=
  m_iter (P := fun v : Int32 × Int32 × Int32 × Int32 × mSG => ∀ (u7 u8 u9 u10 u11 : Option Value), Ex (Runs (D + 46)) cd_X9_road (w, z, LAY t) 33 [some (.ref 56), some (.int x1), some (.int x2), some (.int v.1), some (.int v.2.1), some (.int v.2.2.1), some (.int v.2.2.2.1), u7, u8, u9, u10, u11] [] v.2.2.2.2 (LAY t)) (Q := fun e : Int32 × Int32 × Int32 × mSG => (∀ y : Int32 × Int32 × Int32 × mSG, e = y → ∀ (u0 u1 u6 u7 u8 u9 u10 u11 : Option Value), Ex (Runs (D + 46)) cd_X9_road (w, z, LAY t) 215 [u0, u1, some (.int x2), some (.int y.1), some (.int y.2.1), some (.int y.2.2.1), u6, u7, u8, u9, u10, u11] [] y.2.2.2 (LAY t))) (fun x o hx kc kq u7 u8 u9 u10 u11 => T_X9_road_b33 D t w z x1 x2 x.1 x.2.1 x.2.2.1 x.2.2.2.1 x.2.2.2.2 u7 u8 u9 u10 u11 o hx kc (fun e he => kq _ he e rfl)) mFU v e h ke0
set_option maxRecDepth 20000 in
theorem T_X9_road (D : Nat) (t : mTX) (x1 : Int32) (x2 : Int32) (s : mSG) (o : Int32 × mSG) (h : X9_road x1 x2 s = some o) : Runs (D + 47) 207 [.ref 56, .int x1, .int x2] s (LAY t) (some (.int o.1), o.2, LAY t) := by
  refine Runs_mk (d := D + 46) rfl ?_
  show Ex (Runs (D + 46)) cd_X9_road (some (.int o.1), o.2, LAY t) 0 [some (.ref 56), some (.int x1), some (.int x2), none, none, none, none, none, none, none, none, none] [] s (LAY t)
  unfold X9_road at h
  refine Ex_call 2 (fun _ => rfl) (T_X9_isStone (D + 44) t x1 s _ rfl) rfl rfl ?_
  refine Ex_brZ 1 (X9_isStone x1) (fun _ => rfl) (fun hc => ?_) (fun hc => ?_)
  · rw [if_neg (m_nt hc)] at h
    obtain rfl := Option.some.inj h
    exact Ex_ret 2 (fun _ => rfl) rfl
  · rw [if_pos hc] at h
    refine Ex_call 5 (fun _ => rfl) (T_X9_in (D + 45) t x2.toInt64 0 2 s _ rfl) rfl rfl ?_
    refine Ex_brZ 1 (X9_in x2.toInt64 0 2) (fun _ => rfl) (fun hc => ?_) (fun hc => ?_)
    · rw [if_neg (m_nt hc)] at h
      obtain rfl := Option.some.inj h
      exact Ex_ret 2 (fun _ => rfl) rfl
    · rw [if_pos hc] at h
      refine Ex_sti 8 (fun _ => rfl) ?_
      obtain ⟨e33, hl, h⟩ := m_bind h
      refine T_X9_road_l33 D t (some (.int o.1)) o.2 x1 x2  (1, (-1), 0, 0, s) _ hl (fun y0 hy0 => ?_) _ _ _ _ _
      · obtain ⟨e33, rfl⟩ : ∃ q, q = y0 := ⟨_, rfl⟩
        subst hy0
        intro vu0 vu1 vu6 vu7 vu8 vu9 vu10 vu11
        refine Ex_br 2 (x2 = 0) (fun _ => rfl) (fun hc20 => ?_) (fun hc20 => ?_)
        · rw [if_pos hc20] at h
          obtain rfl := Option.some.inj h
          exact Ex_ret 3 (fun _ => rfl) rfl
        · rw [if_neg hc20] at h
          refine Ex_br 3 (x2 = 1) (fun _ => rfl) (fun hc21 => ?_) (fun hc21 => ?_)
          · rw [if_pos hc21] at h
            obtain rfl := Option.some.inj h
            exact Ex_ret 3 (fun _ => rfl) rfl
          · rw [if_neg hc21] at h
            obtain rfl := Option.some.inj h
            exact Ex_ret 2 (fun _ => rfl) rfl

set_option maxRecDepth 20000 in
theorem T_X9_laysAside_b2 (D : Nat) (t : mTX) (w : Option Value) (z : mSG) (x1 : Int32) (s : mSG) (o : (Int32 × mSG) ⊕ mSG) (h : X9_laysAside_b2 x1 s = some o) (kc : ∀ y : Int32 × mSG, o = .inl y → Ex (Runs (D)) cd_X9_laysAside (w, z, LAY t) 2 [some (.ref 56), some (.int y.1)] [] y.2 (LAY t)) (ke0 : ∀ y : mSG, o = .inr y → ∀ (u1 : Option Value), Ex (Runs (D)) cd_X9_laysAside (w, z, LAY t) 37 [some (.ref 56), u1] [] y (LAY t)) : Ex (Runs (D)) cd_X9_laysAside (w, z, LAY t) 2 [some (.ref 56), some (.int x1)] [] s (LAY t) := by
  unfold X9_laysAside_b2 at h
  refine Ex_br 3 (5 ≤ x1) (fun _ => rfl) (fun hc1 => ?_) (fun hc1 => ?_)
  · rw [if_pos hc1] at h
    obtain rfl := Option.some.inj h
    exact ke0 _ rfl _
  · rw [if_neg hc1] at h
    obtain ⟨hg2, h⟩ := m_ite h
    refine Ex_gd 7 (fun _ => rfl) hg2 ?_
    refine Ex_gd 1 (fun _ => rfl) hg2 ?_
    refine Ex_gd 7 (fun _ => rfl) hg2 ?_
    refine Ex_gd 1 (fun _ => rfl) hg2 ?_
    refine Ex_sti 2 (fun _ => rfl) ?_
    obtain rfl := Option.some.inj h
    exact kc _ rfl 

theorem T_X9_laysAside_l2 (D : Nat) (t : mTX) (w : Option Value) (z : mSG) (v : Int32 × mSG) (e : mSG) (h : X9_laysAside_l2 v = some e) (ke0 : ∀ y : mSG, e = y → ∀ (u1 : Option Value), Ex (Runs (D)) cd_X9_laysAside (w, z, LAY t) 37 [some (.ref 56), u1] [] y (LAY t)) : Ex (Runs (D)) cd_X9_laysAside (w, z, LAY t) 2 [some (.ref 56), some (.int v.1)] [] v.2 (LAY t) :=
  m_iter (P := fun v : Int32 × mSG => Ex (Runs (D)) cd_X9_laysAside (w, z, LAY t) 2 [some (.ref 56), some (.int v.1)] [] v.2 (LAY t)) (Q := fun e : mSG => (∀ y : mSG, e = y → ∀ (u1 : Option Value), Ex (Runs (D)) cd_X9_laysAside (w, z, LAY t) 37 [some (.ref 56), u1] [] y (LAY t))) (fun x o hx kc kq  => T_X9_laysAside_b2 D t w z  x.1 x.2  o hx kc (fun e he => kq _ he e rfl)) mFU v e h ke0
set_option maxRecDepth 20000 in
theorem T_X9_laysAside (D : Nat) (t : mTX) (s : mSG) (o : mSG) (h : X9_laysAside s = some o) : Runs (D + 1) 208 [.ref 56] s (LAY t) (none, o, LAY t) := by
  refine Runs_mk (d := D) rfl ?_
  show Ex (Runs (D)) cd_X9_laysAside (none, o, LAY t) 0 [some (.ref 56), none] [] s (LAY t)
  unfold X9_laysAside at h
  refine Ex_sti 2 (fun _ => rfl) ?_
  obtain ⟨e2, hl, h⟩ := m_bind h
  refine T_X9_laysAside_l2 D t none o   (0, s) _ hl (fun y0 hy0 => ?_) 
  · obtain ⟨e2, rfl⟩ : ∃ q, q = y0 := ⟨_, rfl⟩
    subst hy0
    intro vu1
    obtain rfl := Option.some.inj h
    exact Ex_ret 5 (fun _ => rfl) rfl

set_option maxRecDepth 20000 in
theorem T_X9_laysBack_b2 (D : Nat) (t : mTX) (w : Option Value) (z : mSG) (x1 : Int32) (s : mSG) (o : (Int32 × mSG) ⊕ mSG) (h : X9_laysBack_b2 x1 s = some o) (kc : ∀ y : Int32 × mSG, o = .inl y → Ex (Runs (D)) cd_X9_laysBack (w, z, LAY t) 2 [some (.ref 56), some (.int y.1)] [] y.2 (LAY t)) (ke0 : ∀ y : mSG, o = .inr y → ∀ (u1 : Option Value), Ex (Runs (D)) cd_X9_laysBack (w, z, LAY t) 37 [some (.ref 56), u1] [] y (LAY t)) : Ex (Runs (D)) cd_X9_laysBack (w, z, LAY t) 2 [some (.ref 56), some (.int x1)] [] s (LAY t) := by
  unfold X9_laysBack_b2 at h
  refine Ex_br 3 (5 ≤ x1) (fun _ => rfl) (fun hc1 => ?_) (fun hc1 => ?_)
  · rw [if_pos hc1] at h
    obtain rfl := Option.some.inj h
    exact ke0 _ rfl _
  · rw [if_neg hc1] at h
    obtain ⟨hg2, h⟩ := m_ite h
    refine Ex_gd 7 (fun _ => rfl) hg2 ?_
    refine Ex_gd 1 (fun _ => rfl) hg2 ?_
    refine Ex_gd 7 (fun _ => rfl) hg2 ?_
    refine Ex_gd 1 (fun _ => rfl) hg2 ?_
    refine Ex_sti 2 (fun _ => rfl) ?_
    obtain rfl := Option.some.inj h
    exact kc _ rfl 

theorem T_X9_laysBack_l2 (D : Nat) (t : mTX) (w : Option Value) (z : mSG) (v : Int32 × mSG) (e : mSG) (h : X9_laysBack_l2 v = some e) (ke0 : ∀ y : mSG, e = y → ∀ (u1 : Option Value), Ex (Runs (D)) cd_X9_laysBack (w, z, LAY t) 37 [some (.ref 56), u1] [] y (LAY t)) : Ex (Runs (D)) cd_X9_laysBack (w, z, LAY t) 2 [some (.ref 56), some (.int v.1)] [] v.2 (LAY t) :=
  m_iter (P := fun v : Int32 × mSG => Ex (Runs (D)) cd_X9_laysBack (w, z, LAY t) 2 [some (.ref 56), some (.int v.1)] [] v.2 (LAY t)) (Q := fun e : mSG => (∀ y : mSG, e = y → ∀ (u1 : Option Value), Ex (Runs (D)) cd_X9_laysBack (w, z, LAY t) 37 [some (.ref 56), u1] [] y (LAY t))) (fun x o hx kc kq  => T_X9_laysBack_b2 D t w z  x.1 x.2  o hx kc (fun e he => kq _ he e rfl)) mFU v e h ke0
set_option maxRecDepth 20000 in
theorem T_X9_laysBack (D : Nat) (t : mTX) (s : mSG) (o : mSG) (h : X9_laysBack s = some o) : Runs (D + 1) 209 [.ref 56] s (LAY t) (none, o, LAY t) := by
  refine Runs_mk (d := D) rfl ?_
  show Ex (Runs (D)) cd_X9_laysBack (none, o, LAY t) 0 [some (.ref 56), none] [] s (LAY t)
  unfold X9_laysBack at h
  refine Ex_sti 2 (fun _ => rfl) ?_
  obtain ⟨e2, hl, h⟩ := m_bind h
  refine T_X9_laysBack_l2 D t none o   (0, s) _ hl (fun y0 hy0 => ?_) 
  · obtain ⟨e2, rfl⟩ : ∃ q, q = y0 := ⟨_, rfl⟩
    subst hy0
    intro vu1
    obtain rfl := Option.some.inj h
    exact Ex_ret 5 (fun _ => rfl) rfl

set_option maxRecDepth 20000 in
theorem T_X9_judge_j124_45 (D : Nat) (t : mTX) (w : Option Value) (z : mSG) (x1 : Int32) (x2 : Int32) (x3 : Int32) (s : mSG) (u4 u5 : Option Value) (o : (Int32 × Int32 × mSG) ⊕ Int32 × mSG) (h : X9_judge_j124_45 x1 x2 x3 s = some o) (kc : ∀ y : Int32 × Int32 × mSG, o = .inl y → ∀ (u4 u5 : Option Value), Ex (Runs (D + 45)) cd_X9_judge (w, z, LAY t) 45 [some (.ref 56), some (.int x1), some (.int y.1), some (.int y.2.1), u4, u5] [] y.2.2 (LAY t)) (ke0 : ∀ y : Int32 × mSG, o = .inr y → ∀ (u1 u3 u4 u5 : Option Value), Ex (Runs (D + 45)) cd_X9_judge (w, z, LAY t) 130 [some (.ref 56), u1, some (.int y.1), u3, u4, u5] [] y.2 (LAY t)) : Ex (Runs (D + 45)) cd_X9_judge (w, z, LAY t) 124 [some (.ref 56), some (.int x1), some (.int x2), some (.int x3), u4, u5] [] s (LAY t) := by
  unfold X9_judge_j124_45 at h
  refine Ex_sti 2 (fun _ => rfl) ?_
  obtain rfl := Option.some.inj h
  exact kc _ rfl _ _

set_option maxRecDepth 20000 in
theorem T_X9_judge_j122_45 (D : Nat) (t : mTX) (w : Option Value) (z : mSG) (x1 : Int32) (x3 : Int32) (s : mSG) (u2 u4 u5 : Option Value) (o : (Int32 × Int32 × mSG) ⊕ Int32 × mSG) (h : X9_judge_j122_45 x1 x3 s = some o) (kc : ∀ y : Int32 × Int32 × mSG, o = .inl y → ∀ (u4 u5 : Option Value), Ex (Runs (D + 45)) cd_X9_judge (w, z, LAY t) 45 [some (.ref 56), some (.int x1), some (.int y.1), some (.int y.2.1), u4, u5] [] y.2.2 (LAY t)) (ke0 : ∀ y : Int32 × mSG, o = .inr y → ∀ (u1 u3 u4 u5 : Option Value), Ex (Runs (D + 45)) cd_X9_judge (w, z, LAY t) 130 [some (.ref 56), u1, some (.int y.1), u3, u4, u5] [] y.2 (LAY t)) : Ex (Runs (D + 45)) cd_X9_judge (w, z, LAY t) 122 [some (.ref 56), some (.int x1), u2, some (.int x3), u4, u5] [] s (LAY t) := by
  unfold X9_judge_j122_45 at h
  refine Ex_sti 2 (fun _ => rfl) ?_
  exact T_X9_judge_j124_45 D t w z x1 x3 x3 s _ _ _ h kc ke0

set_option maxRecDepth 20000 in
theorem T_X9_judge_b45 (D : Nat) (t : mTX) (w : Option Value) (z : mSG) (x1 : Int32) (x2 : Int32) (x3 : Int32) (s : mSG) (u4 u5 : Option Value) (o : (Int32 × Int32 × mSG) ⊕ Int32 × mSG) (h : X9_judge_b45 x1 x2 x3 s = some o) (kc : ∀ y : Int32 × Int32 × mSG, o = .inl y → ∀ (u4 u5 : Option Value), Ex (Runs (D + 45)) cd_X9_judge (w, z, LAY t) 45 [some (.ref 56), some (.int x1), some (.int y.1), some (.int y.2.1), u4, u5] [] y.2.2 (LAY t)) (ke0 : ∀ y : Int32 × mSG, o = .inr y → ∀ (u1 u3 u4 u5 : Option Value), Ex (Runs (D + 45)) cd_X9_judge (w, z, LAY t) 130 [some (.ref 56), u1, some (.int y.1), u3, u4, u5] [] y.2 (LAY t)) : Ex (Runs (D + 45)) cd_X9_judge (w, z, LAY t) 45 [some (.ref 56), some (.int x1), some (.int x2), some (.int x3), u4, u5] [] s (LAY t) := by
  unfold X9_judge_b45 at h
  obtain ⟨hg5, h⟩ := m_ite h
  refine Ex_gd 5 (fun _ => rfl) hg5 ?_
  refine Ex_gd 2 (fun _ => rfl) (by decide) ?_
  refine Ex_br 1 (((s.1 82 x1.toNatClampNeg) / 2) ≤ x3) (fun _ => rfl) (fun hc6 => ?_) (fun hc6 => ?_)
  · rw [if_pos hc6] at h
    obtain rfl := Option.some.inj h
    exact ke0 _ rfl _ _ _ _
  · rw [if_neg hc6] at h
    refine Ex_br 3 (x2 = (-1)) (fun _ => rfl) (fun hc7 => ?_) (fun hc7 => ?_)
    · rw [if_pos hc7] at h
      obtain ⟨hg8, h⟩ := m_ite h
      refine Ex_gd 10 (fun _ => rfl) hg8 ?_
      obtain ⟨hg9, h⟩ := m_ite h
      refine Ex_gd 13 (fun _ => rfl) hg9 ?_
      refine Ex_call 4 (fun _ => rfl) (T_X9_isOne (D + 43) t (s.1 83 ((40 * x1) + (2 * x3)).toNatClampNeg) s _ rfl) rfl rfl ?_
      refine Ex_brZ 1 (X9_isOne (s.1 83 ((40 * x1) + (2 * x3)).toNatClampNeg) s) (fun _ => rfl) (fun hc => ?_) (fun hc => ?_)
      · rw [if_neg (m_nt hc)] at h
        exact T_X9_judge_j122_45 D t w z x1 x3 s _ _ _ _ h kc ke0
      · rw [if_pos hc] at h
        refine Ex_call 2 (fun _ => rfl) (T_X9_isStone (D + 43) t (s.1 83 (((40 * x1) + (2 * x3)) + 1).toNatClampNeg) s _ rfl) rfl rfl ?_
        refine Ex_brZ 1 (X9_isStone (s.1 83 (((40 * x1) + (2 * x3)) + 1).toNatClampNeg)) (fun _ => rfl) (fun hc => ?_) (fun hc => ?_)
        · rw [if_neg (m_nt hc)] at h
          exact T_X9_judge_j122_45 D t w z x1 x3 s _ _ _ _ h kc ke0
        · rw [if_pos hc] at h
          obtain ⟨r10, hr, h⟩ := m_bind h
          refine Ex_call 4 (fun _ => rfl) (T_X9_goes D t (s.1 83 ((40 * x1) + (2 * x3)).toNatClampNeg) (s.1 83 (((40 * x1) + (2 * x3)) + 1).toNatClampNeg) s r10 hr) rfl rfl ?_
          refine Ex_brZ 1 (r10.1) (fun _ => rfl) (fun hc => ?_) (fun hc => ?_)
          · rw [if_neg (m_nt hc)] at h
            exact T_X9_judge_j122_45 D t w z x1 x3 r10.2 _ _ _ _ h kc ke0
          · rw [if_pos hc] at h
            exact T_X9_judge_j124_45 D t w z x1 x2 x3 r10.2 _ _ _ h kc ke0
    · rw [if_neg hc7] at h
      obtain rfl := Option.some.inj h
      exact ke0 _ rfl _ _ _ _

theorem T_X9_judge_l45 (D : Nat) (t : mTX) (w : Option Value) (z : mSG) (x1 : Int32) (v : Int32 × Int32 × mSG) (e : Int32 × mSG) (h : X9_judge_l45 x1 v = some e) (ke0 : ∀ y : Int32 × mSG, e = y → ∀ (u1 u3 u4 u5 : Option Value), Ex (Runs (D + 45)) cd_X9_judge (w, z, LAY t) 130 [some (.ref 56), u1, some (.int y.1), u3, u4, u5] [] y.2 (LAY t)) : ∀ (u4 u5 : Option Value), Ex (Runs (D + 45)) cd_X9_judge (w, z, LAY t) 45 [some (.ref 56), some (.int x1), some (.int v.1), some (.int v.2.1), u4, u5] [] v.2.2 (LAY t) :=
  m_iter (P := fun v : Int32 × Int32 × mSG => ∀ (u4 u5 : Option Value), Ex (Runs (D + 45)) cd_X9_judge (w, z, LAY t) 45 [some (.ref 56), some (.int x1), some (.int v.1), some (.int v.2.1), u4, u5] [] v.2.2 (LAY t)) (Q := fun e : Int32 × mSG => (∀ y : Int32 × mSG, e = y → ∀ (u1 u3 u4 u5 : Option Value), Ex (Runs (D + 45)) cd_X9_judge (w, z, LAY t) 130 [some (.ref 56), u1, some (.int y.1), u3, u4, u5] [] y.2 (LAY t))) (fun x o hx kc kq u4 u5 => T_X9_judge_b45 D t w z x1 x.1 x.2.1 x.2.2 u4 u5 o hx kc (fun e he => kq _ he e rfl)) mFU v e h ke0
set_option maxRecDepth 20000 in
theorem T_X9_judge_j130 (D : Nat) (t : mTX) (x2 : Int32) (s : mSG) (u1 u3 u4 u5 : Option Value) (o : Int32 × mSG) (h : X9_judge_j130 x2 s = some o)  : Ex (Runs (D + 45)) cd_X9_judge (some (.int o.1), o.2, LAY t) 130 [some (.ref 56), u1, some (.int x2), u3, u4, u5] [] s (LAY t) := by
  unfold X9_judge_j130 at h
  obtain ⟨r11, hr, h⟩ := m_bind h
  refine Ex_call 2 (fun _ => rfl) (T_X9_laysBack (D + 44) t  s r11 hr) rfl rfl ?_
  obtain rfl := Option.some.inj h
  exact Ex_ret 2 (fun _ => rfl) rfl

set_option maxRecDepth 20000 in
theorem T_X9_judge (D : Nat) (t : mTX) (x1 : Int32) (s : mSG) (o : Int32 × mSG) (h : X9_judge x1 s = some o) : Runs (D + 46) 210 [.ref 56, .int x1] s (LAY t) (some (.int o.1), o.2, LAY t) := by
  refine Runs_mk (d := D + 45) rfl ?_
  show Ex (Runs (D + 45)) cd_X9_judge (some (.int o.1), o.2, LAY t) 0 [some (.ref 56), some (.int x1), none, none, none, none] [] s (LAY t)
  unfold X9_judge at h
  refine Ex_call 2 (fun _ => rfl) (T_X9_isSheet (D + 43) t x1 s _ rfl) rfl rfl ?_
  refine Ex_brZ 1 (X9_isSheet x1) (fun _ => rfl) (fun hc => ?_) (fun hc => ?_)
  · rw [if_neg (m_nt hc)] at h
    obtain rfl := Option.some.inj h
    exact Ex_ret 2 (fun _ => rfl) rfl
  · rw [if_pos hc] at h
    obtain ⟨hg1, h⟩ := m_ite h
    refine Ex_gd 4 (fun _ => rfl) hg1 ?_
    refine Ex_br 1 ((s.1 80 x1.toNatClampNeg) = 0) (fun _ => rfl) (fun hc2 => ?_) (fun hc2 => ?_)
    · rw [if_pos hc2] at h
      obtain rfl := Option.some.inj h
      exact Ex_ret 2 (fun _ => rfl) rfl
    · rw [if_neg hc2] at h
      refine Ex_gd 4 (fun _ => rfl) hg1 ?_
      refine Ex_gd 2 (fun _ => rfl) (by decide) ?_
      refine Ex_br 2 (((s.1 82 x1.toNatClampNeg) - (s.1 82 x1.toNatClampNeg) / 2 * 2) = 1) (fun _ => rfl) (fun hc3 => ?_) (fun hc3 => ?_)
      · rw [if_pos hc3] at h
        obtain rfl := Option.some.inj h
        exact Ex_ret 2 (fun _ => rfl) rfl
      · rw [if_neg hc3] at h
        obtain ⟨r4, hr, h⟩ := m_bind h
        refine Ex_call 2 (fun _ => rfl) (T_X9_laysAside (D + 44) t  s r4 hr) rfl rfl ?_
        refine Ex_sti 4 (fun _ => rfl) ?_
        obtain ⟨e45, hl, h⟩ := m_bind h
        refine T_X9_judge_l45 D t (some (.int o.1)) o.2 x1  ((-1), 0, r4) _ hl (fun y0 hy0 => ?_) _ _
        · obtain ⟨e45, rfl⟩ : ∃ q, q = y0 := ⟨_, rfl⟩
          subst hy0
          intro vu1 vu3 vu4 vu5
          exact T_X9_judge_j130 D t e45.1 e45.2 _ _ _ _ _ h

set_option maxRecDepth 20000 in
theorem T_X9_draws_b19 (D : Nat) (t : mTX) (w : Option Value) (z : mSG) (x2 : Int32) (x3 : Int32) (x5 : Int32) (x4 : Int32) (x6 : Int32) (s : mSG) (u1 : Option Value) (o : (Int32 × Int32 × mSG) ⊕ Int32 × mSG) (h : X9_draws_b19 x2 x3 x5 x4 x6 s = some o) (kc : ∀ y : Int32 × Int32 × mSG, o = .inl y → ∀ (u1 : Option Value), Ex (Runs (D + 45)) cd_X9_draws (w, z, LAY t) 19 [some (.ref 56), u1, some (.int x2), some (.int x3), some (.int y.1), some (.int x5), some (.int y.2.1)] [] y.2.2 (LAY t)) (ke0 : ∀ y : Int32 × mSG, o = .inr y → ∀ (u1 u6 : Option Value), Ex (Runs (D + 45)) cd_X9_draws (w, z, LAY t) 61 [some (.ref 56), u1, some (.int x2), some (.int x3), some (.int y.1), some (.int x5), u6] [] y.2 (LAY t)) : Ex (Runs (D + 45)) cd_X9_draws (w, z, LAY t) 19 [some (.ref 56), u1, some (.int x2), some (.int x3), some (.int x4), some (.int x5), some (.int x6)] [] s (LAY t) := by
  unfold X9_draws_b19 at h
  refine Ex_br 4 ((s.1 56 15) ≤ x6) (fun _ => rfl) (fun hc3 => ?_) (fun hc3 => ?_)
  · rw [if_pos hc3] at h
    obtain rfl := Option.some.inj h
    exact ke0 _ rfl _ _
  · rw [if_neg hc3] at h
    refine Ex_gd 13 (fun _ => rfl) (by decide) ?_
    obtain ⟨r4, hr, h⟩ := m_bind h
    refine Ex_call 1 (fun _ => rfl) (T_X9_goes D t x6 (((((x4 * 1103515245) + 12345).toUInt32 >>> ((9 : Int32).toUInt32 &&& Int32.toUInt32 31)).toInt32) - ((((x4 * 1103515245) + 12345).toUInt32 >>> ((9 : Int32).toUInt32 &&& Int32.toUInt32 31)).toInt32) / 8 * 8) s r4 hr) rfl rfl ?_
    refine Ex_sti 3 (fun _ => rfl) ?_
    obtain rfl := Option.some.inj h
    exact kc _ rfl _

theorem T_X9_draws_l19 (D : Nat) (t : mTX) (w : Option Value) (z : mSG) (x2 : Int32) (x3 : Int32) (x5 : Int32) (v : Int32 × Int32 × mSG) (e : Int32 × mSG) (h : X9_draws_l19 x2 x3 x5 v = some e) (ke0 : ∀ y : Int32 × mSG, e = y → ∀ (u1 u6 : Option Value), Ex (Runs (D + 45)) cd_X9_draws (w, z, LAY t) 61 [some (.ref 56), u1, some (.int x2), some (.int x3), some (.int y.1), some (.int x5), u6] [] y.2 (LAY t)) : ∀ (u1 : Option Value), Ex (Runs (D + 45)) cd_X9_draws (w, z, LAY t) 19 [some (.ref 56), u1, some (.int x2), some (.int x3), some (.int v.1), some (.int x5), some (.int v.2.1)] [] v.2.2 (LAY t) :=
  m_iter (P := fun v : Int32 × Int32 × mSG => ∀ (u1 : Option Value), Ex (Runs (D + 45)) cd_X9_draws (w, z, LAY t) 19 [some (.ref 56), u1, some (.int x2), some (.int x3), some (.int v.1), some (.int x5), some (.int v.2.1)] [] v.2.2 (LAY t)) (Q := fun e : Int32 × mSG => (∀ y : Int32 × mSG, e = y → ∀ (u1 u6 : Option Value), Ex (Runs (D + 45)) cd_X9_draws (w, z, LAY t) 61 [some (.ref 56), u1, some (.int x2), some (.int x3), some (.int y.1), some (.int x5), u6] [] y.2 (LAY t))) (fun x o hx kc kq u1 => T_X9_draws_b19 D t w z x2 x3 x5 x.1 x.2.1 x.2.2 u1 o hx kc (fun e he => kq _ he e rfl)) mFU v e h ke0
set_option maxRecDepth 20000 in
theorem T_X9_draws_b10 (D : Nat) (t : mTX) (w : Option Value) (z : mSG) (x2 : Int32) (x3 : Int32) (x4 : Int32) (x5 : Int32) (s : mSG) (u1 u6 : Option Value) (o : (Int32 × Int32 × mSG) ⊕ mSG) (h : X9_draws_b10 x2 x3 x4 x5 s = some o) (kc : ∀ y : Int32 × Int32 × mSG, o = .inl y → ∀ (u1 u6 : Option Value), Ex (Runs (D + 45)) cd_X9_draws (w, z, LAY t) 10 [some (.ref 56), u1, some (.int x2), some (.int x3), some (.int y.1), some (.int y.2.1), u6] [] y.2.2 (LAY t)) (ke0 : ∀ y : mSG, o = .inr y → ∀ (u1 u2 u4 u5 u6 : Option Value), Ex (Runs (D + 45)) cd_X9_draws (w, z, LAY t) 67 [some (.ref 56), u1, u2, some (.int x3), u4, u5, u6] [] y (LAY t)) : Ex (Runs (D + 45)) cd_X9_draws (w, z, LAY t) 10 [some (.ref 56), u1, some (.int x2), some (.int x3), some (.int x4), some (.int x5), u6] [] s (LAY t) := by
  unfold X9_draws_b10 at h
  refine Ex_br 3 (x2 ≤ x5) (fun _ => rfl) (fun hc2 => ?_) (fun hc2 => ?_)
  · rw [if_pos hc2] at h
    obtain rfl := Option.some.inj h
    exact ke0 _ rfl _ _ _ _ _
  · rw [if_neg hc2] at h
    refine Ex_sti 2 (fun _ => rfl) ?_
    obtain ⟨e19, hl, h⟩ := m_bind h
    refine T_X9_draws_l19 D t w z x2 x3 x5  (x4, 0, s) _ hl (fun y0 hy0 => ?_) _
    · obtain ⟨e19, rfl⟩ : ∃ q, q = y0 := ⟨_, rfl⟩
      subst hy0
      intro vu1 vu6
      refine Ex_sti 2 (fun _ => rfl) ?_
      obtain rfl := Option.some.inj h
      exact kc _ rfl _ _

theorem T_X9_draws_l10 (D : Nat) (t : mTX) (w : Option Value) (z : mSG) (x2 : Int32) (x3 : Int32) (v : Int32 × Int32 × mSG) (e : mSG) (h : X9_draws_l10 x2 x3 v = some e) (ke0 : ∀ y : mSG, e = y → ∀ (u1 u2 u4 u5 u6 : Option Value), Ex (Runs (D + 45)) cd_X9_draws (w, z, LAY t) 67 [some (.ref 56), u1, u2, some (.int x3), u4, u5, u6] [] y (LAY t)) : ∀ (u1 u6 : Option Value), Ex (Runs (D + 45)) cd_X9_draws (w, z, LAY t) 10 [some (.ref 56), u1, some (.int x2), some (.int x3), some (.int v.1), some (.int v.2.1), u6] [] v.2.2 (LAY t) :=
  m_iter (P := fun v : Int32 × Int32 × mSG => ∀ (u1 u6 : Option Value), Ex (Runs (D + 45)) cd_X9_draws (w, z, LAY t) 10 [some (.ref 56), u1, some (.int x2), some (.int x3), some (.int v.1), some (.int v.2.1), u6] [] v.2.2 (LAY t)) (Q := fun e : mSG => (∀ y : mSG, e = y → ∀ (u1 u2 u4 u5 u6 : Option Value), Ex (Runs (D + 45)) cd_X9_draws (w, z, LAY t) 67 [some (.ref 56), u1, u2, some (.int x3), u4, u5, u6] [] y (LAY t))) (fun x o hx kc kq u1 u6 => T_X9_draws_b10 D t w z x2 x3 x.1 x.2.1 x.2.2 u1 u6 o hx kc (fun e he => kq _ he e rfl)) mFU v e h ke0
set_option maxRecDepth 20000 in
theorem T_X9_draws_j100_73 (D : Nat) (t : mTX) (w : Option Value) (z : mSG) (x3 : Int32) (x6 : Int32) (p0 : Int32) (p1 : Int32) (s : mSG) (u1 u2 u4 u5 : Option Value) (o : (Int32 × Int32) ⊕ Int32) (h : X9_draws_j100_73 x3 x6 p0 p1 s = some o) (kc : ∀ y : Int32 × Int32, o = .inl y → ∀ (u1 u2 u4 : Option Value), Ex (Runs (D + 45)) cd_X9_draws (w, z, LAY t) 73 [some (.ref 56), u1, u2, some (.int x3), u4, some (.int y.1), some (.int y.2)] [] s (LAY t)) (ke0 : ∀ y : Int32, o = .inr y → ∀ (u1 u2 u3 u4 u6 : Option Value), Ex (Runs (D + 45)) cd_X9_draws (w, z, LAY t) 109 [some (.ref 56), u1, u2, u3, u4, some (.int y), u6] [] s (LAY t)) : Ex (Runs (D + 45)) cd_X9_draws (w, z, LAY t) 100 [some (.ref 56), u1, u2, some (.int x3), u4, u5, some (.int x6)] [.int p1, .int p0] s (LAY t) := by
  unfold X9_draws_j100_73 at h
  refine Ex_sti 4 (fun _ => rfl) ?_
  obtain rfl := Option.some.inj h
  exact kc _ rfl _ _ _

set_option maxRecDepth 20000 in
theorem T_X9_draws_b73 (D : Nat) (t : mTX) (w : Option Value) (z : mSG) (x3 : Int32) (x5 : Int32) (x6 : Int32) (s : mSG) (u1 u2 u4 : Option Value) (o : (Int32 × Int32) ⊕ Int32) (h : X9_draws_b73 x3 x5 x6 s = some o) (kc : ∀ y : Int32 × Int32, o = .inl y → ∀ (u1 u2 u4 : Option Value), Ex (Runs (D + 45)) cd_X9_draws (w, z, LAY t) 73 [some (.ref 56), u1, u2, some (.int x3), u4, some (.int y.1), some (.int y.2)] [] s (LAY t)) (ke0 : ∀ y : Int32, o = .inr y → ∀ (u1 u2 u3 u4 u6 : Option Value), Ex (Runs (D + 45)) cd_X9_draws (w, z, LAY t) 109 [some (.ref 56), u1, u2, u3, u4, some (.int y), u6] [] s (LAY t)) : Ex (Runs (D + 45)) cd_X9_draws (w, z, LAY t) 73 [some (.ref 56), u1, u2, some (.int x3), u4, some (.int x5), some (.int x6)] [] s (LAY t) := by
  unfold X9_draws_b73 at h
  refine Ex_br 4 ((s.1 56 15) ≤ x6) (fun _ => rfl) (fun hc5 => ?_) (fun hc5 => ?_)
  · rw [if_pos hc5] at h
    obtain rfl := Option.some.inj h
    exact ke0 _ rfl _ _ _ _ _
  · rw [if_neg hc5] at h
    obtain ⟨hg6, h⟩ := m_ite h
    refine Ex_gd 5 (fun _ => rfl) hg6 ?_
    refine Ex_br 2 ((s.1 65 x6.toNatClampNeg) = x3) (fun _ => rfl) (fun hc7 => ?_) (fun hc7 => ?_)
    · rw [if_pos hc7] at h
      refine Ex_sti 2 (fun _ => rfl) ?_
      exact T_X9_draws_j100_73 D t w z x3 x6 x5 1 s _ _ _ _ _ h kc ke0
    · rw [if_neg hc7] at h
      refine Ex_sti 1 (fun _ => rfl) ?_
      exact T_X9_draws_j100_73 D t w z x3 x6 x5 0 s _ _ _ _ _ h kc ke0

theorem T_X9_draws_l73 (D : Nat) (t : mTX) (w : Option Value) (z : mSG) (x3 : Int32) (s : mSG) (v : Int32 × Int32) (e : Int32) (h : X9_draws_l73 x3 s v = some e) (ke0 : ∀ y : Int32, e = y → ∀ (u1 u2 u3 u4 u6 : Option Value), Ex (Runs (D + 45)) cd_X9_draws (w, z, LAY t) 109 [some (.ref 56), u1, u2, u3, u4, some (.int y), u6] [] s (LAY t)) : ∀ (u1 u2 u4 : Option Value), Ex (Runs (D + 45)) cd_X9_draws (w, z, LAY t) 73 [some (.ref 56), u1, u2, some (.int x3), u4, some (.int v.1), some (.int v.2)] [] s (LAY t) :=
  m_iter (P := fun v : Int32 × Int32 => ∀ (u1 u2 u4 : Option Value), Ex (Runs (D + 45)) cd_X9_draws (w, z, LAY t) 73 [some (.ref 56), u1, u2, some (.int x3), u4, some (.int v.1), some (.int v.2)] [] s (LAY t)) (Q := fun e : Int32 => (∀ y : Int32, e = y → ∀ (u1 u2 u3 u4 u6 : Option Value), Ex (Runs (D + 45)) cd_X9_draws (w, z, LAY t) 109 [some (.ref 56), u1, u2, u3, u4, some (.int y), u6] [] s (LAY t))) (fun x o hx kc kq u1 u2 u4 => T_X9_draws_b73 D t w z x3 x.1 x.2 s u1 u2 u4 o hx kc (fun e he => kq _ he e rfl)) mFU v e h ke0
set_option maxRecDepth 20000 in
theorem T_X9_draws (D : Nat) (t : mTX) (x1 : Int32) (x2 : Int32) (x3 : Int32) (s : mSG) (o : Int32 × mSG) (h : X9_draws x1 x2 x3 s = some o) : Runs (D + 46) 211 [.ref 56, .int x1, .int x2, .int x3] s (LAY t) (some (.int o.1), o.2, LAY t) := by
  refine Runs_mk (d := D + 45) rfl ?_
  show Ex (Runs (D + 45)) cd_X9_draws (some (.int o.1), o.2, LAY t) 0 [some (.ref 56), some (.int x1), some (.int x2), some (.int x3), none, none, none] [] s (LAY t)
  unfold X9_draws at h
  obtain ⟨r1, hr, h⟩ := m_bind h
  refine Ex_call 2 (fun _ => rfl) (T_X9_laysAside (D + 44) t  s r1 hr) rfl rfl ?_
  refine Ex_sti 4 (fun _ => rfl) ?_
  obtain ⟨e10, hl, h⟩ := m_bind h
  refine T_X9_draws_l10 D t (some (.int o.1)) o.2 x2 x3  (x1, 0, r1) _ hl (fun y0 hy0 => ?_) _ _
  · obtain ⟨e10, rfl⟩ : ∃ q, q = y0 := ⟨_, rfl⟩
    subst hy0
    intro vu1 vu2 vu4 vu5 vu6
    refine Ex_sti 4 (fun _ => rfl) ?_
    obtain ⟨e73, hl, h⟩ := m_bind h
    refine T_X9_draws_l73 D t (some (.int o.1)) o.2 x3 e10 (0, 0) _ hl (fun y0 hy0 => ?_) _ _ _
    · obtain ⟨e73, rfl⟩ : ∃ q, q = y0 := ⟨_, rfl⟩
      subst hy0
      intro vu1 vu2 vu3 vu4 vu6
      obtain ⟨r9, hr, h⟩ := m_bind h
      refine Ex_call 2 (fun _ => rfl) (T_X9_laysBack (D + 44) t  e10 r9 hr) rfl rfl ?_
      obtain rfl := Option.some.inj h
      exact Ex_ret 2 (fun _ => rfl) rfl

set_option maxRecDepth 20000 in
theorem T_X9_drawn (D : Nat) (t : mTX) (x1 : Int32) (x2 : Int32) (x3 : Int32) (s : mSG) (o : Int32 × mSG) (h : X9_drawn x1 x2 x3 s = some o) : Runs (D + 47) 212 [.ref 56, .int x1, .int x2, .int x3] s (LAY t) (some (.int o.1), o.2, LAY t) := by
  refine Runs_mk (d := D + 46) rfl ?_
  show Ex (Runs (D + 46)) cd_X9_drawn (some (.int o.1), o.2, LAY t) 0 [some (.ref 56), some (.int x1), some (.int x2), some (.int x3)] [] s (LAY t)
  unfold X9_drawn at h
  refine Ex_call 5 (fun _ => rfl) (T_X9_in (D + 45) t x2.toInt64 0 30 s _ rfl) rfl rfl ?_
  refine Ex_brZ 1 (X9_in x2.toInt64 0 30) (fun _ => rfl) (fun hc => ?_) (fun hc => ?_)
  · rw [if_neg (m_nt hc)] at h
    obtain rfl := Option.some.inj h
    exact Ex_ret 2 (fun _ => rfl) rfl
  · rw [if_pos hc] at h
    refine Ex_call 2 (fun _ => rfl) (T_X9_isStone (D + 44) t x3 s _ rfl) rfl rfl ?_
    refine Ex_brZ 1 (X9_isStone x3) (fun _ => rfl) (fun hc => ?_) (fun hc => ?_)
    · rw [if_neg (m_nt hc)] at h
      obtain rfl := Option.some.inj h
      exact Ex_ret 2 (fun _ => rfl) rfl
    · rw [if_pos hc] at h
      obtain ⟨r1, hr, h⟩ := m_bind h
      refine Ex_call 5 (fun _ => rfl) (T_X9_draws D t x1 x2 x3 s r1 hr) rfl rfl ?_
      obtain rfl := Option.some.inj h
      exact Ex_ret 2 (fun _ => rfl) rfl

set_option maxRecDepth 20000 in
theorem T_X9_chance_j80_53 (D : Nat) (t : mTX) (w : Option Value) (z : mSG) (x1 : Int32) (x2 : Int32) (x3 : Int32) (x4 : Int32) (x5 : Int32) (x8 : Int32) (pj0 : Int64) (pj1 : Int64) (s : mSG) (u6 u7 u9 u10 u11 u12 u13 : Option Value) (o : (Int64 × Int32 × mSG) ⊕ Int64 × mSG) (h : X9_chance_j80_53 x1 x2 x3 x4 x5 x8 pj0 pj1 s = some o) (kc : ∀ y : Int64 × Int32 × mSG, o = .inl y → ∀ (u9 u10 u11 u12 u13 : Option Value), Ex (Runs (D + 46)) cd_X9_chance (w, z, LAY t) 53 [some (.ref 56), some (.int x1), some (.int x2), some (.int x3), some (.int x4), some (.int x5), some (.long y.1), none, some (.int y.2.1), u9, u10, u11, u12, u13] [] y.2.2 (LAY t)) (ke0 : ∀ y : Int64 × mSG, o = .inr y → ∀ (u0 u1 u3 u4 u8 u9 u10 u11 u12 u13 : Option Value), Ex (Runs (D + 46)) cd_X9_chance (w, z, LAY t) 89 [u0, u1, some (.int x2), u3, u4, some (.int x5), some (.long y.1), none, u8, u9, u10, u11, u12, u13] [] y.2 (LAY t)) : Ex (Runs (D + 46)) cd_X9_chance (w, z, LAY t) 80 [some (.ref 56), some (.int x1), some (.int x2), some (.int x3), some (.int x4), some (.int x5), u6, u7, some (.int x8), u9, u10, u11, u12, u13] [.long pj1, .long pj0] s (LAY t) := by
  unfold X9_chance_j80_53 at h
  refine Ex_sti 4 (fun _ => rfl) ?_
  obtain rfl := Option.some.inj h
  exact kc _ rfl _ _ _ _ _

set_option maxRecDepth 20000 in
theorem T_X9_chance_b53 (D : Nat) (t : mTX) (w : Option Value) (z : mSG) (x1 : Int32) (x2 : Int32) (x3 : Int32) (x4 : Int32) (x5 : Int32) (j6 : Int64) (x8 : Int32) (s : mSG) (u9 u10 u11 u12 u13 : Option Value) (o : (Int64 × Int32 × mSG) ⊕ Int64 × mSG) (h : X9_chance_b53 x1 x2 x3 x4 x5 j6 x8 s = some o) (kc : ∀ y : Int64 × Int32 × mSG, o = .inl y → ∀ (u9 u10 u11 u12 u13 : Option Value), Ex (Runs (D + 46)) cd_X9_chance (w, z, LAY t) 53 [some (.ref 56), some (.int x1), some (.int x2), some (.int x3), some (.int x4), some (.int x5), some (.long y.1), none, some (.int y.2.1), u9, u10, u11, u12, u13] [] y.2.2 (LAY t)) (ke0 : ∀ y : Int64 × mSG, o = .inr y → ∀ (u0 u1 u3 u4 u8 u9 u10 u11 u12 u13 : Option Value), Ex (Runs (D + 46)) cd_X9_chance (w, z, LAY t) 89 [u0, u1, some (.int x2), u3, u4, some (.int x5), some (.long y.1), none, u8, u9, u10, u11, u12, u13] [] y.2 (LAY t)) : Ex (Runs (D + 46)) cd_X9_chance (w, z, LAY t) 53 [some (.ref 56), some (.int x1), some (.int x2), some (.int x3), some (.int x4), some (.int x5), some (.long j6), none, some (.int x8), u9, u10, u11, u12, u13] [] s (LAY t) := by
  unfold X9_chance_b53 at h
  refine Ex_br 3 (x2 ≤ x8) (fun _ => rfl) (fun hc1 => ?_) (fun hc1 => ?_)
  · rw [if_pos hc1] at h
    obtain rfl := Option.some.inj h
    exact ke0 _ rfl _ _ _ _ _ _ _ _ _ _
  · rw [if_neg hc1] at h
    obtain ⟨r2, hr, h⟩ := m_bind h
    refine Ex_call 8 (fun _ => rfl) (T_X9_draws D t (x1 + x8) x3 x4 s r2 hr) rfl rfl ?_
    refine Ex_br 1 (r2.1 ≤ 0) (fun _ => rfl) (fun hc3 => ?_) (fun hc3 => ?_)
    · rw [if_pos hc3] at h
      refine Ex_sti 1 (fun _ => rfl) ?_
      exact T_X9_chance_j80_53 D t w z x1 x2 x3 x4 x5 x8 j6 0 r2.2 _ _ _ _ _ _ _ _ h kc ke0
    · rw [if_neg hc3] at h
      refine Ex_sti 2 (fun _ => rfl) ?_
      exact T_X9_chance_j80_53 D t w z x1 x2 x3 x4 x5 x8 j6 1 r2.2 _ _ _ _ _ _ _ _ h kc ke0

theorem T_X9_chance_l53 (D : Nat) (t : mTX) (w : Option Value) (z : mSG) (x1 : Int32) (x2 : Int32) (x3 : Int32) (x4 : Int32) (x5 : Int32) (v : Int64 × Int32 × mSG) (e : Int64 × mSG) (h : X9_chance_l53 x1 x2 x3 x4 x5 v = some e) (ke0 : ∀ y : Int64 × mSG, e = y → ∀ (u0 u1 u3 u4 u8 u9 u10 u11 u12 u13 : Option Value), Ex (Runs (D + 46)) cd_X9_chance (w, z, LAY t) 89 [u0, u1, some (.int x2), u3, u4, some (.int x5), some (.long y.1), none, u8, u9, u10, u11, u12, u13] [] y.2 (LAY t)) : ∀ (u9 u10 u11 u12 u13 : Option Value), Ex (Runs (D + 46)) cd_X9_chance (w, z, LAY t) 53 [some (.ref 56), some (.int x1), some (.int x2), some (.int x3), some (.int x4), some (.int x5), some (.long v.1), none, some (.int v.2.1), u9, u10, u11, u12, u13] [] v.2.2 (LAY t) :=
  m_iter (P := fun v : Int64 × Int32 × mSG => ∀ (u9 u10 u11 u12 u13 : Option Value), Ex (Runs (D + 46)) cd_X9_chance (w, z, LAY t) 53 [some (.ref 56), some (.int x1), some (.int x2), some (.int x3), some (.int x4), some (.int x5), some (.long v.1), none, some (.int v.2.1), u9, u10, u11, u12, u13] [] v.2.2 (LAY t)) (Q := fun e : Int64 × mSG => (∀ y : Int64 × mSG, e = y → ∀ (u0 u1 u3 u4 u8 u9 u10 u11 u12 u13 : Option Value), Ex (Runs (D + 46)) cd_X9_chance (w, z, LAY t) 89 [u0, u1, some (.int x2), u3, u4, some (.int x5), some (.long y.1), none, u8, u9, u10, u11, u12, u13] [] y.2 (LAY t))) (fun x o hx kc kq u9 u10 u11 u12 u13 => T_X9_chance_b53 D t w z x1 x2 x3 x4 x5 x.1 x.2.1 x.2.2 u9 u10 u11 u12 u13 o hx kc (fun e he => kq _ he e rfl)) mFU v e h ke0
set_option maxRecDepth 20000 in
theorem T_X9_chance_b97 (D : Nat) (t : mTX) (w : Option Value) (z : mSG) (x2 : Int32) (x5 : Int32) (j6 : Int64) (j8 : Int64) (j10 : Int64) (s : mSG) (u0 u1 u3 u4 u12 u13 : Option Value) (o : (Int64 × Int64) ⊕ Int64) (h : X9_chance_b97 x2 x5 j6 j8 j10 s = some o) (kc : ∀ y : Int64 × Int64, o = .inl y → ∀ (u0 u1 u3 u4 u12 u13 : Option Value), Ex (Runs (D + 46)) cd_X9_chance (w, z, LAY t) 97 [u0, u1, some (.int x2), u3, u4, some (.int x5), some (.long j6), none, some (.long y.1), none, some (.long y.2), none, u12, u13] [] s (LAY t)) (ke0 : ∀ y : Int64, o = .inr y → ∀ (u0 u1 u3 u4 u10 u11 u12 u13 : Option Value), Ex (Runs (D + 46)) cd_X9_chance (w, z, LAY t) 122 [u0, u1, some (.int x2), u3, u4, some (.int x5), some (.long j6), none, some (.long y), none, u10, u11, u12, u13] [] s (LAY t)) : Ex (Runs (D + 46)) cd_X9_chance (w, z, LAY t) 97 [u0, u1, some (.int x2), u3, u4, some (.int x5), some (.long j6), none, some (.long j8), none, some (.long j10), none, u12, u13] [] s (LAY t) := by
  unfold X9_chance_b97 at h
  refine Ex_br 4 ((lg_cmp j10 0) = 0) (fun _ => rfl) (fun hc4 => ?_) (fun hc4 => ?_)
  · rw [if_pos hc4] at h
    obtain rfl := Option.some.inj h
    exact ke0 _ rfl _ _ _ _ _ _ _ _
  · rw [if_neg hc4] at h
    obtain ⟨hg5, h⟩ := m_ite h
    refine Ex_gd 3 (fun _ => rfl) hg5 ?_
    refine Ex_sti 6 (fun _ => rfl) ?_
    obtain rfl := Option.some.inj h
    exact kc _ rfl _ _ _ _ _ _

theorem T_X9_chance_l97 (D : Nat) (t : mTX) (w : Option Value) (z : mSG) (x2 : Int32) (x5 : Int32) (j6 : Int64) (s : mSG) (v : Int64 × Int64) (e : Int64) (h : X9_chance_l97 x2 x5 j6 s v = some e) (ke0 : ∀ y : Int64, e = y → ∀ (u0 u1 u3 u4 u10 u11 u12 u13 : Option Value), Ex (Runs (D + 46)) cd_X9_chance (w, z, LAY t) 122 [u0, u1, some (.int x2), u3, u4, some (.int x5), some (.long j6), none, some (.long y), none, u10, u11, u12, u13] [] s (LAY t)) : ∀ (u0 u1 u3 u4 u12 u13 : Option Value), Ex (Runs (D + 46)) cd_X9_chance (w, z, LAY t) 97 [u0, u1, some (.int x2), u3, u4, some (.int x5), some (.long j6), none, some (.long v.1), none, some (.long v.2), none, u12, u13] [] s (LAY t) :=
  m_iter (P := fun v : Int64 × Int64 => ∀ (u0 u1 u3 u4 u12 u13 : Option Value), Ex (Runs (D + 46)) cd_X9_chance (w, z, LAY t) 97 [u0, u1, some (.int x2), u3, u4, some (.int x5), some (.long j6), none, some (.long v.1), none, some (.long v.2), none, u12, u13] [] s (LAY t)) (Q := fun e : Int64 => (∀ y : Int64, e = y → ∀ (u0 u1 u3 u4 u10 u11 u12 u13 : Option Value), Ex (Runs (D + 46)) cd_X9_chance (w, z, LAY t) 122 [u0, u1, some (.int x2), u3, u4, some (.int x5), some (.long j6), none, some (.long y), none, u10, u11, u12, u13] [] s (LAY t))) (fun x o hx kc kq u0 u1 u3 u4 u12 u13 => T_X9_chance_b97 D t w z x2 x5 j6 x.1 x.2 s u0 u1 u3 u4 u12 u13 o hx kc (fun e he => kq _ he e rfl)) mFU v e h ke0
set_option maxRecDepth 20000 in
theorem T_X9_chance (D : Nat) (t : mTX) (x1 : Int32) (x2 : Int32) (x3 : Int32) (x4 : Int32) (x5 : Int32) (s : mSG) (o : Int64 × mSG) (h : X9_chance x1 x2 x3 x4 x5 s = some o) : Runs (D + 47) 213 [.ref 56, .int x1, .int x2, .int x3, .int x4, .int x5] s (LAY t) (some (.long o.1), o.2, LAY t) := by
  refine Runs_mk (d := D + 46) rfl ?_
  show Ex (Runs (D + 46)) cd_X9_chance (some (.long o.1), o.2, LAY t) 0 [some (.ref 56), some (.int x1), some (.int x2), some (.int x3), some (.int x4), some (.int x5), none, none, none, none, none, none, none, none] [] s (LAY t)
  unfold X9_chance at h
  refine Ex_call 5 (fun _ => rfl) (T_X9_in (D + 45) t x2.toInt64 1 20 s _ rfl) rfl rfl ?_
  refine Ex_brZ 1 (X9_in x2.toInt64 1 20) (fun _ => rfl) (fun hc => ?_) (fun hc => ?_)
  · rw [if_neg (m_nt hc)] at h
    obtain rfl := Option.some.inj h
    exact Ex_ret 2 (fun _ => rfl) rfl
  · rw [if_pos hc] at h
    refine Ex_call 5 (fun _ => rfl) (T_X9_in (D + 45) t x3.toInt64 0 30 s _ rfl) rfl rfl ?_
    refine Ex_brZ 1 (X9_in x3.toInt64 0 30) (fun _ => rfl) (fun hc => ?_) (fun hc => ?_)
    · rw [if_neg (m_nt hc)] at h
      obtain rfl := Option.some.inj h
      exact Ex_ret 2 (fun _ => rfl) rfl
    · rw [if_pos hc] at h
      refine Ex_call 2 (fun _ => rfl) (T_X9_isStone (D + 44) t x4 s _ rfl) rfl rfl ?_
      refine Ex_brZ 1 (X9_isStone x4) (fun _ => rfl) (fun hc => ?_) (fun hc => ?_)
      · rw [if_neg (m_nt hc)] at h
        obtain rfl := Option.some.inj h
        exact Ex_ret 2 (fun _ => rfl) rfl
      · rw [if_pos hc] at h
        refine Ex_call 5 (fun _ => rfl) (T_X9_in (D + 45) t x5.toInt64 0 1 s _ rfl) rfl rfl ?_
        refine Ex_brZ 1 (X9_in x5.toInt64 0 1) (fun _ => rfl) (fun hc => ?_) (fun hc => ?_)
        · rw [if_neg (m_nt hc)] at h
          obtain rfl := Option.some.inj h
          exact Ex_ret 2 (fun _ => rfl) rfl
        · rw [if_pos hc] at h
          refine Ex_sti 4 (fun _ => rfl) ?_
          obtain ⟨e53, hl, h⟩ := m_bind h
          refine T_X9_chance_l53 D t (some (.long o.1)) o.2 x1 x2 x3 x4 x5  (0, 0, s) _ hl (fun y0 hy0 => ?_) _ _ _ _ _
          · obtain ⟨e53, rfl⟩ : ∃ q, q = y0 := ⟨_, rfl⟩
            subst hy0
            intro vu0 vu1 vu3 vu4 vu8 vu9 vu10 vu11 vu12 vu13
            refine Ex_sti 5 (fun _ => rfl) ?_
            obtain ⟨e97, hl, h⟩ := m_bind h
            refine T_X9_chance_l97 D t (some (.long o.1)) o.2 x2 x5 e53.1 e53.2 (e53.1, x2.toInt64) _ hl (fun y0 hy0 => ?_) _ _ _ _ _ _
            · obtain ⟨e97, rfl⟩ : ∃ q, q = y0 := ⟨_, rfl⟩
              subst hy0
              intro vu0 vu1 vu3 vu4 vu10 vu11 vu12 vu13
              refine Ex_br 2 (x5 = 0) (fun _ => rfl) (fun hc9 => ?_) (fun hc9 => ?_)
              · rw [if_pos hc9] at h
                obtain ⟨hg10, h⟩ := m_ite h
                refine Ex_gd 3 (fun _ => rfl) hg10 ?_
                obtain rfl := Option.some.inj h
                exact Ex_ret 2 (fun _ => rfl) rfl
              · rw [if_neg hc9] at h
                obtain ⟨hg11, h⟩ := m_ite h
                refine Ex_gd 4 (fun _ => rfl) hg11 ?_
                obtain rfl := Option.some.inj h
                exact Ex_ret 1 (fun _ => rfl) rfl

set_option maxRecDepth 20000 in
theorem T_X9_image_b2 (D : Nat) (t : mTX) (w : Option Value) (z : mSG) (x1 : Int32) (s : mSG) (o : (Int32 × mSG) ⊕ mSG) (h : X9_image_b2 x1 s = some o) (kc : ∀ y : Int32 × mSG, o = .inl y → Ex (Runs (D)) cd_X9_image (w, z, LAY t) 2 [some (.ref 56), some (.int y.1)] [] y.2 (LAY t)) (ke0 : ∀ y : mSG, o = .inr y → ∀ (u1 : Option Value), Ex (Runs (D)) cd_X9_image (w, z, LAY t) 26 [some (.ref 56), u1] [] y (LAY t)) : Ex (Runs (D)) cd_X9_image (w, z, LAY t) 2 [some (.ref 56), some (.int x1)] [] s (LAY t) := by
  unfold X9_image_b2 at h
  refine Ex_br 3 (64 ≤ x1) (fun _ => rfl) (fun hc1 => ?_) (fun hc1 => ?_)
  · rw [if_pos hc1] at h
    obtain rfl := Option.some.inj h
    exact ke0 _ rfl _
  · rw [if_neg hc1] at h
    obtain ⟨hg2, h⟩ := m_ite h
    refine Ex_gd 7 (fun _ => rfl) hg2 ?_
    refine Ex_gd 1 (fun _ => rfl) hg2 ?_
    refine Ex_sti 2 (fun _ => rfl) ?_
    obtain rfl := Option.some.inj h
    exact kc _ rfl 

theorem T_X9_image_l2 (D : Nat) (t : mTX) (w : Option Value) (z : mSG) (v : Int32 × mSG) (e : mSG) (h : X9_image_l2 v = some e) (ke0 : ∀ y : mSG, e = y → ∀ (u1 : Option Value), Ex (Runs (D)) cd_X9_image (w, z, LAY t) 26 [some (.ref 56), u1] [] y (LAY t)) : Ex (Runs (D)) cd_X9_image (w, z, LAY t) 2 [some (.ref 56), some (.int v.1)] [] v.2 (LAY t) :=
  m_iter (P := fun v : Int32 × mSG => Ex (Runs (D)) cd_X9_image (w, z, LAY t) 2 [some (.ref 56), some (.int v.1)] [] v.2 (LAY t)) (Q := fun e : mSG => (∀ y : mSG, e = y → ∀ (u1 : Option Value), Ex (Runs (D)) cd_X9_image (w, z, LAY t) 26 [some (.ref 56), u1] [] y (LAY t))) (fun x o hx kc kq  => T_X9_image_b2 D t w z  x.1 x.2  o hx kc (fun e he => kq _ he e rfl)) mFU v e h ke0
set_option maxRecDepth 20000 in
theorem T_X9_image_b28 (D : Nat) (t : mTX) (w : Option Value) (z : mSG) (x1 : Int32) (s : mSG) (o : (Int32 × mSG) ⊕ mSG) (h : X9_image_b28 x1 s = some o) (kc : ∀ y : Int32 × mSG, o = .inl y → Ex (Runs (D)) cd_X9_image (w, z, LAY t) 28 [some (.ref 56), some (.int y.1)] [] y.2 (LAY t)) (ke0 : ∀ y : mSG, o = .inr y → ∀ (u1 : Option Value), Ex (Runs (D)) cd_X9_image (w, z, LAY t) 52 [some (.ref 56), u1] [] y (LAY t)) : Ex (Runs (D)) cd_X9_image (w, z, LAY t) 28 [some (.ref 56), some (.int x1)] [] s (LAY t) := by
  unfold X9_image_b28 at h
  refine Ex_br 3 (25 ≤ x1) (fun _ => rfl) (fun hc3 => ?_) (fun hc3 => ?_)
  · rw [if_pos hc3] at h
    obtain rfl := Option.some.inj h
    exact ke0 _ rfl _
  · rw [if_neg hc3] at h
    obtain ⟨hg4, h⟩ := m_ite h
    refine Ex_gd 7 (fun _ => rfl) hg4 ?_
    refine Ex_gd 1 (fun _ => rfl) hg4 ?_
    refine Ex_sti 2 (fun _ => rfl) ?_
    obtain rfl := Option.some.inj h
    exact kc _ rfl 

theorem T_X9_image_l28 (D : Nat) (t : mTX) (w : Option Value) (z : mSG) (v : Int32 × mSG) (e : mSG) (h : X9_image_l28 v = some e) (ke0 : ∀ y : mSG, e = y → ∀ (u1 : Option Value), Ex (Runs (D)) cd_X9_image (w, z, LAY t) 52 [some (.ref 56), u1] [] y (LAY t)) : Ex (Runs (D)) cd_X9_image (w, z, LAY t) 28 [some (.ref 56), some (.int v.1)] [] v.2 (LAY t) :=
  m_iter (P := fun v : Int32 × mSG => Ex (Runs (D)) cd_X9_image (w, z, LAY t) 28 [some (.ref 56), some (.int v.1)] [] v.2 (LAY t)) (Q := fun e : mSG => (∀ y : mSG, e = y → ∀ (u1 : Option Value), Ex (Runs (D)) cd_X9_image (w, z, LAY t) 52 [some (.ref 56), u1] [] y (LAY t))) (fun x o hx kc kq  => T_X9_image_b28 D t w z  x.1 x.2  o hx kc (fun e he => kq _ he e rfl)) mFU v e h ke0
set_option maxRecDepth 20000 in
theorem T_X9_image_b54 (D : Nat) (t : mTX) (w : Option Value) (z : mSG) (x1 : Int32) (s : mSG) (o : (Int32 × mSG) ⊕ mSG) (h : X9_image_b54 x1 s = some o) (kc : ∀ y : Int32 × mSG, o = .inl y → Ex (Runs (D)) cd_X9_image (w, z, LAY t) 54 [some (.ref 56), some (.int y.1)] [] y.2 (LAY t)) (ke0 : ∀ y : mSG, o = .inr y → ∀ (u1 : Option Value), Ex (Runs (D)) cd_X9_image (w, z, LAY t) 78 [some (.ref 56), u1] [] y (LAY t)) : Ex (Runs (D)) cd_X9_image (w, z, LAY t) 54 [some (.ref 56), some (.int x1)] [] s (LAY t) := by
  unfold X9_image_b54 at h
  refine Ex_br 3 (24 ≤ x1) (fun _ => rfl) (fun hc5 => ?_) (fun hc5 => ?_)
  · rw [if_pos hc5] at h
    obtain rfl := Option.some.inj h
    exact ke0 _ rfl _
  · rw [if_neg hc5] at h
    obtain ⟨hg6, h⟩ := m_ite h
    refine Ex_gd 7 (fun _ => rfl) hg6 ?_
    refine Ex_gd 1 (fun _ => rfl) hg6 ?_
    refine Ex_sti 2 (fun _ => rfl) ?_
    obtain rfl := Option.some.inj h
    exact kc _ rfl 

theorem T_X9_image_l54 (D : Nat) (t : mTX) (w : Option Value) (z : mSG) (v : Int32 × mSG) (e : mSG) (h : X9_image_l54 v = some e) (ke0 : ∀ y : mSG, e = y → ∀ (u1 : Option Value), Ex (Runs (D)) cd_X9_image (w, z, LAY t) 78 [some (.ref 56), u1] [] y (LAY t)) : Ex (Runs (D)) cd_X9_image (w, z, LAY t) 54 [some (.ref 56), some (.int v.1)] [] v.2 (LAY t) :=
  m_iter (P := fun v : Int32 × mSG => Ex (Runs (D)) cd_X9_image (w, z, LAY t) 54 [some (.ref 56), some (.int v.1)] [] v.2 (LAY t)) (Q := fun e : mSG => (∀ y : mSG, e = y → ∀ (u1 : Option Value), Ex (Runs (D)) cd_X9_image (w, z, LAY t) 78 [some (.ref 56), u1] [] y (LAY t))) (fun x o hx kc kq  => T_X9_image_b54 D t w z  x.1 x.2  o hx kc (fun e he => kq _ he e rfl)) mFU v e h ke0
set_option maxRecDepth 20000 in
theorem T_X9_image_b80 (D : Nat) (t : mTX) (w : Option Value) (z : mSG) (x1 : Int32) (s : mSG) (o : (Int32 × mSG) ⊕ mSG) (h : X9_image_b80 x1 s = some o) (kc : ∀ y : Int32 × mSG, o = .inl y → Ex (Runs (D)) cd_X9_image (w, z, LAY t) 80 [some (.ref 56), some (.int y.1)] [] y.2 (LAY t)) (ke0 : ∀ y : mSG, o = .inr y → ∀ (u1 : Option Value), Ex (Runs (D)) cd_X9_image (w, z, LAY t) 162 [some (.ref 56), u1] [] y (LAY t)) : Ex (Runs (D)) cd_X9_image (w, z, LAY t) 80 [some (.ref 56), some (.int x1)] [] s (LAY t) := by
  unfold X9_image_b80 at h
  refine Ex_br 3 (5 ≤ x1) (fun _ => rfl) (fun hc7 => ?_) (fun hc7 => ?_)
  · rw [if_pos hc7] at h
    obtain rfl := Option.some.inj h
    exact ke0 _ rfl _
  · rw [if_neg hc7] at h
    obtain ⟨hg8, h⟩ := m_ite h
    refine Ex_gd 7 (fun _ => rfl) hg8 ?_
    obtain ⟨hg9, h⟩ := m_ite h
    refine Ex_gd 1 (fun _ => rfl) hg9 ?_
    refine Ex_gd 9 (fun _ => rfl) hg8 ?_
    obtain ⟨hg10, h⟩ := m_ite h
    refine Ex_gd 1 (fun _ => rfl) hg10 ?_
    refine Ex_gd 9 (fun _ => rfl) hg8 ?_
    obtain ⟨hg11, h⟩ := m_ite h
    refine Ex_gd 1 (fun _ => rfl) hg11 ?_
    refine Ex_gd 9 (fun _ => rfl) hg8 ?_
    obtain ⟨hg12, h⟩ := m_ite h
    refine Ex_gd 1 (fun _ => rfl) hg12 ?_
    refine Ex_gd 9 (fun _ => rfl) hg8 ?_
    obtain ⟨hg13, h⟩ := m_ite h
    refine Ex_gd 1 (fun _ => rfl) hg13 ?_
    refine Ex_sti 2 (fun _ => rfl) ?_
    obtain rfl := Option.some.inj h
    exact kc _ rfl 

theorem T_X9_image_l80 (D : Nat) (t : mTX) (w : Option Value) (z : mSG) (v : Int32 × mSG) (e : mSG) (h : X9_image_l80 v = some e) (ke0 : ∀ y : mSG, e = y → ∀ (u1 : Option Value), Ex (Runs (D)) cd_X9_image (w, z, LAY t) 162 [some (.ref 56), u1] [] y (LAY t)) : Ex (Runs (D)) cd_X9_image (w, z, LAY t) 80 [some (.ref 56), some (.int v.1)] [] v.2 (LAY t) :=
  m_iter (P := fun v : Int32 × mSG => Ex (Runs (D)) cd_X9_image (w, z, LAY t) 80 [some (.ref 56), some (.int v.1)] [] v.2 (LAY t)) (Q := fun e : mSG => (∀ y : mSG, e = y → ∀ (u1 : Option Value), Ex (Runs (D)) cd_X9_image (w, z, LAY t) 162 [some (.ref 56), u1] [] y (LAY t))) (fun x o hx kc kq  => T_X9_image_b80 D t w z  x.1 x.2  o hx kc (fun e he => kq _ he e rfl)) mFU v e h ke0
set_option maxRecDepth 20000 in
theorem T_X9_image (D : Nat) (t : mTX) (s : mSG) (o : Int32 × mSG) (h : X9_image s = some o) : Runs (D + 1) 214 [.ref 56] s (LAY t) (some (.int o.1), o.2, LAY t) := by
  refine Runs_mk (d := D) rfl ?_
  show Ex (Runs (D)) cd_X9_image (some (.int o.1), o.2, LAY t) 0 [some (.ref 56), none] [] s (LAY t)
  unfold X9_image at h
  refine Ex_sti 2 (fun _ => rfl) ?_
  obtain ⟨e2, hl, h⟩ := m_bind h
  refine T_X9_image_l2 D t (some (.int o.1)) o.2   (0, s) _ hl (fun y0 hy0 => ?_) 
  · obtain ⟨e2, rfl⟩ : ∃ q, q = y0 := ⟨_, rfl⟩
    subst hy0
    intro vu1
    refine Ex_sti 2 (fun _ => rfl) ?_
    obtain ⟨e28, hl, h⟩ := m_bind h
    refine T_X9_image_l28 D t (some (.int o.1)) o.2   (0, e2) _ hl (fun y0 hy0 => ?_) 
    · obtain ⟨e28, rfl⟩ : ∃ q, q = y0 := ⟨_, rfl⟩
      subst hy0
      intro vu1
      refine Ex_sti 2 (fun _ => rfl) ?_
      obtain ⟨e54, hl, h⟩ := m_bind h
      refine T_X9_image_l54 D t (some (.int o.1)) o.2   (0, e28) _ hl (fun y0 hy0 => ?_) 
      · obtain ⟨e54, rfl⟩ : ∃ q, q = y0 := ⟨_, rfl⟩
        subst hy0
        intro vu1
        refine Ex_sti 2 (fun _ => rfl) ?_
        obtain ⟨e80, hl, h⟩ := m_bind h
        refine T_X9_image_l80 D t (some (.int o.1)) o.2   (0, e54) _ hl (fun y0 hy0 => ?_) 
        · obtain ⟨e80, rfl⟩ : ∃ q, q = y0 := ⟨_, rfl⟩
          subst hy0
          intro vu1
          obtain rfl := Option.some.inj h
          exact Ex_ret 15 (fun _ => rfl) rfl

set_option maxRecDepth 20000 in
theorem T_X9_back_b13 (D : Nat) (t : mTX) (w : Option Value) (z : mSG) (x1 : Int32) (s : mSG) (o : (Int32 × mSG) ⊕ mSG) (h : X9_back_b13 x1 s = some o) (kc : ∀ y : Int32 × mSG, o = .inl y → Ex (Runs (D)) cd_X9_back (w, z, LAY t) 13 [some (.ref 56), some (.int y.1)] [] y.2 (LAY t)) (ke0 : ∀ y : mSG, o = .inr y → ∀ (u1 : Option Value), Ex (Runs (D)) cd_X9_back (w, z, LAY t) 37 [some (.ref 56), u1] [] y (LAY t)) : Ex (Runs (D)) cd_X9_back (w, z, LAY t) 13 [some (.ref 56), some (.int x1)] [] s (LAY t) := by
  unfold X9_back_b13 at h
  refine Ex_br 3 (64 ≤ x1) (fun _ => rfl) (fun hc2 => ?_) (fun hc2 => ?_)
  · rw [if_pos hc2] at h
    obtain rfl := Option.some.inj h
    exact ke0 _ rfl _
  · rw [if_neg hc2] at h
    obtain ⟨hg3, h⟩ := m_ite h
    refine Ex_gd 7 (fun _ => rfl) hg3 ?_
    refine Ex_gd 1 (fun _ => rfl) hg3 ?_
    refine Ex_sti 2 (fun _ => rfl) ?_
    obtain rfl := Option.some.inj h
    exact kc _ rfl 

theorem T_X9_back_l13 (D : Nat) (t : mTX) (w : Option Value) (z : mSG) (v : Int32 × mSG) (e : mSG) (h : X9_back_l13 v = some e) (ke0 : ∀ y : mSG, e = y → ∀ (u1 : Option Value), Ex (Runs (D)) cd_X9_back (w, z, LAY t) 37 [some (.ref 56), u1] [] y (LAY t)) : Ex (Runs (D)) cd_X9_back (w, z, LAY t) 13 [some (.ref 56), some (.int v.1)] [] v.2 (LAY t) :=
  m_iter (P := fun v : Int32 × mSG => Ex (Runs (D)) cd_X9_back (w, z, LAY t) 13 [some (.ref 56), some (.int v.1)] [] v.2 (LAY t)) (Q := fun e : mSG => (∀ y : mSG, e = y → ∀ (u1 : Option Value), Ex (Runs (D)) cd_X9_back (w, z, LAY t) 37 [some (.ref 56), u1] [] y (LAY t))) (fun x o hx kc kq  => T_X9_back_b13 D t w z  x.1 x.2  o hx kc (fun e he => kq _ he e rfl)) mFU v e h ke0
set_option maxRecDepth 20000 in
theorem T_X9_back_b39 (D : Nat) (t : mTX) (w : Option Value) (z : mSG) (x1 : Int32) (s : mSG) (o : (Int32 × mSG) ⊕ mSG) (h : X9_back_b39 x1 s = some o) (kc : ∀ y : Int32 × mSG, o = .inl y → Ex (Runs (D)) cd_X9_back (w, z, LAY t) 39 [some (.ref 56), some (.int y.1)] [] y.2 (LAY t)) (ke0 : ∀ y : mSG, o = .inr y → ∀ (u1 : Option Value), Ex (Runs (D)) cd_X9_back (w, z, LAY t) 63 [some (.ref 56), u1] [] y (LAY t)) : Ex (Runs (D)) cd_X9_back (w, z, LAY t) 39 [some (.ref 56), some (.int x1)] [] s (LAY t) := by
  unfold X9_back_b39 at h
  refine Ex_br 3 (25 ≤ x1) (fun _ => rfl) (fun hc4 => ?_) (fun hc4 => ?_)
  · rw [if_pos hc4] at h
    obtain rfl := Option.some.inj h
    exact ke0 _ rfl _
  · rw [if_neg hc4] at h
    obtain ⟨hg5, h⟩ := m_ite h
    refine Ex_gd 7 (fun _ => rfl) hg5 ?_
    refine Ex_gd 1 (fun _ => rfl) hg5 ?_
    refine Ex_sti 2 (fun _ => rfl) ?_
    obtain rfl := Option.some.inj h
    exact kc _ rfl 

theorem T_X9_back_l39 (D : Nat) (t : mTX) (w : Option Value) (z : mSG) (v : Int32 × mSG) (e : mSG) (h : X9_back_l39 v = some e) (ke0 : ∀ y : mSG, e = y → ∀ (u1 : Option Value), Ex (Runs (D)) cd_X9_back (w, z, LAY t) 63 [some (.ref 56), u1] [] y (LAY t)) : Ex (Runs (D)) cd_X9_back (w, z, LAY t) 39 [some (.ref 56), some (.int v.1)] [] v.2 (LAY t) :=
  m_iter (P := fun v : Int32 × mSG => Ex (Runs (D)) cd_X9_back (w, z, LAY t) 39 [some (.ref 56), some (.int v.1)] [] v.2 (LAY t)) (Q := fun e : mSG => (∀ y : mSG, e = y → ∀ (u1 : Option Value), Ex (Runs (D)) cd_X9_back (w, z, LAY t) 63 [some (.ref 56), u1] [] y (LAY t))) (fun x o hx kc kq  => T_X9_back_b39 D t w z  x.1 x.2  o hx kc (fun e he => kq _ he e rfl)) mFU v e h ke0
set_option maxRecDepth 20000 in
theorem T_X9_back_b65 (D : Nat) (t : mTX) (w : Option Value) (z : mSG) (x1 : Int32) (s : mSG) (o : (Int32 × mSG) ⊕ mSG) (h : X9_back_b65 x1 s = some o) (kc : ∀ y : Int32 × mSG, o = .inl y → Ex (Runs (D)) cd_X9_back (w, z, LAY t) 65 [some (.ref 56), some (.int y.1)] [] y.2 (LAY t)) (ke0 : ∀ y : mSG, o = .inr y → ∀ (u1 : Option Value), Ex (Runs (D)) cd_X9_back (w, z, LAY t) 89 [some (.ref 56), u1] [] y (LAY t)) : Ex (Runs (D)) cd_X9_back (w, z, LAY t) 65 [some (.ref 56), some (.int x1)] [] s (LAY t) := by
  unfold X9_back_b65 at h
  refine Ex_br 3 (24 ≤ x1) (fun _ => rfl) (fun hc6 => ?_) (fun hc6 => ?_)
  · rw [if_pos hc6] at h
    obtain rfl := Option.some.inj h
    exact ke0 _ rfl _
  · rw [if_neg hc6] at h
    obtain ⟨hg7, h⟩ := m_ite h
    refine Ex_gd 7 (fun _ => rfl) hg7 ?_
    refine Ex_gd 1 (fun _ => rfl) hg7 ?_
    refine Ex_sti 2 (fun _ => rfl) ?_
    obtain rfl := Option.some.inj h
    exact kc _ rfl 

theorem T_X9_back_l65 (D : Nat) (t : mTX) (w : Option Value) (z : mSG) (v : Int32 × mSG) (e : mSG) (h : X9_back_l65 v = some e) (ke0 : ∀ y : mSG, e = y → ∀ (u1 : Option Value), Ex (Runs (D)) cd_X9_back (w, z, LAY t) 89 [some (.ref 56), u1] [] y (LAY t)) : Ex (Runs (D)) cd_X9_back (w, z, LAY t) 65 [some (.ref 56), some (.int v.1)] [] v.2 (LAY t) :=
  m_iter (P := fun v : Int32 × mSG => Ex (Runs (D)) cd_X9_back (w, z, LAY t) 65 [some (.ref 56), some (.int v.1)] [] v.2 (LAY t)) (Q := fun e : mSG => (∀ y : mSG, e = y → ∀ (u1 : Option Value), Ex (Runs (D)) cd_X9_back (w, z, LAY t) 89 [some (.ref 56), u1] [] y (LAY t))) (fun x o hx kc kq  => T_X9_back_b65 D t w z  x.1 x.2  o hx kc (fun e he => kq _ he e rfl)) mFU v e h ke0
set_option maxRecDepth 20000 in
theorem T_X9_back_b91 (D : Nat) (t : mTX) (w : Option Value) (z : mSG) (x1 : Int32) (s : mSG) (o : (Int32 × mSG) ⊕ mSG) (h : X9_back_b91 x1 s = some o) (kc : ∀ y : Int32 × mSG, o = .inl y → Ex (Runs (D)) cd_X9_back (w, z, LAY t) 91 [some (.ref 56), some (.int y.1)] [] y.2 (LAY t)) (ke0 : ∀ y : mSG, o = .inr y → ∀ (u1 : Option Value), Ex (Runs (D)) cd_X9_back (w, z, LAY t) 173 [some (.ref 56), u1] [] y (LAY t)) : Ex (Runs (D)) cd_X9_back (w, z, LAY t) 91 [some (.ref 56), some (.int x1)] [] s (LAY t) := by
  unfold X9_back_b91 at h
  refine Ex_br 3 (5 ≤ x1) (fun _ => rfl) (fun hc8 => ?_) (fun hc8 => ?_)
  · rw [if_pos hc8] at h
    obtain rfl := Option.some.inj h
    exact ke0 _ rfl _
  · rw [if_neg hc8] at h
    obtain ⟨hg9, h⟩ := m_ite h
    refine Ex_gd 7 (fun _ => rfl) hg9 ?_
    obtain ⟨hg10, h⟩ := m_ite h
    refine Ex_gd 1 (fun _ => rfl) hg10 ?_
    obtain ⟨hg11, h⟩ := m_ite h
    refine Ex_gd 9 (fun _ => rfl) hg11 ?_
    refine Ex_gd 1 (fun _ => rfl) hg10 ?_
    obtain ⟨hg12, h⟩ := m_ite h
    refine Ex_gd 9 (fun _ => rfl) hg12 ?_
    refine Ex_gd 1 (fun _ => rfl) hg10 ?_
    obtain ⟨hg13, h⟩ := m_ite h
    refine Ex_gd 9 (fun _ => rfl) hg13 ?_
    refine Ex_gd 1 (fun _ => rfl) hg10 ?_
    obtain ⟨hg14, h⟩ := m_ite h
    refine Ex_gd 9 (fun _ => rfl) hg14 ?_
    refine Ex_gd 1 (fun _ => rfl) hg10 ?_
    refine Ex_sti 2 (fun _ => rfl) ?_
    obtain rfl := Option.some.inj h
    exact kc _ rfl 

theorem T_X9_back_l91 (D : Nat) (t : mTX) (w : Option Value) (z : mSG) (v : Int32 × mSG) (e : mSG) (h : X9_back_l91 v = some e) (ke0 : ∀ y : mSG, e = y → ∀ (u1 : Option Value), Ex (Runs (D)) cd_X9_back (w, z, LAY t) 173 [some (.ref 56), u1] [] y (LAY t)) : Ex (Runs (D)) cd_X9_back (w, z, LAY t) 91 [some (.ref 56), some (.int v.1)] [] v.2 (LAY t) :=
  m_iter (P := fun v : Int32 × mSG => Ex (Runs (D)) cd_X9_back (w, z, LAY t) 91 [some (.ref 56), some (.int v.1)] [] v.2 (LAY t)) (Q := fun e : mSG => (∀ y : mSG, e = y → ∀ (u1 : Option Value), Ex (Runs (D)) cd_X9_back (w, z, LAY t) 173 [some (.ref 56), u1] [] y (LAY t))) (fun x o hx kc kq  => T_X9_back_b91 D t w z  x.1 x.2  o hx kc (fun e he => kq _ he e rfl)) mFU v e h ke0
set_option maxRecDepth 20000 in
theorem T_X9_back (D : Nat) (t : mTX) (s : mSG) (o : Int32 × mSG) (h : X9_back s = some o) : Runs (D + 1) 215 [.ref 56] s (LAY t) (some (.int o.1), o.2, LAY t) := by
  refine Runs_mk (d := D) rfl ?_
  show Ex (Runs (D)) cd_X9_back (some (.int o.1), o.2, LAY t) 0 [some (.ref 56), none] [] s (LAY t)
  unfold X9_back at h
  refine Ex_br 4 ((s.1 56 47) = (-1)) (fun _ => rfl) (fun hc1 => ?_) (fun hc1 => ?_)
  · rw [if_pos hc1] at h
    obtain rfl := Option.some.inj h
    exact Ex_ret 2 (fun _ => rfl) rfl
  · rw [if_neg hc1] at h
    refine Ex_sti 2 (fun _ => rfl) ?_
    obtain ⟨e13, hl, h⟩ := m_bind h
    refine T_X9_back_l13 D t (some (.int o.1)) o.2   (0, s) _ hl (fun y0 hy0 => ?_) 
    · obtain ⟨e13, rfl⟩ : ∃ q, q = y0 := ⟨_, rfl⟩
      subst hy0
      intro vu1
      refine Ex_sti 2 (fun _ => rfl) ?_
      obtain ⟨e39, hl, h⟩ := m_bind h
      refine T_X9_back_l39 D t (some (.int o.1)) o.2   (0, e13) _ hl (fun y0 hy0 => ?_) 
      · obtain ⟨e39, rfl⟩ : ∃ q, q = y0 := ⟨_, rfl⟩
        subst hy0
        intro vu1
        refine Ex_sti 2 (fun _ => rfl) ?_
        obtain ⟨e65, hl, h⟩ := m_bind h
        refine T_X9_back_l65 D t (some (.int o.1)) o.2   (0, e39) _ hl (fun y0 hy0 => ?_) 
        · obtain ⟨e65, rfl⟩ : ∃ q, q = y0 := ⟨_, rfl⟩
          subst hy0
          intro vu1
          refine Ex_sti 2 (fun _ => rfl) ?_
          obtain ⟨e91, hl, h⟩ := m_bind h
          refine T_X9_back_l91 D t (some (.int o.1)) o.2   (0, e65) _ hl (fun y0 hy0 => ?_) 
          · obtain ⟨e91, rfl⟩ : ∃ q, q = y0 := ⟨_, rfl⟩
            subst hy0
            intro vu1
            obtain rfl := Option.some.inj h
            exact Ex_ret 15 (fun _ => rfl) rfl

set_option maxRecDepth 20000 in
theorem T_X9_count_j45_24 (D : Nat) (t : mTX) (w : Option Value) (z : mSG) (x3 : Int32) (p0 : Int32) (p1 : Int32) (s : mSG) (u1 u2 : Option Value) (o : (Int32 × Int32) ⊕ Int32) (h : X9_count_j45_24 x3 p0 p1 s = some o) (kc : ∀ y : Int32 × Int32, o = .inl y → ∀ (u1 : Option Value), Ex (Runs (D + 3)) cd_X9_count (w, z, LAY t) 24 [some (.ref 56), u1, some (.int y.1), some (.int y.2)] [] s (LAY t)) (ke0 : ∀ y : Int32, o = .inr y → ∀ (u0 u1 u3 : Option Value), Ex (Runs (D + 3)) cd_X9_count (w, z, LAY t) 53 [u0, u1, some (.int y), u3] [] s (LAY t)) : Ex (Runs (D + 3)) cd_X9_count (w, z, LAY t) 45 [some (.ref 56), u1, u2, some (.int x3)] [.int p1, .int p0] s (LAY t) := by
  unfold X9_count_j45_24 at h
  refine Ex_sti 4 (fun _ => rfl) ?_
  obtain rfl := Option.some.inj h
  exact kc _ rfl _

set_option maxRecDepth 20000 in
theorem T_X9_count_b24 (D : Nat) (t : mTX) (w : Option Value) (z : mSG) (x2 : Int32) (x3 : Int32) (s : mSG) (u1 : Option Value) (o : (Int32 × Int32) ⊕ Int32) (h : X9_count_b24 x2 x3 s = some o) (kc : ∀ y : Int32 × Int32, o = .inl y → ∀ (u1 : Option Value), Ex (Runs (D + 3)) cd_X9_count (w, z, LAY t) 24 [some (.ref 56), u1, some (.int y.1), some (.int y.2)] [] s (LAY t)) (ke0 : ∀ y : Int32, o = .inr y → ∀ (u0 u1 u3 : Option Value), Ex (Runs (D + 3)) cd_X9_count (w, z, LAY t) 53 [u0, u1, some (.int y), u3] [] s (LAY t)) : Ex (Runs (D + 3)) cd_X9_count (w, z, LAY t) 24 [some (.ref 56), u1, some (.int x2), some (.int x3)] [] s (LAY t) := by
  unfold X9_count_b24 at h
  refine Ex_br 3 (64 ≤ x3) (fun _ => rfl) (fun hc9 => ?_) (fun hc9 => ?_)
  · rw [if_pos hc9] at h
    obtain rfl := Option.some.inj h
    exact ke0 _ rfl _ _ _
  · rw [if_neg hc9] at h
    obtain ⟨hg10, h⟩ := m_ite h
    refine Ex_gd 5 (fun _ => rfl) hg10 ?_
    refine Ex_br 1 ((s.1 60 x3.toNatClampNeg) ≤ 0) (fun _ => rfl) (fun hc11 => ?_) (fun hc11 => ?_)
    · rw [if_pos hc11] at h
      refine Ex_sti 1 (fun _ => rfl) ?_
      exact T_X9_count_j45_24 D t w z x3 x2 0 s _ _ _ h kc ke0
    · rw [if_neg hc11] at h
      refine Ex_sti 2 (fun _ => rfl) ?_
      exact T_X9_count_j45_24 D t w z x3 x2 1 s _ _ _ h kc ke0

theorem T_X9_count_l24 (D : Nat) (t : mTX) (w : Option Value) (z : mSG) (s : mSG) (v : Int32 × Int32) (e : Int32) (h : X9_count_l24 s v = some e) (ke0 : ∀ y : Int32, e = y → ∀ (u0 u1 u3 : Option Value), Ex (Runs (D + 3)) cd_X9_count (w, z, LAY t) 53 [u0, u1, some (.int y), u3] [] s (LAY t)) : ∀ (u1 : Option Value), Ex (Runs (D + 3)) cd_X9_count (w, z, LAY t) 24 [some (.ref 56), u1, some (.int v.1), some (.int v.2)] [] s (LAY t) :=
  m_iter (P := fun v : Int32 × Int32 => ∀ (u1 : Option Value), Ex (Runs (D + 3)) cd_X9_count (w, z, LAY t) 24 [some (.ref 56), u1, some (.int v.1), some (.int v.2)] [] s (LAY t)) (Q := fun e : Int32 => (∀ y : Int32, e = y → ∀ (u0 u1 u3 : Option Value), Ex (Runs (D + 3)) cd_X9_count (w, z, LAY t) 53 [u0, u1, some (.int y), u3] [] s (LAY t))) (fun x o hx kc kq u1 => T_X9_count_b24 D t w z  x.1 x.2 s u1 o hx kc (fun e he => kq _ he e rfl)) mFU v e h ke0
set_option maxRecDepth 20000 in
theorem T_X9_count_b67 (D : Nat) (t : mTX) (w : Option Value) (z : mSG) (x2 : Int32) (x3 : Int32) (s : mSG) (u1 : Option Value) (o : (Int32 × Int32) ⊕ Int32) (h : X9_count_b67 x2 x3 s = some o) (kc : ∀ y : Int32 × Int32, o = .inl y → ∀ (u1 : Option Value), Ex (Runs (D + 3)) cd_X9_count (w, z, LAY t) 67 [some (.ref 56), u1, some (.int y.1), some (.int y.2)] [] s (LAY t)) (ke0 : ∀ y : Int32, o = .inr y → ∀ (u0 u1 u3 : Option Value), Ex (Runs (D + 3)) cd_X9_count (w, z, LAY t) 91 [u0, u1, some (.int y), u3] [] s (LAY t)) : Ex (Runs (D + 3)) cd_X9_count (w, z, LAY t) 67 [some (.ref 56), u1, some (.int x2), some (.int x3)] [] s (LAY t) := by
  unfold X9_count_b67 at h
  refine Ex_br 4 ((s.1 56 15) ≤ x3) (fun _ => rfl) (fun hc12 => ?_) (fun hc12 => ?_)
  · rw [if_pos hc12] at h
    obtain rfl := Option.some.inj h
    exact ke0 _ rfl _ _ _
  · rw [if_neg hc12] at h
    obtain ⟨r13, hr, h⟩ := m_bind h
    refine Ex_call 5 (fun _ => rfl) (T_X9_told D t x3 7 s r13 hr) rfl rfl ?_
    refine Ex_sti 4 (fun _ => rfl) ?_
    obtain rfl := Option.some.inj h
    exact kc _ rfl _

theorem T_X9_count_l67 (D : Nat) (t : mTX) (w : Option Value) (z : mSG) (s : mSG) (v : Int32 × Int32) (e : Int32) (h : X9_count_l67 s v = some e) (ke0 : ∀ y : Int32, e = y → ∀ (u0 u1 u3 : Option Value), Ex (Runs (D + 3)) cd_X9_count (w, z, LAY t) 91 [u0, u1, some (.int y), u3] [] s (LAY t)) : ∀ (u1 : Option Value), Ex (Runs (D + 3)) cd_X9_count (w, z, LAY t) 67 [some (.ref 56), u1, some (.int v.1), some (.int v.2)] [] s (LAY t) :=
  m_iter (P := fun v : Int32 × Int32 => ∀ (u1 : Option Value), Ex (Runs (D + 3)) cd_X9_count (w, z, LAY t) 67 [some (.ref 56), u1, some (.int v.1), some (.int v.2)] [] s (LAY t)) (Q := fun e : Int32 => (∀ y : Int32, e = y → ∀ (u0 u1 u3 : Option Value), Ex (Runs (D + 3)) cd_X9_count (w, z, LAY t) 91 [u0, u1, some (.int y), u3] [] s (LAY t))) (fun x o hx kc kq u1 => T_X9_count_b67 D t w z  x.1 x.2 s u1 o hx kc (fun e he => kq _ he e rfl)) mFU v e h ke0
set_option maxRecDepth 20000 in
theorem T_X9_count (D : Nat) (t : mTX) (x1 : Int32) (s : mSG) (o : Int32) (h : X9_count x1 s = some o) : Runs (D + 4) 216 [.ref 56, .int x1] s (LAY t) (some (.int o), s, LAY t) := by
  refine Runs_mk (d := D + 3) rfl ?_
  show Ex (Runs (D + 3)) cd_X9_count (some (.int o), s, LAY t) 0 [some (.ref 56), some (.int x1), none, none] [] s (LAY t)
  unfold X9_count at h
  refine Ex_call 5 (fun _ => rfl) (T_X9_in (D + 2) t x1.toInt64 0 7 s _ rfl) rfl rfl ?_
  refine Ex_brZ 1 (X9_in x1.toInt64 0 7) (fun _ => rfl) (fun hc => ?_) (fun hc => ?_)
  · rw [if_neg (m_nt hc)] at h
    obtain rfl := Option.some.inj h
    exact Ex_ret 2 (fun _ => rfl) rfl
  · rw [if_pos hc] at h
    refine Ex_br 3 (x1 = 1) (fun _ => rfl) (fun hc1 => ?_) (fun hc1 => ?_)
    · rw [if_pos hc1] at h
      refine Ex_sti 4 (fun _ => rfl) ?_
      obtain ⟨e24, hl, h⟩ := m_bind h
      refine T_X9_count_l24 D t (some (.int o)) s  s (0, 0) _ hl (fun y0 hy0 => ?_) _
      · obtain ⟨e24, rfl⟩ : ∃ q, q = y0 := ⟨_, rfl⟩
        subst hy0
        intro vu0 vu1 vu3
        refine Ex_gd 3 (fun _ => rfl) (by decide) ?_
        obtain rfl := Option.some.inj h
        exact Ex_ret 1 (fun _ => rfl) rfl
    · rw [if_neg hc1] at h
      refine Ex_br 3 (x1 = 7) (fun _ => rfl) (fun hc2 => ?_) (fun hc2 => ?_)
      · rw [if_pos hc2] at h
        refine Ex_sti 4 (fun _ => rfl) ?_
        obtain ⟨e67, hl, h⟩ := m_bind h
        refine T_X9_count_l67 D t (some (.int o)) s  s (0, 0) _ hl (fun y0 hy0 => ?_) _
        · obtain ⟨e67, rfl⟩ : ∃ q, q = y0 := ⟨_, rfl⟩
          subst hy0
          intro vu0 vu1 vu3
          obtain rfl := Option.some.inj h
          exact Ex_ret 2 (fun _ => rfl) rfl
      · rw [if_neg hc2] at h
        refine Ex_br 3 (4 ≤ x1) (fun _ => rfl) (fun hc3 => ?_) (fun hc3 => ?_)
        · rw [if_pos hc3] at h
          refine Ex_br 3 (x1 = 4) (fun _ => rfl) (fun hc4 => ?_) (fun hc4 => ?_)
          · rw [if_pos hc4] at h
            obtain rfl := Option.some.inj h
            exact Ex_ret 4 (fun _ => rfl) rfl
          · rw [if_neg hc4] at h
            refine Ex_br 3 (x1 = 5) (fun _ => rfl) (fun hc5 => ?_) (fun hc5 => ?_)
            · rw [if_pos hc5] at h
              obtain rfl := Option.some.inj h
              exact Ex_ret 4 (fun _ => rfl) rfl
            · rw [if_neg hc5] at h
              obtain rfl := Option.some.inj h
              exact Ex_ret 3 (fun _ => rfl) rfl
        · rw [if_neg hc3] at h
          refine Ex_br 2 (x1 = 0) (fun _ => rfl) (fun hc6 => ?_) (fun hc6 => ?_)
          · rw [if_pos hc6] at h
            obtain rfl := Option.some.inj h
            exact Ex_ret 4 (fun _ => rfl) rfl
          · rw [if_neg hc6] at h
            refine Ex_br 3 (x1 = 2) (fun _ => rfl) (fun hc7 => ?_) (fun hc7 => ?_)
            · rw [if_pos hc7] at h
              obtain rfl := Option.some.inj h
              exact Ex_ret 4 (fun _ => rfl) rfl
            · rw [if_neg hc7] at h
              obtain ⟨r8, hr, h⟩ := m_bind h
              refine Ex_call 4 (fun _ => rfl) (T_X9_rainAt (D + 2) t (s.1 56 16) s r8 hr) rfl rfl ?_
              obtain rfl := Option.some.inj h
              exact Ex_ret 1 (fun _ => rfl) rfl

set_option maxRecDepth 20000 in
theorem T_X9_sheet_b77 (D : Nat) (t : mTX) (w : Option Value) (z : mSG) (x1 : Int32) (x2 : Int32) (x3 : Int32) (x4 : Int32) (s : mSG) (o : (Int32 × mSG) ⊕ mSG) (h : X9_sheet_b77 x1 x2 x3 x4 s = some o) (kc : ∀ y : Int32 × mSG, o = .inl y → Ex (Runs (D + 2)) cd_X9_sheet (w, z, LAY t) 77 [some (.ref 56), some (.int x1), some (.int x2), some (.int x3), some (.int y.1)] [] y.2 (LAY t)) (ke0 : ∀ y : mSG, o = .inr y → ∀ (u0 u1 u2 u3 u4 : Option Value), Ex (Runs (D + 2)) cd_X9_sheet (w, z, LAY t) 106 [u0, u1, u2, u3, u4] [] y (LAY t)) : Ex (Runs (D + 2)) cd_X9_sheet (w, z, LAY t) 77 [some (.ref 56), some (.int x1), some (.int x2), some (.int x3), some (.int x4)] [] s (LAY t) := by
  unfold X9_sheet_b77 at h
  refine Ex_br 3 (x3 ≤ x4) (fun _ => rfl) (fun hc7 => ?_) (fun hc7 => ?_)
  · rw [if_pos hc7] at h
    obtain rfl := Option.some.inj h
    exact ke0 _ rfl _ _ _ _ _
  · rw [if_neg hc7] at h
    refine Ex_br 2 (x2 < 0) (fun _ => rfl) (fun hc8 => ?_) (fun hc8 => ?_)
    · rw [if_pos hc8] at h
      obtain rfl := Option.some.inj h
      exact ke0 _ rfl _ _ _ _ _
    · rw [if_neg hc8] at h
      obtain ⟨hg9, h⟩ := m_ite h
      refine Ex_gd 9 (fun _ => rfl) hg9 ?_
      refine Ex_sti 2 (fun _ => rfl) ?_
      obtain rfl := Option.some.inj h
      exact kc _ rfl 

theorem T_X9_sheet_l77 (D : Nat) (t : mTX) (w : Option Value) (z : mSG) (x1 : Int32) (x2 : Int32) (x3 : Int32) (v : Int32 × mSG) (e : mSG) (h : X9_sheet_l77 x1 x2 x3 v = some e) (ke0 : ∀ y : mSG, e = y → ∀ (u0 u1 u2 u3 u4 : Option Value), Ex (Runs (D + 2)) cd_X9_sheet (w, z, LAY t) 106 [u0, u1, u2, u3, u4] [] y (LAY t)) : Ex (Runs (D + 2)) cd_X9_sheet (w, z, LAY t) 77 [some (.ref 56), some (.int x1), some (.int x2), some (.int x3), some (.int v.1)] [] v.2 (LAY t) :=
  m_iter (P := fun v : Int32 × mSG => Ex (Runs (D + 2)) cd_X9_sheet (w, z, LAY t) 77 [some (.ref 56), some (.int x1), some (.int x2), some (.int x3), some (.int v.1)] [] v.2 (LAY t)) (Q := fun e : mSG => (∀ y : mSG, e = y → ∀ (u0 u1 u2 u3 u4 : Option Value), Ex (Runs (D + 2)) cd_X9_sheet (w, z, LAY t) 106 [u0, u1, u2, u3, u4] [] y (LAY t))) (fun x o hx kc kq  => T_X9_sheet_b77 D t w z x1 x2 x3 x.1 x.2  o hx kc (fun e he => kq _ he e rfl)) mFU v e h ke0
set_option maxRecDepth 20000 in
theorem T_X9_sheet_j59 (D : Nat) (t : mTX) (x1 : Int32) (x2 : Int32) (x3 : Int32) (p1 : Int32) (p2 : Int32) (s : mSG) (u4 : Option Value) (o : Int32 × mSG) (h : X9_sheet_j59 x1 x2 x3 p1 p2 s = some o)  : Ex (Runs (D + 2)) cd_X9_sheet (some (.int o.1), o.2, LAY t) 59 [some (.ref 56), some (.int x1), some (.int x2), some (.int x3), u4] [.int p2, .int p1, .ref 80] s (LAY t) := by
  unfold X9_sheet_j59 at h
  obtain ⟨hg, h⟩ := m_ite h
  refine Ex_gd2 1 (fun _ => rfl) hg.1 hg.2 ?_
  obtain ⟨hg6, h⟩ := m_ite h
  refine Ex_gd 5 (fun _ => rfl) hg6 ?_
  refine Ex_gd 5 (fun _ => rfl) hg6 ?_
  refine Ex_sti 2 (fun _ => rfl) ?_
  obtain ⟨e77, hl, h⟩ := m_bind h
  refine T_X9_sheet_l77 D t (some (.int o.1)) o.2 x1 x2 x3  (0, sI (sI (sI s 80 p1.toNatClampNeg p2) 81 x1.toNatClampNeg x2) 82 x1.toNatClampNeg x3) _ hl (fun y0 hy0 => ?_) 
  · obtain ⟨e77, rfl⟩ : ∃ q, q = y0 := ⟨_, rfl⟩
    subst hy0
    intro vu0 vu1 vu2 vu3 vu4
    obtain rfl := Option.some.inj h
    exact Ex_ret 2 (fun _ => rfl) rfl

set_option maxRecDepth 20000 in
theorem T_X9_sheet_j45 (D : Nat) (t : mTX) (x1 : Int32) (x2 : Int32) (x3 : Int32) (s : mSG) (u4 : Option Value) (o : Int32 × mSG) (h : X9_sheet_j45 x1 x2 x3 s = some o)  : Ex (Runs (D + 2)) cd_X9_sheet (some (.int o.1), o.2, LAY t) 45 [some (.ref 56), some (.int x1), some (.int x2), some (.int x3), u4] [] s (LAY t) := by
  unfold X9_sheet_j45 at h
  refine Ex_br 5 (x2 < 0) (fun _ => rfl) (fun hc5 => ?_) (fun hc5 => ?_)
  · rw [if_pos hc5] at h
    refine Ex_sti 1 (fun _ => rfl) ?_
    exact T_X9_sheet_j59 D t x1 x2 x3 x1 0 s _ _ h
  · rw [if_neg hc5] at h
    refine Ex_sti 2 (fun _ => rfl) ?_
    exact T_X9_sheet_j59 D t x1 x2 x3 x1 1 s _ _ h

set_option maxRecDepth 20000 in
theorem T_X9_sheet_j34 (D : Nat) (t : mTX) (x1 : Int32) (x2 : Int32) (x3 : Int32) (s : mSG) (u4 : Option Value) (o : Int32 × mSG) (h : X9_sheet_j34 x1 x2 x3 s = some o)  : Ex (Runs (D + 2)) cd_X9_sheet (some (.int o.1), o.2, LAY t) 34 [some (.ref 56), some (.int x1), some (.int x2), some (.int x3), u4] [] s (LAY t) := by
  unfold X9_sheet_j34 at h
  refine Ex_br 2 (x2 < 0) (fun _ => rfl) (fun hc3 => ?_) (fun hc3 => ?_)
  · rw [if_pos hc3] at h
    exact T_X9_sheet_j45 D t x1 x2 x3 s _ _ h
  · rw [if_neg hc3] at h
    refine Ex_br 2 (0 ≤ x3) (fun _ => rfl) (fun hc4 => ?_) (fun hc4 => ?_)
    · rw [if_pos hc4] at h
      exact T_X9_sheet_j45 D t x1 x2 x3 s _ _ h
    · rw [if_neg hc4] at h
      obtain rfl := Option.some.inj h
      exact Ex_ret 2 (fun _ => rfl) rfl

set_option maxRecDepth 20000 in
theorem T_X9_sheet (D : Nat) (t : mTX) (x1 : Int32) (x2 : Int32) (x3 : Int32) (s : mSG) (o : Int32 × mSG) (h : X9_sheet x1 x2 x3 s = some o) : Runs (D + 3) 218 [.ref 56, .int x1, .int x2, .int x3] s (LAY t) (some (.int o.1), o.2, LAY t) := by
  refine Runs_mk (d := D + 2) rfl ?_
  show Ex (Runs (D + 2)) cd_X9_sheet (some (.int o.1), o.2, LAY t) 0 [some (.ref 56), some (.int x1), some (.int x2), some (.int x3), none] [] s (LAY t)
  unfold X9_sheet at h
  refine Ex_call 2 (fun _ => rfl) (T_X9_isSheet D t x1 s _ rfl) rfl rfl ?_
  refine Ex_brZ 1 (X9_isSheet x1) (fun _ => rfl) (fun hc => ?_) (fun hc => ?_)
  · rw [if_neg (m_nt hc)] at h
    obtain rfl := Option.some.inj h
    exact Ex_ret 2 (fun _ => rfl) rfl
  · rw [if_pos hc] at h
    refine Ex_call 5 (fun _ => rfl) (T_X9_in (D + 1) t x2.toInt64 (-1) 2 s _ rfl) rfl rfl ?_
    refine Ex_brZ 1 (X9_in x2.toInt64 (-1) 2) (fun _ => rfl) (fun hc => ?_) (fun hc => ?_)
    · rw [if_neg (m_nt hc)] at h
      obtain rfl := Option.some.inj h
      exact Ex_ret 2 (fun _ => rfl) rfl
    · rw [if_pos hc] at h
      refine Ex_br 2 (x2 < 0) (fun _ => rfl) (fun hc1 => ?_) (fun hc1 => ?_)
      · rw [if_pos hc1] at h
        exact T_X9_sheet_j34 D t x1 x2 x3 s _ _ h
      · rw [if_neg hc1] at h
        refine Ex_br 3 (x3 ≤ 40) (fun _ => rfl) (fun hc2 => ?_) (fun hc2 => ?_)
        · rw [if_pos hc2] at h
          exact T_X9_sheet_j34 D t x1 x2 x3 s _ _ h
        · rw [if_neg hc2] at h
          obtain rfl := Option.some.inj h
          exact Ex_ret 2 (fun _ => rfl) rfl

set_option maxRecDepth 20000 in
theorem T_X9_cell (D : Nat) (t : mTX) (x1 : Int32) (x2 : Int32) (x3 : Int32) (s : mSG) (o : Int32 × mSG) (h : X9_cell x1 x2 x3 s = some o) : Runs (D + 3) 219 [.ref 56, .int x1, .int x2, .int x3] s (LAY t) (some (.int o.1), o.2, LAY t) := by
  refine Runs_mk (d := D + 2) rfl ?_
  show Ex (Runs (D + 2)) cd_X9_cell (some (.int o.1), o.2, LAY t) 0 [some (.ref 56), some (.int x1), some (.int x2), some (.int x3)] [] s (LAY t)
  unfold X9_cell at h
  refine Ex_call 2 (fun _ => rfl) (T_X9_isSheet D t x1 s _ rfl) rfl rfl ?_
  refine Ex_brZ 1 (X9_isSheet x1) (fun _ => rfl) (fun hc => ?_) (fun hc => ?_)
  · rw [if_neg (m_nt hc)] at h
    obtain rfl := Option.some.inj h
    exact Ex_ret 2 (fun _ => rfl) rfl
  · rw [if_pos hc] at h
    obtain ⟨hg1, h⟩ := m_ite h
    refine Ex_gd 4 (fun _ => rfl) hg1 ?_
    refine Ex_br 1 ((s.1 80 x1.toNatClampNeg) = 0) (fun _ => rfl) (fun hc2 => ?_) (fun hc2 => ?_)
    · rw [if_pos hc2] at h
      obtain rfl := Option.some.inj h
      exact Ex_ret 2 (fun _ => rfl) rfl
    · rw [if_neg hc2] at h
      refine Ex_gd 7 (fun _ => rfl) hg1 ?_
      refine Ex_call 4 (fun _ => rfl) (T_X9_in (D + 1) t x2.toInt64 0 (((s.1 82 x1.toNatClampNeg) - 1).toInt64) s _ rfl) rfl rfl ?_
      refine Ex_brZ 1 (X9_in x2.toInt64 0 (((s.1 82 x1.toNatClampNeg) - 1).toInt64)) (fun _ => rfl) (fun hc => ?_) (fun hc => ?_)
      · rw [if_neg (m_nt hc)] at h
        obtain rfl := Option.some.inj h
        exact Ex_ret 2 (fun _ => rfl) rfl
      · rw [if_pos hc] at h
        refine Ex_gd 11 (fun _ => rfl) hg1 ?_
        refine Ex_br 1 ((s.1 81 x1.toNatClampNeg) = 0) (fun _ => rfl) (fun hc3 => ?_) (fun hc3 => ?_)
        · rw [if_pos hc3] at h
          obtain ⟨hg4, h⟩ := m_ite h
          refine Ex_gd 4 (fun _ => rfl) hg4 ?_
          obtain rfl := Option.some.inj h
          exact Ex_ret 2 (fun _ => rfl) rfl
        · rw [if_neg hc3] at h
          refine Ex_gd 4 (fun _ => rfl) hg1 ?_
          refine Ex_br 2 ((s.1 81 x1.toNatClampNeg) = 1) (fun _ => rfl) (fun hc5 => ?_) (fun hc5 => ?_)
          · rw [if_pos hc5] at h
            obtain ⟨hg6, h⟩ := m_ite h
            refine Ex_gd 4 (fun _ => rfl) hg6 ?_
            obtain rfl := Option.some.inj h
            exact Ex_ret 2 (fun _ => rfl) rfl
          · rw [if_neg hc5] at h
            obtain ⟨hg7, h⟩ := m_ite h
            refine Ex_gd 2 (fun _ => rfl) hg7 ?_
            obtain rfl := Option.some.inj h
            exact Ex_ret 2 (fun _ => rfl) rfl

set_option maxRecDepth 20000 in
theorem T_X9_copy_j145_121 (D : Nat) (t : mTX) (w : Option Value) (z : mSG) (x1 : Int32) (x2 : Int32) (x3 : Int32) (x4 : Int32) (x5 : Int32) (x6 : Int32) (x7 : Int32) (p0 : Int32) (s : mSG) (u8 : Option Value) (o : (Int32 × mSG) ⊕ mSG) (h : X9_copy_j145_121 x1 x2 x3 x4 x5 x6 x7 p0 s = some o) (kc : ∀ y : Int32 × mSG, o = .inl y → ∀ (u8 : Option Value), Ex (Runs (D + 2)) cd_X9_copy (w, z, LAY t) 121 [some (.ref 56), some (.int x1), some (.int x2), some (.int x3), some (.int x4), some (.int x5), some (.int x6), some (.int y.1), u8] [] y.2 (LAY t)) (ke0 : ∀ y : mSG, o = .inr y → ∀ (u0 u1 u2 u3 u4 u6 u7 u8 : Option Value), Ex (Runs (D + 2)) cd_X9_copy (w, z, LAY t) 182 [u0, u1, u2, u3, u4, some (.int x5), u6, u7, u8] [] y (LAY t)) : Ex (Runs (D + 2)) cd_X9_copy (w, z, LAY t) 145 [some (.ref 56), some (.int x1), some (.int x2), some (.int x3), some (.int x4), some (.int x5), some (.int x6), some (.int x7), u8] [.int p0] s (LAY t) := by
  unfold X9_copy_j145_121 at h
  obtain ⟨hg15, h⟩ := m_ite h
  refine Ex_gd 20 (fun _ => rfl) hg15 ?_
  obtain ⟨hg16, h⟩ := m_ite h
  refine Ex_gd 1 (fun _ => rfl) hg16 ?_
  refine Ex_sti 2 (fun _ => rfl) ?_
  obtain rfl := Option.some.inj h
  exact kc _ rfl _

set_option maxRecDepth 20000 in
theorem T_X9_copy_b121 (D : Nat) (t : mTX) (w : Option Value) (z : mSG) (x1 : Int32) (x2 : Int32) (x3 : Int32) (x4 : Int32) (x5 : Int32) (x6 : Int32) (x7 : Int32) (s : mSG) (u8 : Option Value) (o : (Int32 × mSG) ⊕ mSG) (h : X9_copy_b121 x1 x2 x3 x4 x5 x6 x7 s = some o) (kc : ∀ y : Int32 × mSG, o = .inl y → ∀ (u8 : Option Value), Ex (Runs (D + 2)) cd_X9_copy (w, z, LAY t) 121 [some (.ref 56), some (.int x1), some (.int x2), some (.int x3), some (.int x4), some (.int x5), some (.int x6), some (.int y.1), u8] [] y.2 (LAY t)) (ke0 : ∀ y : mSG, o = .inr y → ∀ (u0 u1 u2 u3 u4 u6 u7 u8 : Option Value), Ex (Runs (D + 2)) cd_X9_copy (w, z, LAY t) 182 [u0, u1, u2, u3, u4, some (.int x5), u6, u7, u8] [] y (LAY t)) : Ex (Runs (D + 2)) cd_X9_copy (w, z, LAY t) 121 [some (.ref 56), some (.int x1), some (.int x2), some (.int x3), some (.int x4), some (.int x5), some (.int x6), some (.int x7), u8] [] s (LAY t) := by
  unfold X9_copy_b121 at h
  refine Ex_br 3 (x5 ≤ x7) (fun _ => rfl) (fun hc13 => ?_) (fun hc13 => ?_)
  · rw [if_pos hc13] at h
    obtain rfl := Option.some.inj h
    exact ke0 _ rfl _ _ _ _ _ _ _ _
  · rw [if_neg hc13] at h
    refine Ex_br 2 (x6 = 0) (fun _ => rfl) (fun hc14 => ?_) (fun hc14 => ?_)
    · rw [if_pos hc14] at h
      refine Ex_sti 1 (fun _ => rfl) ?_
      exact T_X9_copy_j145_121 D t w z x1 x2 x3 x4 x5 x6 x7 x7 s _ _ h kc ke0
    · rw [if_neg hc14] at h
      refine Ex_sti 6 (fun _ => rfl) ?_
      exact T_X9_copy_j145_121 D t w z x1 x2 x3 x4 x5 x6 x7 ((x5 - 1) - x7) s _ _ h kc ke0

theorem T_X9_copy_l121 (D : Nat) (t : mTX) (w : Option Value) (z : mSG) (x1 : Int32) (x2 : Int32) (x3 : Int32) (x4 : Int32) (x5 : Int32) (x6 : Int32) (v : Int32 × mSG) (e : mSG) (h : X9_copy_l121 x1 x2 x3 x4 x5 x6 v = some e) (ke0 : ∀ y : mSG, e = y → ∀ (u0 u1 u2 u3 u4 u6 u7 u8 : Option Value), Ex (Runs (D + 2)) cd_X9_copy (w, z, LAY t) 182 [u0, u1, u2, u3, u4, some (.int x5), u6, u7, u8] [] y (LAY t)) : ∀ (u8 : Option Value), Ex (Runs (D + 2)) cd_X9_copy (w, z, LAY t) 121 [some (.ref 56), some (.int x1), some (.int x2), some (.int x3), some (.int x4), some (.int x5), some (.int x6), some (.int v.1), u8] [] v.2 (LAY t) :=
  m_iter (P := fun v : Int32 × mSG => ∀ (u8 : Option Value), Ex (Runs (D + 2)) cd_X9_copy (w, z, LAY t) 121 [some (.ref 56), some (.int x1), some (.int x2), some (.int x3), some (.int x4), some (.int x5), some (.int x6), some (.int v.1), u8] [] v.2 (LAY t)) (Q := fun e : mSG => (∀ y : mSG, e = y → ∀ (u0 u1 u2 u3 u4 u6 u7 u8 : Option Value), Ex (Runs (D + 2)) cd_X9_copy (w, z, LAY t) 182 [u0, u1, u2, u3, u4, some (.int x5), u6, u7, u8] [] y (LAY t))) (fun x o hx kc kq u8 => T_X9_copy_b121 D t w z x1 x2 x3 x4 x5 x6 x.1 x.2 u8 o hx kc (fun e he => kq _ he e rfl)) mFU v e h ke0
set_option maxRecDepth 20000 in
theorem T_X9_copy_j116 (D : Nat) (t : mTX) (x1 : Int32) (x2 : Int32) (x3 : Int32) (x4 : Int32) (x5 : Int32) (p0 : Int32) (s : mSG) (u6 u7 u8 : Option Value) (o : Int32 × mSG) (h : X9_copy_j116 x1 x2 x3 x4 x5 p0 s = some o)  : Ex (Runs (D + 2)) cd_X9_copy (some (.int o.1), o.2, LAY t) 116 [some (.ref 56), some (.int x1), some (.int x2), some (.int x3), some (.int x4), some (.int x5), u6, u7, u8] [.int p0] s (LAY t) := by
  unfold X9_copy_j116 at h
  refine Ex_sti 3 (fun _ => rfl) ?_
  obtain ⟨e121, hl, h⟩ := m_bind h
  refine T_X9_copy_l121 D t (some (.int o.1)) o.2 x1 x2 x3 x4 x5 p0  (0, s) _ hl (fun y0 hy0 => ?_) _
  · obtain ⟨e121, rfl⟩ : ∃ q, q = y0 := ⟨_, rfl⟩
    subst hy0
    intro vu0 vu1 vu2 vu3 vu4 vu6 vu7 vu8
    obtain rfl := Option.some.inj h
    exact Ex_ret 2 (fun _ => rfl) rfl

set_option maxRecDepth 20000 in
theorem T_X9_copy_j115 (D : Nat) (t : mTX) (x1 : Int32) (x2 : Int32) (x3 : Int32) (x4 : Int32) (x5 : Int32) (s : mSG) (u6 u7 u8 : Option Value) (o : Int32 × mSG) (h : X9_copy_j115 x1 x2 x3 x4 x5 s = some o)  : Ex (Runs (D + 2)) cd_X9_copy (some (.int o.1), o.2, LAY t) 115 [some (.ref 56), some (.int x1), some (.int x2), some (.int x3), some (.int x4), some (.int x5), u6, u7, u8] [] s (LAY t) := by
  unfold X9_copy_j115 at h
  refine Ex_sti 1 (fun _ => rfl) ?_
  exact T_X9_copy_j116 D t x1 x2 x3 x4 x5 0 s _ _ _ _ h

set_option maxRecDepth 20000 in
theorem T_X9_copy (D : Nat) (t : mTX) (x1 : Int32) (x2 : Int32) (x3 : Int32) (x4 : Int32) (x5 : Int32) (s : mSG) (o : Int32 × mSG) (h : X9_copy x1 x2 x3 x4 x5 s = some o) : Runs (D + 3) 220 [.ref 56, .int x1, .int x2, .int x3, .int x4, .int x5] s (LAY t) (some (.int o.1), o.2, LAY t) := by
  refine Runs_mk (d := D + 2) rfl ?_
  show Ex (Runs (D + 2)) cd_X9_copy (some (.int o.1), o.2, LAY t) 0 [some (.ref 56), some (.int x1), some (.int x2), some (.int x3), some (.int x4), some (.int x5), none, none, none] [] s (LAY t)
  unfold X9_copy at h
  refine Ex_call 2 (fun _ => rfl) (T_X9_isSheet D t x1 s _ rfl) rfl rfl ?_
  refine Ex_brZ 1 (X9_isSheet x1) (fun _ => rfl) (fun hc => ?_) (fun hc => ?_)
  · rw [if_neg (m_nt hc)] at h
    obtain rfl := Option.some.inj h
    exact Ex_ret 2 (fun _ => rfl) rfl
  · rw [if_pos hc] at h
    refine Ex_call 2 (fun _ => rfl) (T_X9_isSheet D t x3 s _ rfl) rfl rfl ?_
    refine Ex_brZ 1 (X9_isSheet x3) (fun _ => rfl) (fun hc => ?_) (fun hc => ?_)
    · rw [if_neg (m_nt hc)] at h
      obtain rfl := Option.some.inj h
      exact Ex_ret 2 (fun _ => rfl) rfl
    · rw [if_pos hc] at h
      obtain ⟨hg1, h⟩ := m_ite h
      refine Ex_gd 4 (fun _ => rfl) hg1 ?_
      refine Ex_br 1 ((s.1 80 x1.toNatClampNeg) = 0) (fun _ => rfl) (fun hc2 => ?_) (fun hc2 => ?_)
      · rw [if_pos hc2] at h
        obtain rfl := Option.some.inj h
        exact Ex_ret 2 (fun _ => rfl) rfl
      · rw [if_neg hc2] at h
        obtain ⟨hg3, h⟩ := m_ite h
        refine Ex_gd 4 (fun _ => rfl) hg3 ?_
        refine Ex_br 1 ((s.1 80 x3.toNatClampNeg) = 0) (fun _ => rfl) (fun hc4 => ?_) (fun hc4 => ?_)
        · rw [if_pos hc4] at h
          obtain rfl := Option.some.inj h
          exact Ex_ret 2 (fun _ => rfl) rfl
        · rw [if_neg hc4] at h
          refine Ex_gd 4 (fun _ => rfl) hg1 ?_
          refine Ex_gd 4 (fun _ => rfl) hg3 ?_
          refine Ex_br 1 ((s.1 81 x1.toNatClampNeg) = (s.1 81 x3.toNatClampNeg)) (fun _ => rfl) (fun hc5 => ?_) (fun hc5 => ?_)
          · rw [if_pos hc5] at h
            refine Ex_br 2 (x5 < 0) (fun _ => rfl) (fun hc6 => ?_) (fun hc6 => ?_)
            · rw [if_pos hc6] at h
              obtain rfl := Option.some.inj h
              exact Ex_ret 2 (fun _ => rfl) rfl
            · rw [if_neg hc6] at h
              refine Ex_br 2 (x2 < 0) (fun _ => rfl) (fun hc7 => ?_) (fun hc7 => ?_)
              · rw [if_pos hc7] at h
                obtain rfl := Option.some.inj h
                exact Ex_ret 2 (fun _ => rfl) rfl
              · rw [if_neg hc7] at h
                refine Ex_br 2 (x4 < 0) (fun _ => rfl) (fun hc8 => ?_) (fun hc8 => ?_)
                · rw [if_pos hc8] at h
                  obtain rfl := Option.some.inj h
                  exact Ex_ret 2 (fun _ => rfl) rfl
                · rw [if_neg hc8] at h
                  refine Ex_gd 5 (fun _ => rfl) hg1 ?_
                  refine Ex_br 3 (((s.1 82 x1.toNatClampNeg) - x5) < x2) (fun _ => rfl) (fun hc9 => ?_) (fun hc9 => ?_)
                  · rw [if_pos hc9] at h
                    obtain rfl := Option.some.inj h
                    exact Ex_ret 2 (fun _ => rfl) rfl
                  · rw [if_neg hc9] at h
                    refine Ex_gd 5 (fun _ => rfl) hg3 ?_
                    refine Ex_br 3 (x4 ≤ ((s.1 82 x3.toNatClampNeg) - x5)) (fun _ => rfl) (fun hc10 => ?_) (fun hc10 => ?_)
                    · rw [if_pos hc10] at h
                      refine Ex_br 3 (x1 = x3) (fun _ => rfl) (fun hc11 => ?_) (fun hc11 => ?_)
                      · rw [if_pos hc11] at h
                        refine Ex_br 3 (x4 ≤ x2) (fun _ => rfl) (fun hc12 => ?_) (fun hc12 => ?_)
                        · rw [if_pos hc12] at h
                          exact T_X9_copy_j115 D t x1 x2 x3 x4 x5 s _ _ _ _ h
                        · rw [if_neg hc12] at h
                          refine Ex_sti 2 (fun _ => rfl) ?_
                          exact T_X9_copy_j116 D t x1 x2 x3 x4 x5 1 s _ _ _ _ h
                      · rw [if_neg hc11] at h
                        exact T_X9_copy_j115 D t x1 x2 x3 x4 x5 s _ _ _ _ h
                    · rw [if_neg hc10] at h
                      obtain rfl := Option.some.inj h
                      exact Ex_ret 2 (fun _ => rfl) rfl
          · rw [if_neg hc5] at h
            obtain rfl := Option.some.inj h
            exact Ex_ret 2 (fun _ => rfl) rfl

set_option maxRecDepth 20000 in
theorem T_X9_muds_j158_75 (D : Nat) (t : mTX) (w : Option Value) (z : mSG) (x1 : Int32) (x3 : Int32) (x4 : Int32) (x6 : Int32) (p0 : Int32) (p1 : Int32) (s : mSG) (u2 u5 u7 : Option Value) (o : (Int32 × Int32 × mSG) ⊕ (mSG ⊕ Int32 × mSG)) (h : X9_muds_j158_75 x1 x3 x4 x6 p0 p1 s = some o) (kc : ∀ y : Int32 × Int32 × mSG, o = .inl y → ∀ (u2 u7 : Option Value), Ex (Runs (D + 3)) cd_X9_muds (w, z, LAY t) 75 [some (.ref 56), some (.int x1), u2, some (.int x3), some (.int x4), some (.int y.1), some (.int y.2.1), u7] [] y.2.2 (LAY t)) (ke0 : ∀ y : mSG, o = .inr (.inl y) → ∀ (u0 u1 u2 u3 u4 u5 u6 u7 : Option Value), Ex (Runs (D + 3)) cd_X9_muds (w, z, LAY t) 103 [u0, u1, u2, u3, u4, u5, u6, u7] [] y (LAY t)) (ke1 : ∀ y : Int32 × mSG, o = .inr (.inr y) → ∀ (u0 u1 u2 u3 u4 u6 u7 : Option Value), Ex (Runs (D + 3)) cd_X9_muds (w, z, LAY t) 167 [u0, u1, u2, u3, u4, some (.int y.1), u6, u7] [] y.2 (LAY t)) : Ex (Runs (D + 3)) cd_X9_muds (w, z, LAY t) 158 [some (.ref 56), some (.int x1), u2, some (.int x3), some (.int x4), u5, some (.int x6), u7] [.int p1, .int p0] s (LAY t) := by
  unfold X9_muds_j158_75 at h
  refine Ex_sti 4 (fun _ => rfl) ?_
  obtain rfl := Option.some.inj h
  exact kc _ rfl _ _

set_option maxRecDepth 20000 in
theorem T_X9_muds_b75 (D : Nat) (t : mTX) (w : Option Value) (z : mSG) (x1 : Int32) (x3 : Int32) (x4 : Int32) (x5 : Int32) (x6 : Int32) (s : mSG) (u2 u7 : Option Value) (o : (Int32 × Int32 × mSG) ⊕ (mSG ⊕ Int32 × mSG)) (h : X9_muds_b75 x1 x3 x4 x5 x6 s = some o) (kc : ∀ y : Int32 × Int32 × mSG, o = .inl y → ∀ (u2 u7 : Option Value), Ex (Runs (D + 3)) cd_X9_muds (w, z, LAY t) 75 [some (.ref 56), some (.int x1), u2, some (.int x3), some (.int x4), some (.int y.1), some (.int y.2.1), u7] [] y.2.2 (LAY t)) (ke0 : ∀ y : mSG, o = .inr (.inl y) → ∀ (u0 u1 u2 u3 u4 u5 u6 u7 : Option Value), Ex (Runs (D + 3)) cd_X9_muds (w, z, LAY t) 103 [u0, u1, u2, u3, u4, u5, u6, u7] [] y (LAY t)) (ke1 : ∀ y : Int32 × mSG, o = .inr (.inr y) → ∀ (u0 u1 u2 u3 u4 u6 u7 : Option Value), Ex (Runs (D + 3)) cd_X9_muds (w, z, LAY t) 167 [u0, u1, u2, u3, u4, some (.int y.1), u6, u7] [] y.2 (LAY t)) : Ex (Runs (D + 3)) cd_X9_muds (w, z, LAY t) 75 [some (.ref 56), some (.int x1), u2, some (.int x3), some (.int x4), some (.int x5), some (.int x6), u7] [] s (LAY t) := by
  unfold X9_muds_b75 at h
  refine Ex_br 3 (x4 ≤ x6) (fun _ => rfl) (fun hc6 => ?_) (fun hc6 => ?_)
  · rw [if_pos hc6] at h
    obtain rfl := Option.some.inj h
    exact ke1 _ rfl _ _ _ _ _ _ _
  · rw [if_neg hc6] at h
    refine Ex_br 2 (x3 < 0) (fun _ => rfl) (fun hc7 => ?_) (fun hc7 => ?_)
    · rw [if_pos hc7] at h
      obtain rfl := Option.some.inj h
      exact ke0 _ rfl _ _ _ _ _ _ _ _
    · rw [if_neg hc7] at h
      obtain ⟨hg8, h⟩ := m_ite h
      refine Ex_gd 5 (fun _ => rfl) hg8 ?_
      refine Ex_br 7 (x3 ≤ (((s.1 82 x1.toNatClampNeg) - (3 * x6)) - 3)) (fun _ => rfl) (fun hc9 => ?_) (fun hc9 => ?_)
      · rw [if_pos hc9] at h
        obtain ⟨hg10, h⟩ := m_ite h
        refine Ex_gd 16 (fun _ => rfl) hg10 ?_
        obtain ⟨hg11, h⟩ := m_ite h
        refine Ex_gd 6 (fun _ => rfl) hg11 ?_
        obtain ⟨hg12, h⟩ := m_ite h
        refine Ex_gd 6 (fun _ => rfl) hg12 ?_
        obtain ⟨r13, hr, h⟩ := m_bind h
        refine Ex_call 1 (fun _ => rfl) (T_X9_mud D t (s.1 83 (((40 * x1) + x3) + (3 * x6)).toNatClampNeg) (s.1 83 ((((40 * x1) + x3) + (3 * x6)) + 1).toNatClampNeg) (s.1 83 ((((40 * x1) + x3) + (3 * x6)) + 2).toNatClampNeg) s r13 hr) rfl rfl ?_
        refine Ex_br 1 (r13.1 < 0) (fun _ => rfl) (fun hc14 => ?_) (fun hc14 => ?_)
        · rw [if_pos hc14] at h
          refine Ex_sti 1 (fun _ => rfl) ?_
          exact T_X9_muds_j158_75 D t w z x1 x3 x4 x6 x5 0 r13.2 _ _ _ _ h kc ke0 ke1
        · rw [if_neg hc14] at h
          refine Ex_sti 2 (fun _ => rfl) ?_
          exact T_X9_muds_j158_75 D t w z x1 x3 x4 x6 x5 1 r13.2 _ _ _ _ h kc ke0 ke1
      · rw [if_neg hc9] at h
        obtain rfl := Option.some.inj h
        exact ke0 _ rfl _ _ _ _ _ _ _ _

theorem T_X9_muds_l75 (D : Nat) (t : mTX) (w : Option Value) (z : mSG) (x1 : Int32) (x3 : Int32) (x4 : Int32) (v : Int32 × Int32 × mSG) (e : (mSG ⊕ Int32 × mSG)) (h : X9_muds_l75 x1 x3 x4 v = some e) (ke0 : ∀ y : mSG, e = (.inl y) → ∀ (u0 u1 u2 u3 u4 u5 u6 u7 : Option Value), Ex (Runs (D + 3)) cd_X9_muds (w, z, LAY t) 103 [u0, u1, u2, u3, u4, u5, u6, u7] [] y (LAY t)) (ke1 : ∀ y : Int32 × mSG, e = (.inr y) → ∀ (u0 u1 u2 u3 u4 u6 u7 : Option Value), Ex (Runs (D + 3)) cd_X9_muds (w, z, LAY t) 167 [u0, u1, u2, u3, u4, some (.int y.1), u6, u7] [] y.2 (LAY t)) : ∀ (u2 u7 : Option Value), Ex (Runs (D + 3)) cd_X9_muds (w, z, LAY t) 75 [some (.ref 56), some (.int x1), u2, some (.int x3), some (.int x4), some (.int v.1), some (.int v.2.1), u7] [] v.2.2 (LAY t) :=
  m_iter (P := fun v : Int32 × Int32 × mSG => ∀ (u2 u7 : Option Value), Ex (Runs (D + 3)) cd_X9_muds (w, z, LAY t) 75 [some (.ref 56), some (.int x1), u2, some (.int x3), some (.int x4), some (.int v.1), some (.int v.2.1), u7] [] v.2.2 (LAY t)) (Q := fun e : (mSG ⊕ Int32 × mSG) => (∀ y : mSG, e = (.inl y) → ∀ (u0 u1 u2 u3 u4 u5 u6 u7 : Option Value), Ex (Runs (D + 3)) cd_X9_muds (w, z, LAY t) 103 [u0, u1, u2, u3, u4, u5, u6, u7] [] y (LAY t)) ∧ (∀ y : Int32 × mSG, e = (.inr y) → ∀ (u0 u1 u2 u3 u4 u6 u7 : Option Value), Ex (Runs (D + 3)) cd_X9_muds (w, z, LAY t) 167 [u0, u1, u2, u3, u4, some (.int y.1), u6, u7] [] y.2 (LAY t))) (fun x o hx kc kq u2 u7 => T_X9_muds_b75 D t w z x1 x3 x4 x.1 x.2.1 x.2.2 u2 u7 o hx kc (fun e he => (kq _ (by rw [he])).1 e rfl) (fun e he => (kq _ (by rw [he])).2 e rfl)) mFU v e h ⟨ke0, ke1⟩
set_option maxRecDepth 20000 in
theorem T_X9_muds_j57 (D : Nat) (t : mTX) (x1 : Int32) (x3 : Int32) (x4 : Int32) (s : mSG) (u2 u5 u6 u7 : Option Value) (o : Int32 × mSG) (h : X9_muds_j57 x1 x3 x4 s = some o)  : Ex (Runs (D + 3)) cd_X9_muds (some (.int o.1), o.2, LAY t) 57 [some (.ref 56), some (.int x1), u2, some (.int x3), some (.int x4), u5, u6, u7] [] s (LAY t) := by
  unfold X9_muds_j57 at h
  obtain ⟨hg4, h⟩ := m_ite h
  refine Ex_gd 4 (fun _ => rfl) hg4 ?_
  refine Ex_br 1 ((s.1 80 x1.toNatClampNeg) = 0) (fun _ => rfl) (fun hc5 => ?_) (fun hc5 => ?_)
  · rw [if_pos hc5] at h
    obtain rfl := Option.some.inj h
    exact Ex_ret 2 (fun _ => rfl) rfl
  · rw [if_neg hc5] at h
    refine Ex_sti 4 (fun _ => rfl) ?_
    obtain ⟨e75, hl, h⟩ := m_bind h
    refine T_X9_muds_l75 D t (some (.int o.1)) o.2 x1 x3 x4  (0, 0, s) _ hl (fun y0 hy0 => ?_) (fun y1 hy1 => ?_) _ _
    · obtain ⟨e75_0, rfl⟩ : ∃ q, q = y0 := ⟨_, rfl⟩
      subst hy0
      simp only [Sum.elim_inl, Sum.elim_inr] at h
      intro vu0 vu1 vu2 vu3 vu4 vu5 vu6 vu7
      obtain rfl := Option.some.inj h
      exact Ex_ret 2 (fun _ => rfl) rfl
    · obtain ⟨e75_1, rfl⟩ : ∃ q, q = y1 := ⟨_, rfl⟩
      subst hy1
      simp only [Sum.elim_inl, Sum.elim_inr] at h
      intro vu0 vu1 vu2 vu3 vu4 vu6 vu7
      obtain rfl := Option.some.inj h
      exact Ex_ret 2 (fun _ => rfl) rfl

set_option maxRecDepth 20000 in
theorem T_X9_muds (D : Nat) (t : mTX) (x1 : Int32) (x2 : Int32) (x3 : Int32) (x4 : Int32) (s : mSG) (o : Int32 × mSG) (h : X9_muds x1 x2 x3 x4 s = some o) : Runs (D + 4) 221 [.ref 56, .int x1, .int x2, .int x3, .int x4] s (LAY t) (some (.int o.1), o.2, LAY t) := by
  refine Runs_mk (d := D + 3) rfl ?_
  show Ex (Runs (D + 3)) cd_X9_muds (some (.int o.1), o.2, LAY t) 0 [some (.ref 56), some (.int x1), some (.int x2), some (.int x3), some (.int x4), none, none, none] [] s (LAY t)
  unfold X9_muds at h
  refine Ex_call 2 (fun _ => rfl) (T_X9_isSheet (D + 1) t x1 s _ rfl) rfl rfl ?_
  refine Ex_brZ 1 (X9_isSheet x1) (fun _ => rfl) (fun hc => ?_) (fun hc => ?_)
  · rw [if_neg (m_nt hc)] at h
    obtain rfl := Option.some.inj h
    exact Ex_ret 2 (fun _ => rfl) rfl
  · rw [if_pos hc] at h
    refine Ex_call 5 (fun _ => rfl) (T_X9_in (D + 2) t x2.toInt64 0 2 s _ rfl) rfl rfl ?_
    refine Ex_brZ 1 (X9_in x2.toInt64 0 2) (fun _ => rfl) (fun hc => ?_) (fun hc => ?_)
    · rw [if_neg (m_nt hc)] at h
      obtain rfl := Option.some.inj h
      exact Ex_ret 2 (fun _ => rfl) rfl
    · rw [if_pos hc] at h
      refine Ex_call 5 (fun _ => rfl) (T_X9_in (D + 2) t x4.toInt64 0 13 s _ rfl) rfl rfl ?_
      refine Ex_brZ 1 (X9_in x4.toInt64 0 13) (fun _ => rfl) (fun hc => ?_) (fun hc => ?_)
      · rw [if_neg (m_nt hc)] at h
        obtain rfl := Option.some.inj h
        exact Ex_ret 2 (fun _ => rfl) rfl
      · rw [if_pos hc] at h
        obtain ⟨hg1, h⟩ := m_ite h
        refine Ex_gd 4 (fun _ => rfl) hg1 ?_
        refine Ex_br 1 ((s.1 80 x1.toNatClampNeg) = 0) (fun _ => rfl) (fun hc2 => ?_) (fun hc2 => ?_)
        · rw [if_pos hc2] at h
          exact T_X9_muds_j57 D t x1 x3 x4 s _ _ _ _ _ h
        · rw [if_neg hc2] at h
          refine Ex_gd 4 (fun _ => rfl) hg1 ?_
          refine Ex_br 2 ((s.1 81 x1.toNatClampNeg) = x2) (fun _ => rfl) (fun hc3 => ?_) (fun hc3 => ?_)
          · rw [if_pos hc3] at h
            exact T_X9_muds_j57 D t x1 x3 x4 s _ _ _ _ _ h
          · rw [if_neg hc3] at h
            obtain rfl := Option.some.inj h
            exact Ex_ret 2 (fun _ => rfl) rfl

