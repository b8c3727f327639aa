set_option maxRecDepth 20000 in
theorem T_X9_soaks_j58 (D : Nat) (t : mTX) (x5 : Int32) (s : mSG) (u0 u1 u2 u3 u4 : Option Value) (o : Int32) (h : X9_soaks_j58 x5 s = o)  : Ex (Runs (D + 1)) cd_X9_soaks (some (.int o), s, LAY t) 58 [u0, u1, u2, u3, u4, some (.int x5)] [] s (LAY t) := by
  unfold X9_soaks_j58 at h
  refine Ex_call 4 (fun _ => rfl) (T_X9_within D t x5 0 9 s _ rfl) rfl rfl ?_
  subst h
  exact Ex_ret 1 (fun _ => rfl) rfl

set_option maxRecDepth 20000 in
theorem T_X9_soaks_j46 (D : Nat) (t : mTX) (x4 : Int32) (x5 : Int32) (s : mSG) (u0 u1 u2 u3 : Option Value) (o : Int32) (h : X9_soaks_j46 x4 x5 s = o)  : Ex (Runs (D + 1)) cd_X9_soaks (some (.int o), s, LAY t) 46 [u0, u1, u2, u3, some (.int x4), some (.int x5)] [] s (LAY t) := by
  unfold X9_soaks_j46 at h
  refine Ex_br 3 (x4 = 5) (fun _ => rfl) (fun hc5 => ?_) (fun hc5 => ?_)
  · rw [if_pos hc5] at h
    refine Ex_sti 4 (fun _ => rfl) ?_
    exact T_X9_soaks_j58 D t (2 * x5) s _ _ _ _ _ _ h
  · rw [if_neg hc5] at h
    exact T_X9_soaks_j58 D t x5 s _ _ _ _ _ _ h

set_option maxRecDepth 20000 in
theorem T_X9_soaks_j37 (D : Nat) (t : mTX) (x2 : Int32) (x4 : Int32) (x5 : Int32) (s : mSG) (u0 u1 u3 : Option Value) (o : Int32) (h : X9_soaks_j37 x2 x4 x5 s = o)  : Ex (Runs (D + 1)) cd_X9_soaks (some (.int o), s, LAY t) 37 [u0, u1, some (.int x2), u3, some (.int x4), some (.int x5)] [] s (LAY t) := by
  unfold X9_soaks_j37 at h
  refine Ex_br 3 (x4 = 4) (fun _ => rfl) (fun hc4 => ?_) (fun hc4 => ?_)
  · rw [if_pos hc4] at h
    refine Ex_sti 2 (fun _ => rfl) ?_
    exact T_X9_soaks_j46 D t x4 x2 s _ _ _ _ _ h
  · rw [if_neg hc4] at h
    exact T_X9_soaks_j46 D t x4 x5 s _ _ _ _ _ h

set_option maxRecDepth 20000 in
theorem T_X9_soaks_j25 (D : Nat) (t : mTX) (x2 : Int32) (x4 : Int32) (x5 : Int32) (s : mSG) (u0 u1 u3 : Option Value) (o : Int32) (h : X9_soaks_j25 x2 x4 x5 s = o)  : Ex (Runs (D + 1)) cd_X9_soaks (some (.int o), s, LAY t) 25 [u0, u1, some (.int x2), u3, some (.int x4), some (.int x5)] [] s (LAY t) := by
  unfold X9_soaks_j25 at h
  refine Ex_br 3 (x4 = 3) (fun _ => rfl) (fun hc3 => ?_) (fun hc3 => ?_)
  · rw [if_pos hc3] at h
    refine Ex_sti 4 (fun _ => rfl) ?_
    exact T_X9_soaks_j37 D t x2 x4 (x5 + 1) s _ _ _ _ h
  · rw [if_neg hc3] at h
    exact T_X9_soaks_j37 D t x2 x4 x5 s _ _ _ _ h

set_option maxRecDepth 20000 in
theorem T_X9_soaks (D : Nat) (t : mTX) (x1 : Int32) (x2 : Int32) (x3 : Int32) (s : mSG) (o : Int32) (h : X9_soaks x1 x2 x3 s = some o) : Runs (D + 2) 138 [.ref 56, .int x1, .int x2, .int x3] s (LAY t) (some (.int o), s, LAY t) := by
  refine Runs_mk (d := D + 1) rfl ?_
  show Ex (Runs (D + 1)) cd_X9_soaks (some (.int o), s, LAY t) 0 [some (.ref 56), some (.int x1), some (.int x2), some (.int x3), none, none] [] s (LAY t)
  unfold X9_soaks at h
  obtain ⟨hg1, h⟩ := m_ite h
  refine Ex_gd 4 (fun _ => rfl) hg1 ?_
  refine Ex_br 8 ((s.1 61 x1.toNatClampNeg) = 2) (fun _ => rfl) (fun hc2 => ?_) (fun hc2 => ?_)
  · rw [if_pos hc2] at h
    refine Ex_gd 3 (fun _ => rfl) (by decide) ?_
    refine Ex_sti 1 (fun _ => rfl) ?_
    have h := Option.some.inj h
    exact T_X9_soaks_j25 D t x2 (s.1 61 x1.toNatClampNeg) ((x2 + x3) / 2) s _ _ _ _ h
  · rw [if_neg hc2] at h
    have h := Option.some.inj h
    exact T_X9_soaks_j25 D t x2 (s.1 61 x1.toNatClampNeg) (x2 + x3) s _ _ _ _ h

set_option maxRecDepth 20000 in
theorem T_X9_told_j168_127 (D : Nat) (t : mTX) (w : Option Value) (z : mSG) (x1 : Int32) (x2 : Int32) (x4 : Int32) (p0 : Int32) (p1 : Int32) (s : mSG) (u3 : Option Value) (o : (Int32 × Int32) ⊕ Int32) (h : X9_told_j168_127 x1 x2 x4 p0 p1 s = some o) (kc : ∀ y : Int32 × Int32, o = .inl y → Ex (Runs (D + 2)) cd_X9_told (w, z, LAY t) 127 [some (.ref 56), some (.int x1), some (.int x2), some (.int y.1), some (.int y.2)] [] s (LAY t)) (ke0 : ∀ y : Int32, o = .inr y → ∀ (u0 u1 u2 u4 : Option Value), Ex (Runs (D + 2)) cd_X9_told (w, z, LAY t) 176 [u0, u1, u2, some (.int y), u4] [] s (LAY t)) : Ex (Runs (D + 2)) cd_X9_told (w, z, LAY t) 168 [some (.ref 56), some (.int x1), some (.int x2), u3, some (.int x4)] [.int p1, .int p0] s (LAY t) := by
  unfold X9_told_j168_127 at h
  refine Ex_sti 4 (fun _ => rfl) ?_
  obtain rfl := Option.some.inj h
  exact kc _ rfl 

set_option maxRecDepth 20000 in
theorem T_X9_told_b127 (D : Nat) (t : mTX) (w : Option Value) (z : mSG) (x1 : Int32) (x2 : Int32) (x3 : Int32) (x4 : Int32) (s : mSG) (o : (Int32 × Int32) ⊕ Int32) (h : X9_told_b127 x1 x2 x3 x4 s = some o) (kc : ∀ y : Int32 × Int32, o = .inl y → Ex (Runs (D + 2)) cd_X9_told (w, z, LAY t) 127 [some (.ref 56), some (.int x1), some (.int x2), some (.int y.1), some (.int y.2)] [] s (LAY t)) (ke0 : ∀ y : Int32, o = .inr y → ∀ (u0 u1 u2 u4 : Option Value), Ex (Runs (D + 2)) cd_X9_told (w, z, LAY t) 176 [u0, u1, u2, some (.int y), u4] [] s (LAY t)) : Ex (Runs (D + 2)) cd_X9_told (w, z, LAY t) 127 [some (.ref 56), some (.int x1), some (.int x2), some (.int x3), some (.int x4)] [] s (LAY t) := by
  unfold X9_told_b127 at h
  refine Ex_br 4 ((s.1 56 15) ≤ x4) (fun _ => rfl) (fun hc16 => ?_) (fun hc16 => ?_)
  · rw [if_pos hc16] at h
    obtain rfl := Option.some.inj h
    exact ke0 _ rfl _ _ _ _
  · rw [if_neg hc16] at h
    refine Ex_br 4 (x2 = 7) (fun _ => rfl) (fun hc17 => ?_) (fun hc17 => ?_)
    · rw [if_pos hc17] at h
      obtain ⟨hg18, h⟩ := m_ite h
      refine Ex_gd 8 (fun _ => rfl) hg18 ?_
      refine Ex_sti 1 (fun _ => rfl) ?_
      exact T_X9_told_j168_127 D t w z x1 x2 x4 x3 (s.1 67 ((5 * x1) + x4).toNatClampNeg) s _ _ h kc ke0
    · rw [if_neg hc17] at h
      obtain ⟨hg19, h⟩ := m_ite h
      refine Ex_gd 8 (fun _ => rfl) hg19 ?_
      exact T_X9_told_j168_127 D t w z x1 x2 x4 x3 (s.1 67 ((5 * x4) + x1).toNatClampNeg) s _ _ h kc ke0

theorem T_X9_told_l127 (D : Nat) (t : mTX) (w : Option Value) (z : mSG) (x1 : Int32) (x2 : Int32) (s : mSG) (v : Int32 × Int32) (e : Int32) (h : X9_told_l127 x1 x2 s v = some e) (ke0 : ∀ y : Int32, e = y → ∀ (u0 u1 u2 u4 : Option Value), Ex (Runs (D + 2)) cd_X9_told (w, z, LAY t) 176 [u0, u1, u2, some (.int y), u4] [] s (LAY t)) : Ex (Runs (D + 2)) cd_X9_told (w, z, LAY t) 127 [some (.ref 56), some (.int x1), some (.int x2), some (.int v.1), some (.int v.2)] [] s (LAY t) :=
  m_iter (P := fun v : Int32 × Int32 => Ex (Runs (D + 2)) cd_X9_told (w, z, LAY t) 127 [some (.ref 56), some (.int x1), some (.int x2), some (.int v.1), some (.int v.2)] [] s (LAY t)) (Q := fun e : Int32 => (∀ y : Int32, e = y → ∀ (u0 u1 u2 u4 : Option Value), Ex (Runs (D + 2)) cd_X9_told (w, z, LAY t) 176 [u0, u1, u2, some (.int y), u4] [] s (LAY t))) (fun x o hx kc kq  => T_X9_told_b127 D t w z x1 x2 x.1 x.2 s  o hx kc (fun e he => kq _ he e rfl)) mFU v e h ke0
set_option maxRecDepth 20000 in
theorem T_X9_told (D : Nat) (t : mTX) (x1 : Int32) (x2 : Int32) (s : mSG) (o : Int32) (h : X9_told x1 x2 s = some o) : Runs (D + 3) 139 [.ref 56, .int x1, .int x2] s (LAY t) (some (.int o), s, LAY t) := by
  refine Runs_mk (d := D + 2) rfl ?_
  show Ex (Runs (D + 2)) cd_X9_told (some (.int o), s, LAY t) 0 [some (.ref 56), some (.int x1), some (.int x2), none, none] [] s (LAY t)
  unfold X9_told at h
  refine Ex_call 3 (fun _ => rfl) (T_X9_isOne D t x1 s _ rfl) rfl rfl ?_
  refine Ex_brZ 1 (X9_isOne x1 s) (fun _ => rfl) (fun hc => ?_) (fun hc => ?_)
  · rw [if_neg (m_nt hc)] at h
    obtain rfl := Option.some.inj h
    exact Ex_ret 2 (fun _ => rfl) rfl
  · rw [if_pos hc] at h
    refine Ex_call 5 (fun _ => rfl) (T_X9_in (D + 1) t x2.toInt64 0 8 s _ rfl) rfl rfl ?_
    refine Ex_brZ 1 (X9_in x2.toInt64 0 8) (fun _ => rfl) (fun hc => ?_) (fun hc => ?_)
    · rw [if_neg (m_nt hc)] at h
      obtain rfl := Option.some.inj h
      exact Ex_ret 2 (fun _ => rfl) rfl
    · rw [if_pos hc] at h
      refine Ex_br 3 (5 ≤ x2) (fun _ => rfl) (fun hc1 => ?_) (fun hc1 => ?_)
      · rw [if_pos hc1] at h
        refine Ex_br 3 (7 ≤ x2) (fun _ => rfl) (fun hc2 => ?_) (fun hc2 => ?_)
        · rw [if_pos hc2] at h
          refine Ex_sti 4 (fun _ => rfl) ?_
          obtain ⟨e127, hl, h⟩ := m_bind h
          refine T_X9_told_l127 D t (some (.int o)) s x1 x2 s (0, 0) _ hl (fun y0 hy0 => ?_) 
          · obtain ⟨e127, rfl⟩ : ∃ q, q = y0 := ⟨_, rfl⟩
            subst hy0
            intro vu0 vu1 vu2 vu4
            obtain rfl := Option.some.inj h
            exact Ex_ret 2 (fun _ => rfl) rfl
        · rw [if_neg hc2] at h
          refine Ex_br 3 (x2 = 5) (fun _ => rfl) (fun hc3 => ?_) (fun hc3 => ?_)
          · rw [if_pos hc3] at h
            obtain ⟨hg4, h⟩ := m_ite h
            refine Ex_gd 4 (fun _ => rfl) hg4 ?_
            obtain rfl := Option.some.inj h
            exact Ex_ret 2 (fun _ => rfl) rfl
          · rw [if_neg hc3] at h
            obtain ⟨hg5, h⟩ := m_ite h
            refine Ex_gd 6 (fun _ => rfl) hg5 ?_
            obtain ⟨r6, hr, h⟩ := m_bind h
            refine Ex_call 1 (fun _ => rfl) (T_X9_reaches (D + 1) t x1 (s.1 66 x1.toNatClampNeg) s r6 hr) rfl rfl ?_
            obtain rfl := Option.some.inj h
            exact Ex_ret 1 (fun _ => rfl) rfl
      · rw [if_neg hc1] at h
        refine Ex_br 2 (x2 = 0) (fun _ => rfl) (fun hc7 => ?_) (fun hc7 => ?_)
        · rw [if_pos hc7] at h
          obtain ⟨hg8, h⟩ := m_ite h
          refine Ex_gd 4 (fun _ => rfl) hg8 ?_
          obtain rfl := Option.some.inj h
          exact Ex_ret 2 (fun _ => rfl) rfl
        · rw [if_neg hc7] at h
          refine Ex_br 3 (x2 = 1) (fun _ => rfl) (fun hc9 => ?_) (fun hc9 => ?_)
          · rw [if_pos hc9] at h
            obtain ⟨hg10, h⟩ := m_ite h
            refine Ex_gd 4 (fun _ => rfl) hg10 ?_
            obtain rfl := Option.some.inj h
            exact Ex_ret 2 (fun _ => rfl) rfl
          · rw [if_neg hc9] at h
            refine Ex_br 3 (x2 = 2) (fun _ => rfl) (fun hc11 => ?_) (fun hc11 => ?_)
            · rw [if_pos hc11] at h
              obtain ⟨hg12, h⟩ := m_ite h
              refine Ex_gd 4 (fun _ => rfl) hg12 ?_
              obtain rfl := Option.some.inj h
              exact Ex_ret 2 (fun _ => rfl) rfl
            · rw [if_neg hc11] at h
              refine Ex_br 3 (x2 = 3) (fun _ => rfl) (fun hc13 => ?_) (fun hc13 => ?_)
              · rw [if_pos hc13] at h
                obtain ⟨hg14, h⟩ := m_ite h
                refine Ex_gd 4 (fun _ => rfl) hg14 ?_
                obtain rfl := Option.some.inj h
                exact Ex_ret 2 (fun _ => rfl) rfl
              · rw [if_neg hc13] at h
                obtain ⟨hg15, h⟩ := m_ite h
                refine Ex_gd 4 (fun _ => rfl) hg15 ?_
                obtain rfl := Option.some.inj h
                exact Ex_ret 1 (fun _ => rfl) rfl

set_option maxRecDepth 20000 in
theorem T_X9_feed (D : Nat) (t : mTX) (x1 : Int32) (s : mSG) (o : Int32 × mSG) (h : X9_feed x1 s = some o) : Runs (D + 2) 140 [.ref 56, .int x1] s (LAY t) (some (.int o.1), o.2, LAY t) := by
  refine Runs_mk (d := D + 1) rfl ?_
  show Ex (Runs (D + 1)) cd_X9_feed (some (.int o.1), o.2, LAY t) 0 [some (.ref 56), some (.int x1)] [] s (LAY t)
  unfold X9_feed at h
  refine Ex_call 5 (fun _ => rfl) (T_X9_in D t x1.toInt64 0 255 s _ rfl) rfl rfl ?_
  refine Ex_brZ 1 (X9_in x1.toInt64 0 255) (fun _ => rfl) (fun hc => ?_) (fun hc => ?_)
  · rw [if_neg (m_nt hc)] at h
    obtain rfl := Option.some.inj h
    exact Ex_ret 2 (fun _ => rfl) rfl
  · rw [if_pos hc] at h
    refine Ex_br 4 ((s.1 56 6) = 160) (fun _ => rfl) (fun hc1 => ?_) (fun hc1 => ?_)
    · rw [if_pos hc1] at h
      obtain rfl := Option.some.inj h
      exact Ex_ret 2 (fun _ => rfl) rfl
    · rw [if_neg hc1] at h
      obtain ⟨hg2, h⟩ := m_ite h
      refine Ex_gd 6 (fun _ => rfl) hg2 ?_
      obtain rfl := Option.some.inj h
      exact Ex_ret 9 (fun _ => rfl) rfl

set_option maxRecDepth 20000 in
theorem T_X9_byteAt (D : Nat) (t : mTX) (x1 : Int32) (s : mSG) (o : Int32) (h : X9_byteAt x1 s = some o) : Runs (D + 1) 141 [.ref 56, .int x1] s (LAY t) (some (.int o), s, LAY t) := by
  refine Runs_mk (d := D) rfl ?_
  show Ex (Runs (D)) cd_X9_byteAt (some (.int o), s, LAY t) 0 [some (.ref 56), some (.int x1)] [] s (LAY t)
  unfold X9_byteAt at h
  refine Ex_br 4 ((s.1 56 25) ≤ x1) (fun _ => rfl) (fun hc1 => ?_) (fun hc1 => ?_)
  · rw [if_pos hc1] at h
    obtain rfl := Option.some.inj h
    exact Ex_ret 2 (fun _ => rfl) rfl
  · rw [if_neg hc1] at h
    obtain ⟨hg2, h⟩ := m_ite h
    refine Ex_gd 7 (fun _ => rfl) hg2 ?_
    obtain rfl := Option.some.inj h
    exact Ex_ret 2 (fun _ => rfl) rfl

set_option maxRecDepth 20000 in
theorem T_X9_next_j26_0 (D : Nat) (t : mTX) (w : Option Value) (z : mSG) (s : mSG) (u1 u2 : Option Value) (o : mSG ⊕ mSG) (h : X9_next_j26_0 s = some o) (kc : ∀ y : mSG, o = .inl y → ∀ (u1 u2 : Option Value), Ex (Runs (D + 1)) cd_X9_next (w, z, LAY t) 0 [some (.ref 56), u1, u2] [] y (LAY t)) (ke0 : ∀ y : mSG, o = .inr y → ∀ (u1 u2 : Option Value), Ex (Runs (D + 1)) cd_X9_next (w, z, LAY t) 39 [some (.ref 56), u1, u2] [] y (LAY t)) : Ex (Runs (D + 1)) cd_X9_next (w, z, LAY t) 26 [some (.ref 56), u1, u2] [] s (LAY t) := by
  unfold X9_next_j26_0 at h
  refine Ex_sti 7 (fun _ => rfl) ?_
  obtain rfl := Option.some.inj h
  exact kc _ rfl _ _

set_option maxRecDepth 20000 in
theorem T_X9_next_b0 (D : Nat) (t : mTX) (w : Option Value) (z : mSG) (s : mSG) (u1 u2 : Option Value) (o : mSG ⊕ mSG) (h : X9_next_b0 s = some o) (kc : ∀ y : mSG, o = .inl y → ∀ (u1 u2 : Option Value), Ex (Runs (D + 1)) cd_X9_next (w, z, LAY t) 0 [some (.ref 56), u1, u2] [] y (LAY t)) (ke0 : ∀ y : mSG, o = .inr y → ∀ (u1 u2 : Option Value), Ex (Runs (D + 1)) cd_X9_next (w, z, LAY t) 39 [some (.ref 56), u1, u2] [] y (LAY t)) : Ex (Runs (D + 1)) cd_X9_next (w, z, LAY t) 0 [some (.ref 56), u1, u2] [] s (LAY t) := by
  unfold X9_next_b0 at h
  obtain ⟨r1, hr, h⟩ := m_bind h
  refine Ex_call 4 (fun _ => rfl) (T_X9_byteAt D t (s.1 56 26) s r1 hr) rfl rfl ?_
  refine Ex_br 2 (r1 = 32) (fun _ => rfl) (fun hc2 => ?_) (fun hc2 => ?_)
  · rw [if_pos hc2] at h
    exact T_X9_next_j26_0 D t w z  s _ _ _ h kc ke0
  · rw [if_neg hc2] at h
    obtain ⟨r3, hr, h⟩ := m_bind h
    refine Ex_call 4 (fun _ => rfl) (T_X9_byteAt D t (s.1 56 26) s r3 hr) rfl rfl ?_
    refine Ex_br 2 (r3 = 10) (fun _ => rfl) (fun hc4 => ?_) (fun hc4 => ?_)
    · rw [if_pos hc4] at h
      exact T_X9_next_j26_0 D t w z  s _ _ _ h kc ke0
    · rw [if_neg hc4] at h
      obtain rfl := Option.some.inj h
      exact ke0 _ rfl _ _

theorem T_X9_next_l0 (D : Nat) (t : mTX) (w : Option Value) (z : mSG) (v : mSG) (e : mSG) (h : X9_next_l0 v = some e) (ke0 : ∀ y : mSG, e = y → ∀ (u1 u2 : Option Value), Ex (Runs (D + 1)) cd_X9_next (w, z, LAY t) 39 [some (.ref 56), u1, u2] [] y (LAY t)) : ∀ (u1 u2 : Option Value), Ex (Runs (D + 1)) cd_X9_next (w, z, LAY t) 0 [some (.ref 56), u1, u2] [] v (LAY t) :=
  m_iter (P := fun v : mSG => ∀ (u1 u2 : Option Value), Ex (Runs (D + 1)) cd_X9_next (w, z, LAY t) 0 [some (.ref 56), u1, u2] [] v (LAY t)) (Q := fun e : mSG => (∀ y : mSG, e = y → ∀ (u1 u2 : Option Value), Ex (Runs (D + 1)) cd_X9_next (w, z, LAY t) 39 [some (.ref 56), u1, u2] [] y (LAY t))) (fun x o hx kc kq u1 u2 => T_X9_next_b0 D t w z   x u1 u2 o hx kc (fun e he => kq _ he e rfl)) mFU v e h ke0
set_option maxRecDepth 20000 in
theorem T_X9_next_b100 (D : Nat) (t : mTX) (w : Option Value) (z : mSG) (s : mSG) (u1 u2 : Option Value) (o : mSG ⊕ mSG) (h : X9_next_b100 s = some o) (kc : ∀ y : mSG, o = .inl y → ∀ (u1 u2 : Option Value), Ex (Runs (D + 1)) cd_X9_next (w, z, LAY t) 100 [some (.ref 56), u1, u2] [] y (LAY t)) (ke0 : ∀ y : mSG, o = .inr y → ∀ (u0 u1 u2 : Option Value), Ex (Runs (D + 1)) cd_X9_next (w, z, LAY t) 321 [u0, u1, u2] [] y (LAY t)) : Ex (Runs (D + 1)) cd_X9_next (w, z, LAY t) 100 [some (.ref 56), u1, u2] [] s (LAY t) := by
  unfold X9_next_b100 at h
  obtain ⟨r15, hr, h⟩ := m_bind h
  refine Ex_call 4 (fun _ => rfl) (T_X9_byteAt D t (s.1 56 26) s r15 hr) rfl rfl ?_
  refine Ex_call 4 (fun _ => rfl) (T_X9_in D t r15.toInt64 97 122 s _ rfl) rfl rfl ?_
  refine Ex_brZ 1 (X9_in r15.toInt64 97 122) (fun _ => rfl) (fun hc => ?_) (fun hc => ?_)
  · rw [if_neg (m_nt hc)] at h
    obtain rfl := Option.some.inj h
    exact ke0 _ rfl _ _ _
  · rw [if_pos hc] at h
    refine Ex_sti 7 (fun _ => rfl) ?_
    obtain rfl := Option.some.inj h
    exact kc _ rfl _ _

theorem T_X9_next_l100 (D : Nat) (t : mTX) (w : Option Value) (z : mSG) (v : mSG) (e : mSG) (h : X9_next_l100 v = some e) (ke0 : ∀ y : mSG, e = y → ∀ (u0 u1 u2 : Option Value), Ex (Runs (D + 1)) cd_X9_next (w, z, LAY t) 321 [u0, u1, u2] [] y (LAY t)) : ∀ (u1 u2 : Option Value), Ex (Runs (D + 1)) cd_X9_next (w, z, LAY t) 100 [some (.ref 56), u1, u2] [] v (LAY t) :=
  m_iter (P := fun v : mSG => ∀ (u1 u2 : Option Value), Ex (Runs (D + 1)) cd_X9_next (w, z, LAY t) 100 [some (.ref 56), u1, u2] [] v (LAY t)) (Q := fun e : mSG => (∀ y : mSG, e = y → ∀ (u0 u1 u2 : Option Value), Ex (Runs (D + 1)) cd_X9_next (w, z, LAY t) 321 [u0, u1, u2] [] y (LAY t))) (fun x o hx kc kq u1 u2 => T_X9_next_b100 D t w z   x u1 u2 o hx kc (fun e he => kq _ he e rfl)) mFU v e h ke0
set_option maxRecDepth 20000 in
theorem T_X9_next_j216_160 (D : Nat) (t : mTX) (w : Option Value) (z : mSG) (x2 : Int32) (pj1 : Int64) (s : mSG) (u1 : Option Value) (o : (Int32 × mSG) ⊕ Int32 × mSG) (h : X9_next_j216_160 x2 pj1 s = some o) (kc : ∀ y : Int32 × mSG, o = .inl y → ∀ (u1 : Option Value), Ex (Runs (D + 1)) cd_X9_next (w, z, LAY t) 160 [some (.ref 56), u1, some (.int y.1)] [] y.2 (LAY t)) (ke0 : ∀ y : Int32 × mSG, o = .inr y → ∀ (u1 : Option Value), Ex (Runs (D + 1)) cd_X9_next (w, z, LAY t) 235 [some (.ref 56), u1, some (.int y.1)] [] y.2 (LAY t)) : Ex (Runs (D + 1)) cd_X9_next (w, z, LAY t) 216 [some (.ref 56), u1, some (.int x2)] [.long pj1, .ref 56] s (LAY t) := by
  unfold X9_next_j216_160 at h
  refine Ex_sti 9 (fun _ => rfl) ?_
  obtain rfl := Option.some.inj h
  exact kc _ rfl _

set_option maxRecDepth 20000 in
theorem T_X9_next_b160 (D : Nat) (t : mTX) (w : Option Value) (z : mSG) (x2 : Int32) (s : mSG) (u1 : Option Value) (o : (Int32 × mSG) ⊕ Int32 × mSG) (h : X9_next_b160 x2 s = some o) (kc : ∀ y : Int32 × mSG, o = .inl y → ∀ (u1 : Option Value), Ex (Runs (D + 1)) cd_X9_next (w, z, LAY t) 160 [some (.ref 56), u1, some (.int y.1)] [] y.2 (LAY t)) (ke0 : ∀ y : Int32 × mSG, o = .inr y → ∀ (u1 : Option Value), Ex (Runs (D + 1)) cd_X9_next (w, z, LAY t) 235 [some (.ref 56), u1, some (.int y.1)] [] y.2 (LAY t)) : Ex (Runs (D + 1)) cd_X9_next (w, z, LAY t) 160 [some (.ref 56), u1, some (.int x2)] [] s (LAY t) := by
  unfold X9_next_b160 at h
  obtain ⟨r16, hr, h⟩ := m_bind h
  refine Ex_call 4 (fun _ => rfl) (T_X9_byteAt D t (s.1 56 26) s r16 hr) rfl rfl ?_
  refine Ex_call 4 (fun _ => rfl) (T_X9_in D t r16.toInt64 48 57 s _ rfl) rfl rfl ?_
  refine Ex_brZ 1 (X9_in r16.toInt64 48 57) (fun _ => rfl) (fun hc => ?_) (fun hc => ?_)
  · rw [if_neg (m_nt hc)] at h
    obtain rfl := Option.some.inj h
    exact ke0 _ rfl _
  · rw [if_pos hc] at h
    refine Ex_br 4 (4 ≤ x2) (fun _ => rfl) (fun hc17 => ?_) (fun hc17 => ?_)
    · rw [if_pos hc17] at h
      refine Ex_sti 2 (fun _ => rfl) ?_
      exact T_X9_next_j216_160 D t w z x2 (s.2.2 56 29) s _ _ h kc ke0
    · rw [if_neg hc17] at h
      obtain ⟨r18, hr, h⟩ := m_bind h
      refine Ex_call 8 (fun _ => rfl) (T_X9_byteAt D t (s.1 56 26) s r18 hr) rfl rfl ?_
      refine Ex_sti 5 (fun _ => rfl) ?_
      exact T_X9_next_j216_160 D t w z x2 (((10 * (s.2.2 56 29)) + r18.toInt64) - 48) s _ _ h kc ke0

theorem T_X9_next_l160 (D : Nat) (t : mTX) (w : Option Value) (z : mSG) (v : Int32 × mSG) (e : Int32 × mSG) (h : X9_next_l160 v = some e) (ke0 : ∀ y : Int32 × mSG, e = y → ∀ (u1 : Option Value), Ex (Runs (D + 1)) cd_X9_next (w, z, LAY t) 235 [some (.ref 56), u1, some (.int y.1)] [] y.2 (LAY t)) : ∀ (u1 : Option Value), Ex (Runs (D + 1)) cd_X9_next (w, z, LAY t) 160 [some (.ref 56), u1, some (.int v.1)] [] v.2 (LAY t) :=
  m_iter (P := fun v : Int32 × mSG => ∀ (u1 : Option Value), Ex (Runs (D + 1)) cd_X9_next (w, z, LAY t) 160 [some (.ref 56), u1, some (.int v.1)] [] v.2 (LAY t)) (Q := fun e : Int32 × mSG => (∀ y : Int32 × mSG, e = y → ∀ (u1 : Option Value), Ex (Runs (D + 1)) cd_X9_next (w, z, LAY t) 235 [some (.ref 56), u1, some (.int y.1)] [] y.2 (LAY t))) (fun x o hx kc kq u1 => T_X9_next_b160 D t w z  x.1 x.2 u1 o hx kc (fun e he => kq _ he e rfl)) mFU v e h ke0
set_option maxRecDepth 20000 in
theorem T_X9_next_j300 (D : Nat) (t : mTX) (x1 : Int32) (s : mSG) (u2 : Option Value) (o : mSG) (h : X9_next_j300 x1 s = some o)  : Ex (Runs (D + 1)) cd_X9_next (none, o, LAY t) 300 [some (.ref 56), some (.int x1), u2] [] s (LAY t) := by
  unfold X9_next_j300 at h
  obtain rfl := Option.some.inj h
  exact Ex_ret 14 (fun _ => rfl) rfl

set_option maxRecDepth 20000 in
theorem T_X9_next (D : Nat) (t : mTX) (s : mSG) (o : mSG) (h : X9_next s = some o) : Runs (D + 2) 142 [.ref 56] s (LAY t) (none, o, LAY t) := by
  refine Runs_mk (d := D + 1) rfl ?_
  show Ex (Runs (D + 1)) cd_X9_next (none, o, LAY t) 0 [some (.ref 56), none, none] [] s (LAY t)
  unfold X9_next at h
  obtain ⟨e0, hl, h⟩ := m_bind h
  refine T_X9_next_l0 D t none o   s _ hl (fun y0 hy0 => ?_) _ _
  · obtain ⟨e0, rfl⟩ : ∃ q, q = y0 := ⟨_, rfl⟩
    subst hy0
    intro vu1 vu2
    obtain ⟨r20, hr, h⟩ := m_bind h
    refine Ex_call 8 (fun _ => rfl) (T_X9_byteAt D t (e0.1 56 26) (sI e0 56 28 (e0.1 56 26)) r20 hr) rfl rfl ?_
    refine Ex_br 6 (0 ≤ r20) (fun _ => rfl) (fun hc21 => ?_) (fun hc21 => ?_)
    · rw [if_pos hc21] at h
      refine Ex_call 5 (fun _ => rfl) (T_X9_in D t r20.toInt64 97 122 (sI (sI e0 56 28 (e0.1 56 26)) 56 27 4) _ rfl) rfl rfl ?_
      refine Ex_brZ 1 (X9_in r20.toInt64 97 122) (fun _ => rfl) (fun hc => ?_) (fun hc => ?_)
      · rw [if_neg (m_nt hc)] at h
        refine Ex_call 5 (fun _ => rfl) (T_X9_in D t r20.toInt64 48 57 (sI (sI e0 56 28 (e0.1 56 26)) 56 27 4) _ rfl) rfl rfl ?_
        refine Ex_brZ 1 (X9_in r20.toInt64 48 57) (fun _ => rfl) (fun hc => ?_) (fun hc => ?_)
        · rw [if_neg (m_nt hc)] at h
          refine Ex_br 3 (r20 = 40) (fun _ => rfl) (fun hc22 => ?_) (fun hc22 => ?_)
          · rw [if_pos hc22] at h
            exact T_X9_next_j300 D t r20 (sI (sI e0 56 28 (e0.1 56 26)) 56 27 4) _ _ h
          · rw [if_neg hc22] at h
            refine Ex_br 3 (r20 = 41) (fun _ => rfl) (fun hc23 => ?_) (fun hc23 => ?_)
            · rw [if_pos hc23] at h
              exact T_X9_next_j300 D t r20 (sI (sI e0 56 28 (e0.1 56 26)) 56 27 4) _ _ h
            · rw [if_neg hc23] at h
              refine Ex_br 3 (r20 = 59) (fun _ => rfl) (fun hc24 => ?_) (fun hc24 => ?_)
              · rw [if_pos hc24] at h
                exact T_X9_next_j300 D t r20 (sI (sI e0 56 28 (e0.1 56 26)) 56 27 4) _ _ h
              · rw [if_neg hc24] at h
                refine Ex_br 3 (r20 = 43) (fun _ => rfl) (fun hc25 => ?_) (fun hc25 => ?_)
                · rw [if_pos hc25] at h
                  exact T_X9_next_j300 D t r20 (sI (sI e0 56 28 (e0.1 56 26)) 56 27 4) _ _ h
                · rw [if_neg hc25] at h
                  refine Ex_br 3 (r20 = 45) (fun _ => rfl) (fun hc26 => ?_) (fun hc26 => ?_)
                  · rw [if_pos hc26] at h
                    exact T_X9_next_j300 D t r20 (sI (sI e0 56 28 (e0.1 56 26)) 56 27 4) _ _ h
                  · rw [if_neg hc26] at h
                    refine Ex_br 3 (r20 = 42) (fun _ => rfl) (fun hc27 => ?_) (fun hc27 => ?_)
                    · rw [if_pos hc27] at h
                      exact T_X9_next_j300 D t r20 (sI (sI e0 56 28 (e0.1 56 26)) 56 27 4) _ _ h
                    · rw [if_neg hc27] at h
                      refine Ex_br 3 (r20 = 60) (fun _ => rfl) (fun hc28 => ?_) (fun hc28 => ?_)
                      · rw [if_pos hc28] at h
                        exact T_X9_next_j300 D t r20 (sI (sI e0 56 28 (e0.1 56 26)) 56 27 4) _ _ h
                      · rw [if_neg hc28] at h
                        refine Ex_br 3 (r20 = 61) (fun _ => rfl) (fun hc29 => ?_) (fun hc29 => ?_)
                        · rw [if_pos hc29] at h
                          exact T_X9_next_j300 D t r20 (sI (sI e0 56 28 (e0.1 56 26)) 56 27 4) _ _ h
                        · rw [if_neg hc29] at h
                          obtain rfl := Option.some.inj h
                          exact Ex_ret 1 (fun _ => rfl) rfl
        · rw [if_pos hc] at h
          refine Ex_sti 8 (fun _ => rfl) ?_
          obtain ⟨e160, hl, h⟩ := m_bind h
          refine T_X9_next_l160 D t none o   (0, sJ (sI (sI (sI e0 56 28 (e0.1 56 26)) 56 27 4) 56 27 2) 56 29 0) _ hl (fun y0 hy0 => ?_) _
          · obtain ⟨e160, rfl⟩ : ∃ q, q = y0 := ⟨_, rfl⟩
            subst hy0
            intro vu1
            refine Ex_br 4 (e160.1 ≤ 4) (fun _ => rfl) (fun hc30 => ?_) (fun hc30 => ?_)
            · rw [if_pos hc30] at h
              obtain rfl := Option.some.inj h
              exact Ex_ret 4 (fun _ => rfl) rfl
            · rw [if_neg hc30] at h
              obtain rfl := Option.some.inj h
              exact Ex_ret 5 (fun _ => rfl) rfl
      · rw [if_pos hc] at h
        refine Ex_sti 3 (fun _ => rfl) ?_
        obtain ⟨e100, hl, h⟩ := m_bind h
        refine T_X9_next_l100 D t none o   (sI (sI (sI e0 56 28 (e0.1 56 26)) 56 27 4) 56 27 1) _ hl (fun y0 hy0 => ?_) _ _
        · obtain ⟨e100, rfl⟩ : ∃ q, q = y0 := ⟨_, rfl⟩
          subst hy0
          intro vu0 vu1 vu2
          obtain rfl := Option.some.inj h
          exact Ex_ret 1 (fun _ => rfl) rfl
    · rw [if_neg hc21] at h
      obtain rfl := Option.some.inj h
      exact Ex_ret 9 (fun _ => rfl) rfl

set_option maxRecDepth 20000 in
theorem T_X9_fail (D : Nat) (t : mTX) (s : mSG) (o : mSG) (h : X9_fail s = some o) : Runs (D + 1) 143 [.ref 56] s (LAY t) (none, o, LAY t) := by
  refine Runs_mk (d := D) rfl ?_
  show Ex (Runs (D)) cd_X9_fail (none, o, LAY t) 0 [some (.ref 56)] [] s (LAY t)
  unfold X9_fail at h
  refine Ex_br 3 ((s.1 56 31) = 0) (fun _ => rfl) (fun hc1 => ?_) (fun hc1 => ?_)
  · rw [if_pos hc1] at h
    refine Ex_gd 3 (fun _ => rfl) (Or.inr rfl) ?_
    obtain rfl := Option.some.inj h
    exact Ex_ret 5 (fun _ => rfl) rfl
  · rw [if_neg hc1] at h
    obtain rfl := Option.some.inj h
    exact Ex_ret 1 (fun _ => rfl) rfl

set_option maxRecDepth 20000 in
theorem T_X9_isLetter (D : Nat) (t : mTX) (x1 : Int32) (x2 : Int32) (s : mSG) (o : Bool) (h : X9_isLetter x1 x2 s = some o) : Runs (D + 2) 144 [.ref 56, .int x1, .int x2] s (LAY t) (some (.int (b2i o)), s, LAY t) := by
  refine Runs_mk (d := D + 1) rfl ?_
  show Ex (Runs (D + 1)) cd_X9_isLetter (some (.int (b2i o)), s, LAY t) 0 [some (.ref 56), some (.int x1), some (.int x2)] [] s (LAY t)
  unfold X9_isLetter at h
  refine Ex_br 7 ((s.1 56 26) ≤ ((s.1 56 28) + x1)) (fun _ => rfl) (fun hc1 => ?_) (fun hc1 => ?_)
  · rw [if_pos hc1] at h
    refine Ex_br 2 (x2 = 0) (fun _ => rfl) (fun hc2 => ?_) (fun hc2 => ?_)
    · rw [if_pos hc2] at h
      obtain rfl := Option.some.inj h
      exact Ex_retZ 3 (fun _ => rfl) (Or.inr rfl) rfl
    · rw [if_neg hc2] at h
      obtain rfl := Option.some.inj h
      exact Ex_retZ 2 (fun _ => rfl) (Or.inl rfl) rfl
  · rw [if_neg hc1] at h
    obtain ⟨r3, hr, h⟩ := m_bind h
    refine Ex_call 6 (fun _ => rfl) (T_X9_byteAt D t ((s.1 56 28) + x1) s r3 hr) rfl rfl ?_
    refine Ex_br 2 (r3 = x2) (fun _ => rfl) (fun hc4 => ?_) (fun hc4 => ?_)
    · rw [if_pos hc4] at h
      obtain rfl := Option.some.inj h
      exact Ex_retZ 3 (fun _ => rfl) (Or.inr rfl) rfl
    · rw [if_neg hc4] at h
      obtain rfl := Option.some.inj h
      exact Ex_retZ 3 (fun _ => rfl) (Or.inl rfl) rfl

set_option maxRecDepth 20000 in
theorem T_X9_isWord (D : Nat) (t : mTX) (x1 : Int32) (x2 : Int32) (x3 : Int32) (x4 : Int32) (x5 : Int32) (x6 : Int32) (x7 : Int32) (x8 : Int32) (s : mSG) (o : Bool) (h : X9_isWord x1 x2 x3 x4 x5 x6 x7 x8 s = some o) : Runs (D + 3) 145 [.ref 56, .int x1, .int x2, .int x3, .int x4, .int x5, .int x6, .int x7, .int x8] s (LAY t) (some (.int (b2i o)), s, LAY t) := by
  refine Runs_mk (d := D + 2) rfl ?_
  show Ex (Runs (D + 2)) cd_X9_isWord (some (.int (b2i o)), s, LAY t) 0 [some (.ref 56), some (.int x1), some (.int x2), some (.int x3), some (.int x4), some (.int x5), some (.int x6), some (.int x7), some (.int x8)] [] s (LAY t)
  unfold X9_isWord at h
  refine Ex_br 3 ((s.1 56 31) = 0) (fun _ => rfl) (fun hc1 => ?_) (fun hc1 => ?_)
  · rw [if_pos hc1] at h
    refine Ex_br 4 ((s.1 56 27) = 1) (fun _ => rfl) (fun hc2 => ?_) (fun hc2 => ?_)
    · rw [if_pos hc2] at h
      refine Ex_br 7 (((s.1 56 28) + 8) < (s.1 56 26)) (fun _ => rfl) (fun hc3 => ?_) (fun hc3 => ?_)
      · rw [if_pos hc3] at h
        obtain rfl := Option.some.inj h
        exact Ex_retZ 2 (fun _ => rfl) (Or.inl rfl) rfl
      · rw [if_neg hc3] at h
        obtain ⟨r4, hr, h⟩ := m_bind h
        refine Ex_call 4 (fun _ => rfl) (T_X9_isLetter D t 0 x1 s r4 hr) rfl rfl ?_
        refine Ex_brZ 1 (r4) (fun _ => rfl) (fun hc => ?_) (fun hc => ?_)
        · rw [if_neg (m_nt hc)] at h
          obtain rfl := Option.some.inj h
          exact Ex_retZ 2 (fun _ => rfl) (Or.inl rfl) rfl
        · rw [if_pos hc] at h
          obtain ⟨r5, hr, h⟩ := m_bind h
          refine Ex_call 4 (fun _ => rfl) (T_X9_isLetter D t 1 x2 s r5 hr) rfl rfl ?_
          refine Ex_brZ 1 (r5) (fun _ => rfl) (fun hc => ?_) (fun hc => ?_)
          · rw [if_neg (m_nt hc)] at h
            obtain rfl := Option.some.inj h
            exact Ex_retZ 2 (fun _ => rfl) (Or.inl rfl) rfl
          · rw [if_pos hc] at h
            obtain ⟨r6, hr, h⟩ := m_bind h
            refine Ex_call 4 (fun _ => rfl) (T_X9_isLetter D t 2 x3 s r6 hr) rfl rfl ?_
            refine Ex_brZ 1 (r6) (fun _ => rfl) (fun hc => ?_) (fun hc => ?_)
            · rw [if_neg (m_nt hc)] at h
              obtain rfl := Option.some.inj h
              exact Ex_retZ 2 (fun _ => rfl) (Or.inl rfl) rfl
            · rw [if_pos hc] at h
              obtain ⟨r7, hr, h⟩ := m_bind h
              refine Ex_call 4 (fun _ => rfl) (T_X9_isLetter D t 3 x4 s r7 hr) rfl rfl ?_
              refine Ex_brZ 1 (r7) (fun _ => rfl) (fun hc => ?_) (fun hc => ?_)
              · rw [if_neg (m_nt hc)] at h
                obtain rfl := Option.some.inj h
                exact Ex_retZ 2 (fun _ => rfl) (Or.inl rfl) rfl
              · rw [if_pos hc] at h
                obtain ⟨r8, hr, h⟩ := m_bind h
                refine Ex_call 4 (fun _ => rfl) (T_X9_isLetter D t 4 x5 s r8 hr) rfl rfl ?_
                refine Ex_brZ 1 (r8) (fun _ => rfl) (fun hc => ?_) (fun hc => ?_)
                · rw [if_neg (m_nt hc)] at h
                  obtain rfl := Option.some.inj h
                  exact Ex_retZ 2 (fun _ => rfl) (Or.inl rfl) rfl
                · rw [if_pos hc] at h
                  obtain ⟨r9, hr, h⟩ := m_bind h
                  refine Ex_call 4 (fun _ => rfl) (T_X9_isLetter D t 5 x6 s r9 hr) rfl rfl ?_
                  refine Ex_brZ 1 (r9) (fun _ => rfl) (fun hc => ?_) (fun hc => ?_)
                  · rw [if_neg (m_nt hc)] at h
                    obtain rfl := Option.some.inj h
                    exact Ex_retZ 2 (fun _ => rfl) (Or.inl rfl) rfl
                  · rw [if_pos hc] at h
                    obtain ⟨r10, hr, h⟩ := m_bind h
                    refine Ex_call 4 (fun _ => rfl) (T_X9_isLetter D t 6 x7 s r10 hr) rfl rfl ?_
                    refine Ex_brZ 1 (r10) (fun _ => rfl) (fun hc => ?_) (fun hc => ?_)
                    · rw [if_neg (m_nt hc)] at h
                      obtain rfl := Option.some.inj h
                      exact Ex_retZ 2 (fun _ => rfl) (Or.inl rfl) rfl
                    · rw [if_pos hc] at h
                      obtain ⟨r11, hr, h⟩ := m_bind h
                      refine Ex_call 4 (fun _ => rfl) (T_X9_isLetter D t 7 x8 s r11 hr) rfl rfl ?_
                      refine Ex_brZ 1 (r11) (fun _ => rfl) (fun hc => ?_) (fun hc => ?_)
                      · rw [if_neg (m_nt hc)] at h
                        obtain rfl := Option.some.inj h
                        exact Ex_retZ 2 (fun _ => rfl) (Or.inl rfl) rfl
                      · rw [if_pos hc] at h
                        obtain rfl := Option.some.inj h
                        exact Ex_retZ 3 (fun _ => rfl) (Or.inr rfl) rfl
    · rw [if_neg hc2] at h
      obtain rfl := Option.some.inj h
      exact Ex_retZ 2 (fun _ => rfl) (Or.inl rfl) rfl
  · rw [if_neg hc1] at h
    obtain rfl := Option.some.inj h
    exact Ex_retZ 2 (fun _ => rfl) (Or.inl rfl) rfl

set_option maxRecDepth 20000 in
theorem T_X9_isSign (D : Nat) (t : mTX) (x1 : Int32) (s : mSG) (o : Bool) (h : X9_isSign x1 s = o) : Runs (D + 1) 146 [.ref 56, .int x1] s (LAY t) (some (.int (b2i o)), s, LAY t) := by
  refine Runs_mk (d := D) rfl ?_
  show Ex (Runs (D)) cd_X9_isSign (some (.int (b2i o)), s, LAY t) 0 [some (.ref 56), some (.int x1)] [] s (LAY t)
  unfold X9_isSign at h
  refine Ex_br 3 ((s.1 56 31) = 0) (fun _ => rfl) (fun hc1 => ?_) (fun hc1 => ?_)
  · rw [if_pos hc1] at h
    refine Ex_br 4 ((s.1 56 27) = 3) (fun _ => rfl) (fun hc2 => ?_) (fun hc2 => ?_)
    · rw [if_pos hc2] at h
      refine Ex_br 6 ((lg_cmp (s.2.2 56 29) x1.toInt64) = 0) (fun _ => rfl) (fun hc3 => ?_) (fun hc3 => ?_)
      · rw [if_pos hc3] at h
        subst h
        exact Ex_retZ 3 (fun _ => rfl) (Or.inr rfl) rfl
      · rw [if_neg hc3] at h
        subst h
        exact Ex_retZ 2 (fun _ => rfl) (Or.inl rfl) rfl
    · rw [if_neg hc2] at h
      subst h
      exact Ex_retZ 2 (fun _ => rfl) (Or.inl rfl) rfl
  · rw [if_neg hc1] at h
    subst h
    exact Ex_retZ 2 (fun _ => rfl) (Or.inl rfl) rfl

set_option maxRecDepth 20000 in
theorem T_X9_opens (D : Nat) (t : mTX) (s : mSG) (o : Bool × mSG) (h : X9_opens s = some o) : Runs (D + 3) 147 [.ref 56] s (LAY t) (some (.int (b2i o.1)), o.2, LAY t) := by
  refine Runs_mk (d := D + 2) rfl ?_
  show Ex (Runs (D + 2)) cd_X9_opens (some (.int (b2i o.1)), o.2, LAY t) 0 [some (.ref 56)] [] s (LAY t)
  unfold X9_opens at h
  refine Ex_br 4 ((s.1 56 30) = 5) (fun _ => rfl) (fun hc1 => ?_) (fun hc1 => ?_)
  · rw [if_pos hc1] at h
    obtain ⟨r2, hr, h⟩ := m_bind h
    refine Ex_call 2 (fun _ => rfl) (T_X9_fail (D + 1) t  s r2 hr) rfl rfl ?_
    obtain rfl := Option.some.inj h
    exact Ex_retZ 2 (fun _ => rfl) (Or.inl rfl) rfl
  · rw [if_neg hc1] at h
    obtain ⟨r3, hr, h⟩ := m_bind h
    refine Ex_call 8 (fun _ => rfl) (T_X9_next D t  (sI s 56 30 ((s.1 56 30) + 1)) r3 hr) rfl rfl ?_
    obtain rfl := Option.some.inj h
    exact Ex_retZ 2 (fun _ => rfl) (Or.inr rfl) rfl

set_option maxRecDepth 20000 in
theorem T_X9_name (D : Nat) (t : mTX) (s : mSG) (o : Int32 × mSG) (h : X9_name s = some o) : Runs (D + 4) 148 [.ref 56] s (LAY t) (some (.int o.1), o.2, LAY t) := by
  refine Runs_mk (d := D + 3) rfl ?_
  show Ex (Runs (D + 3)) cd_X9_name (some (.int o.1), o.2, LAY t) 0 [some (.ref 56)] [] s (LAY t)
  unfold X9_name at h
  obtain ⟨r1, hr, h⟩ := m_bind h
  refine Ex_call 10 (fun _ => rfl) (T_X9_isWord D t 109 117 100 0 0 0 0 0 s r1 hr) rfl rfl ?_
  refine Ex_brZ 1 (r1) (fun _ => rfl) (fun hc => ?_) (fun hc => ?_)
  · rw [if_neg (m_nt hc)] at h
    obtain ⟨r2, hr, h⟩ := m_bind h
    refine Ex_call 10 (fun _ => rfl) (T_X9_isWord D t 119 101 116 0 0 0 0 0 s r2 hr) rfl rfl ?_
    refine Ex_brZ 1 (r2) (fun _ => rfl) (fun hc => ?_) (fun hc => ?_)
    · rw [if_neg (m_nt hc)] at h
      obtain ⟨r3, hr, h⟩ := m_bind h
      refine Ex_call 10 (fun _ => rfl) (T_X9_isWord D t 108 111 97 100 0 0 0 0 s r3 hr) rfl rfl ?_
      refine Ex_brZ 1 (r3) (fun _ => rfl) (fun hc => ?_) (fun hc => ?_)
      · rw [if_neg (m_nt hc)] at h
        obtain ⟨r4, hr, h⟩ := m_bind h
        refine Ex_call 10 (fun _ => rfl) (T_X9_isWord D t 114 97 105 110 0 0 0 0 s r4 hr) rfl rfl ?_
        refine Ex_brZ 1 (r4) (fun _ => rfl) (fun hc => ?_) (fun hc => ?_)
        · rw [if_neg (m_nt hc)] at h
          obtain ⟨r5, hr, h⟩ := m_bind h
          refine Ex_call 10 (fun _ => rfl) (T_X9_isWord D t 102 114 111 109 0 0 0 0 s r5 hr) rfl rfl ?_
          refine Ex_brZ 1 (r5) (fun _ => rfl) (fun hc => ?_) (fun hc => ?_)
          · rw [if_neg (m_nt hc)] at h
            obtain ⟨r6, hr, h⟩ := m_bind h
            refine Ex_call 10 (fun _ => rfl) (T_X9_isWord D t 116 111 0 0 0 0 0 0 s r6 hr) rfl rfl ?_
            refine Ex_brZ 1 (r6) (fun _ => rfl) (fun hc => ?_) (fun hc => ?_)
            · rw [if_neg (m_nt hc)] at h
              obtain ⟨r7, hr, h⟩ := m_bind h
              refine Ex_call 2 (fun _ => rfl) (T_X9_fail (D + 2) t  s r7 hr) rfl rfl ?_
              obtain rfl := Option.some.inj h
              exact Ex_ret 2 (fun _ => rfl) rfl
            · rw [if_pos hc] at h
              obtain rfl := Option.some.inj h
              exact Ex_ret 3 (fun _ => rfl) rfl
          · rw [if_pos hc] at h
            obtain rfl := Option.some.inj h
            exact Ex_ret 3 (fun _ => rfl) rfl
        · rw [if_pos hc] at h
          obtain rfl := Option.some.inj h
          exact Ex_ret 3 (fun _ => rfl) rfl
      · rw [if_pos hc] at h
        obtain rfl := Option.some.inj h
        exact Ex_ret 3 (fun _ => rfl) rfl
    · rw [if_pos hc] at h
      obtain rfl := Option.some.inj h
      exact Ex_ret 3 (fun _ => rfl) rfl
  · rw [if_pos hc] at h
    obtain rfl := Option.some.inj h
    exact Ex_ret 3 (fun _ => rfl) rfl

set_option maxRecDepth 20000 in
theorem T_X9_atom5_j98 (D : Nat) (t : mTX) (x1 : Int32) (s : mSG) (o : Int32 × mSG) (h : X9_atom5_j98 x1 s = some o)  : Ex (Runs (D + 4)) cd_X9_atom5 (some (.int o.1), o.2, LAY t) 98 [some (.ref 56), some (.int x1)] [] s (LAY t) := by
  unfold X9_atom5_j98 at h
  obtain ⟨r11, hr, h⟩ := m_bind h
  refine Ex_call 2 (fun _ => rfl) (T_X9_fail (D + 3) t  s r11 hr) rfl rfl ?_
  obtain rfl := Option.some.inj h
  exact Ex_ret 2 (fun _ => rfl) rfl

set_option maxRecDepth 20000 in
theorem T_X9_atom5_j64 (D : Nat) (t : mTX) (x1 : Int32) (s : mSG) (o : Int32 × mSG) (h : X9_atom5_j64 x1 s = some o)  : Ex (Runs (D + 4)) cd_X9_atom5 (some (.int o.1), o.2, LAY t) 64 [some (.ref 56), some (.int x1)] [] s (LAY t) := by
  unfold X9_atom5_j64 at h
  refine Ex_br 3 ((s.1 56 31) = 0) (fun _ => rfl) (fun hc6 => ?_) (fun hc6 => ?_)
  · rw [if_pos hc6] at h
    refine Ex_br 4 ((s.1 56 27) = 1) (fun _ => rfl) (fun hc7 => ?_) (fun hc7 => ?_)
    · rw [if_pos hc7] at h
      obtain ⟨r8, hr, h⟩ := m_bind h
      refine Ex_call 2 (fun _ => rfl) (T_X9_name D t  s r8 hr) rfl rfl ?_
      refine Ex_br 4 ((r8.2.1 56 31) = 0) (fun _ => rfl) (fun hc9 => ?_) (fun hc9 => ?_)
      · rw [if_pos hc9] at h
        obtain ⟨r10, hr, h⟩ := m_bind h
        refine Ex_call 2 (fun _ => rfl) (T_X9_next (D + 2) t  r8.2 r10 hr) rfl rfl ?_
        obtain rfl := Option.some.inj h
        exact Ex_ret 3 (fun _ => rfl) rfl
      · rw [if_neg hc9] at h
        obtain rfl := Option.some.inj h
        exact Ex_ret 2 (fun _ => rfl) rfl
    · rw [if_neg hc7] at h
      exact T_X9_atom5_j98 D t x1 s  _ h
  · rw [if_neg hc6] at h
    exact T_X9_atom5_j98 D t x1 s  _ h

set_option maxRecDepth 20000 in
theorem T_X9_atom5 (D : Nat) (t : mTX) (s : mSG) (o : Int32 × mSG) (h : X9_atom5 s = some o) : Runs (D + 5) 149 [.ref 56] s (LAY t) (some (.int o.1), o.2, LAY t) := by
  refine Runs_mk (d := D + 4) rfl ?_
  show Ex (Runs (D + 4)) cd_X9_atom5 (some (.int o.1), o.2, LAY t) 0 [some (.ref 56), none] [] s (LAY t)
  unfold X9_atom5 at h
  refine Ex_call 5 (fun _ => rfl) (T_X9_isSign (D + 3) t 45 s _ rfl) rfl rfl ?_
  refine Ex_brZ 1 (X9_isSign 45 s) (fun _ => rfl) (fun hc => ?_) (fun hc => ?_)
  · rw [if_neg (m_nt hc)] at h
    refine Ex_call 3 (fun _ => rfl) (T_X9_isSign (D + 3) t 40 s _ rfl) rfl rfl ?_
    refine Ex_brZ 1 (X9_isSign 40 s) (fun _ => rfl) (fun hc => ?_) (fun hc => ?_)
    · rw [if_neg (m_nt hc)] at h
      refine Ex_br 3 ((s.1 56 31) = 0) (fun _ => rfl) (fun hc1 => ?_) (fun hc1 => ?_)
      · rw [if_pos hc1] at h
        refine Ex_br 4 ((s.1 56 27) = 2) (fun _ => rfl) (fun hc2 => ?_) (fun hc2 => ?_)
        · rw [if_pos hc2] at h
          obtain ⟨r3, hr, h⟩ := m_bind h
          refine Ex_call 6 (fun _ => rfl) (T_X9_next (D + 2) t  s r3 hr) rfl rfl ?_
          obtain rfl := Option.some.inj h
          exact Ex_ret 3 (fun _ => rfl) rfl
        · rw [if_neg hc2] at h
          exact T_X9_atom5_j64 D t 0 s  _ h
      · rw [if_neg hc1] at h
        exact T_X9_atom5_j64 D t 0 s  _ h
    · rw [if_pos hc] at h
      obtain ⟨r4, hr, h⟩ := m_bind h
      refine Ex_call 2 (fun _ => rfl) (T_X9_opens (D + 1) t  s r4 hr) rfl rfl ?_
      obtain rfl := Option.some.inj h
      exact Ex_ret 4 (fun _ => rfl) rfl
  · rw [if_pos hc] at h
    obtain ⟨r5, hr, h⟩ := m_bind h
    refine Ex_call 2 (fun _ => rfl) (T_X9_opens (D + 1) t  s r5 hr) rfl rfl ?_
    obtain rfl := Option.some.inj h
    exact Ex_ret 4 (fun _ => rfl) rfl

set_option maxRecDepth 20000 in
theorem T_X9_term5_b5 (D : Nat) (t : mTX) (w : Option Value) (z : mSG) (x1 : Int32) (s : mSG) (o : (Int32 × mSG) ⊕ Int32 × mSG) (h : X9_term5_b5 x1 s = some o) (kc : ∀ y : Int32 × mSG, o = .inl y → Ex (Runs (D + 5)) cd_X9_term5 (w, z, LAY t) 5 [some (.ref 56), some (.int y.1)] [] y.2 (LAY t)) (ke0 : ∀ y : Int32 × mSG, o = .inr y → ∀ (u0 : Option Value), Ex (Runs (D + 5)) cd_X9_term5 (w, z, LAY t) 28 [u0, some (.int y.1)] [] y.2 (LAY t)) : Ex (Runs (D + 5)) cd_X9_term5 (w, z, LAY t) 5 [some (.ref 56), some (.int x1)] [] s (LAY t) := by
  unfold X9_term5_b5 at h
  refine Ex_call 3 (fun _ => rfl) (T_X9_isSign (D + 4) t 42 s _ rfl) rfl rfl ?_
  refine Ex_brZ 1 (X9_isSign 42 s) (fun _ => rfl) (fun hc => ?_) (fun hc => ?_)
  · rw [if_neg (m_nt hc)] at h
    obtain rfl := Option.some.inj h
    exact ke0 _ rfl _
  · rw [if_pos hc] at h
    obtain ⟨r2, hr, h⟩ := m_bind h
    refine Ex_call 2 (fun _ => rfl) (T_X9_next (D + 3) t  s r2 hr) rfl rfl ?_
    obtain ⟨r3, hr, h⟩ := m_bind h
    refine Ex_call 3 (fun _ => rfl) (T_X9_atom5 D t  r2 r3 hr) rfl rfl ?_
    refine Ex_sti 3 (fun _ => rfl) ?_
    obtain rfl := Option.some.inj h
    exact kc _ rfl 

theorem T_X9_term5_l5 (D : Nat) (t : mTX) (w : Option Value) (z : mSG) (v : Int32 × mSG) (e : Int32 × mSG) (h : X9_term5_l5 v = some e) (ke0 : ∀ y : Int32 × mSG, e = y → ∀ (u0 : Option Value), Ex (Runs (D + 5)) cd_X9_term5 (w, z, LAY t) 28 [u0, some (.int y.1)] [] y.2 (LAY t)) : Ex (Runs (D + 5)) cd_X9_term5 (w, z, LAY t) 5 [some (.ref 56), some (.int v.1)] [] v.2 (LAY t) :=
  m_iter (P := fun v : Int32 × mSG => Ex (Runs (D + 5)) cd_X9_term5 (w, z, LAY t) 5 [some (.ref 56), some (.int v.1)] [] v.2 (LAY t)) (Q := fun e : Int32 × mSG => (∀ y : Int32 × mSG, e = y → ∀ (u0 : Option Value), Ex (Runs (D + 5)) cd_X9_term5 (w, z, LAY t) 28 [u0, some (.int y.1)] [] y.2 (LAY t))) (fun x o hx kc kq  => T_X9_term5_b5 D t w z  x.1 x.2  o hx kc (fun e he => kq _ he e rfl)) mFU v e h ke0
set_option maxRecDepth 20000 in
theorem T_X9_term5 (D : Nat) (t : mTX) (s : mSG) (o : Int32 × mSG) (h : X9_term5 s = some o) : Runs (D + 6) 150 [.ref 56] s (LAY t) (some (.int o.1), o.2, LAY t) := by
  refine Runs_mk (d := D + 5) rfl ?_
  show Ex (Runs (D + 5)) cd_X9_term5 (some (.int o.1), o.2, LAY t) 0 [some (.ref 56), none] [] s (LAY t)
  unfold X9_term5 at h
  obtain ⟨r1, hr, h⟩ := m_bind h
  refine Ex_call 2 (fun _ => rfl) (T_X9_atom5 D t  s r1 hr) rfl rfl ?_
  refine Ex_sti 1 (fun _ => rfl) ?_
  obtain ⟨e5, hl, h⟩ := m_bind h
  refine T_X9_term5_l5 D t (some (.int o.1)) o.2   (r1.1, r1.2) _ hl (fun y0 hy0 => ?_) 
  · obtain ⟨e5, rfl⟩ : ∃ q, q = y0 := ⟨_, rfl⟩
    subst hy0
    intro vu0
    obtain rfl := Option.some.inj h
    exact Ex_ret 2 (fun _ => rfl) rfl

set_option maxRecDepth 20000 in
theorem T_X9_added5_j62_5 (D : Nat) (t : mTX) (w : Option Value) (z : mSG) (p0 : Int32) (s : mSG) (u1 u2 u3 : Option Value) (o : (Int32 × mSG) ⊕ Int32 × mSG) (h : X9_added5_j62_5 p0 s = some o) (kc : ∀ y : Int32 × mSG, o = .inl y → ∀ (u2 u3 : Option Value), Ex (Runs (D + 6)) cd_X9_added5 (w, z, LAY t) 5 [some (.ref 56), some (.int y.1), u2, u3] [] y.2 (LAY t)) (ke0 : ∀ y : Int32 × mSG, o = .inr y → ∀ (u0 u2 u3 : Option Value), Ex (Runs (D + 6)) cd_X9_added5 (w, z, LAY t) 66 [u0, some (.int y.1), u2, u3] [] y.2 (LAY t)) : Ex (Runs (D + 6)) cd_X9_added5 (w, z, LAY t) 62 [some (.ref 56), u1, u2, u3] [.int p0] s (LAY t) := by
  unfold X9_added5_j62_5 at h
  refine Ex_sti 2 (fun _ => rfl) ?_
  obtain rfl := Option.some.inj h
  exact kc _ rfl _ _

set_option maxRecDepth 20000 in
theorem T_X9_added5_j39_5 (D : Nat) (t : mTX) (w : Option Value) (z : mSG) (x1 : Int32) (p0 : Int32) (s : mSG) (u2 u3 : Option Value) (o : (Int32 × mSG) ⊕ Int32 × mSG) (h : X9_added5_j39_5 x1 p0 s = some o) (kc : ∀ y : Int32 × mSG, o = .inl y → ∀ (u2 u3 : Option Value), Ex (Runs (D + 6)) cd_X9_added5 (w, z, LAY t) 5 [some (.ref 56), some (.int y.1), u2, u3] [] y.2 (LAY t)) (ke0 : ∀ y : Int32 × mSG, o = .inr y → ∀ (u0 u2 u3 : Option Value), Ex (Runs (D + 6)) cd_X9_added5 (w, z, LAY t) 66 [u0, some (.int y.1), u2, u3] [] y.2 (LAY t)) : Ex (Runs (D + 6)) cd_X9_added5 (w, z, LAY t) 39 [some (.ref 56), some (.int x1), u2, u3] [.int p0] s (LAY t) := by
  unfold X9_added5_j39_5 at h
  obtain ⟨r3, hr, h⟩ := m_bind h
  refine Ex_call 3 (fun _ => rfl) (T_X9_next (D + 4) t  s r3 hr) rfl rfl ?_
  obtain ⟨r4, hr, h⟩ := m_bind h
  refine Ex_call 2 (fun _ => rfl) (T_X9_term5 D t  r3 r4 hr) rfl rfl ?_
  refine Ex_br 3 (p0 = 0) (fun _ => rfl) (fun hc5 => ?_) (fun hc5 => ?_)
  · rw [if_pos hc5] at h
    refine Ex_sti 3 (fun _ => rfl) ?_
    exact T_X9_added5_j62_5 D t w z (x1 - r4.1) r4.2 _ _ _ _ h kc ke0
  · rw [if_neg hc5] at h
    refine Ex_sti 4 (fun _ => rfl) ?_
    exact T_X9_added5_j62_5 D t w z (x1 + r4.1) r4.2 _ _ _ _ h kc ke0

set_option maxRecDepth 20000 in
theorem T_X9_added5_j23_5 (D : Nat) (t : mTX) (w : Option Value) (z : mSG) (x1 : Int32) (s : mSG) (u2 u3 : Option Value) (o : (Int32 × mSG) ⊕ Int32 × mSG) (h : X9_added5_j23_5 x1 s = some o) (kc : ∀ y : Int32 × mSG, o = .inl y → ∀ (u2 u3 : Option Value), Ex (Runs (D + 6)) cd_X9_added5 (w, z, LAY t) 5 [some (.ref 56), some (.int y.1), u2, u3] [] y.2 (LAY t)) (ke0 : ∀ y : Int32 × mSG, o = .inr y → ∀ (u0 u2 u3 : Option Value), Ex (Runs (D + 6)) cd_X9_added5 (w, z, LAY t) 66 [u0, some (.int y.1), u2, u3] [] y.2 (LAY t)) : Ex (Runs (D + 6)) cd_X9_added5 (w, z, LAY t) 23 [some (.ref 56), some (.int x1), u2, u3] [] s (LAY t) := by
  unfold X9_added5_j23_5 at h
  refine Ex_br 5 ((lg_cmp (s.2.2 56 29) 43) = 0) (fun _ => rfl) (fun hc2 => ?_) (fun hc2 => ?_)
  · rw [if_pos hc2] at h
    refine Ex_sti 2 (fun _ => rfl) ?_
    exact T_X9_added5_j39_5 D t w z x1 1 s _ _ _ h kc ke0
  · rw [if_neg hc2] at h
    refine Ex_sti 1 (fun _ => rfl) ?_
    exact T_X9_added5_j39_5 D t w z x1 0 s _ _ _ h kc ke0

set_option maxRecDepth 20000 in
theorem T_X9_added5_b5 (D : Nat) (t : mTX) (w : Option Value) (z : mSG) (x1 : Int32) (s : mSG) (u2 u3 : Option Value) (o : (Int32 × mSG) ⊕ Int32 × mSG) (h : X9_added5_b5 x1 s = some o) (kc : ∀ y : Int32 × mSG, o = .inl y → ∀ (u2 u3 : Option Value), Ex (Runs (D + 6)) cd_X9_added5 (w, z, LAY t) 5 [some (.ref 56), some (.int y.1), u2, u3] [] y.2 (LAY t)) (ke0 : ∀ y : Int32 × mSG, o = .inr y → ∀ (u0 u2 u3 : Option Value), Ex (Runs (D + 6)) cd_X9_added5 (w, z, LAY t) 66 [u0, some (.int y.1), u2, u3] [] y.2 (LAY t)) : Ex (Runs (D + 6)) cd_X9_added5 (w, z, LAY t) 5 [some (.ref 56), some (.int x1), u2, u3] [] s (LAY t) := by
  unfold X9_added5_b5 at h
  refine Ex_call 3 (fun _ => rfl) (T_X9_isSign (D + 5) t 43 s _ rfl) rfl rfl ?_
  refine Ex_brZ 1 (X9_isSign 43 s) (fun _ => rfl) (fun hc => ?_) (fun hc => ?_)
  · rw [if_neg (m_nt hc)] at h
    refine Ex_call 3 (fun _ => rfl) (T_X9_isSign (D + 5) t 45 s _ rfl) rfl rfl ?_
    refine Ex_brZ 1 (X9_isSign 45 s) (fun _ => rfl) (fun hc => ?_) (fun hc => ?_)
    · rw [if_neg (m_nt hc)] at h
      obtain rfl := Option.some.inj h
      exact ke0 _ rfl _ _ _
    · rw [if_pos hc] at h
      exact T_X9_added5_j23_5 D t w z x1 s _ _ _ h kc ke0
  · rw [if_pos hc] at h
    exact T_X9_added5_j23_5 D t w z x1 s _ _ _ h kc ke0

theorem T_X9_added5_l5 (D : Nat) (t : mTX) (w : Option Value) (z : mSG) (v : Int32 × mSG) (e : Int32 × mSG) (h : X9_added5_l5 v = some e) (ke0 : ∀ y : Int32 × mSG, e = y → ∀ (u0 u2 u3 : Option Value), Ex (Runs (D + 6)) cd_X9_added5 (w, z, LAY t) 66 [u0, some (.int y.1), u2, u3] [] y.2 (LAY t)) : ∀ (u2 u3 : Option Value), Ex (Runs (D + 6)) cd_X9_added5 (w, z, LAY t) 5 [some (.ref 56), some (.int v.1), u2, u3] [] v.2 (LAY t) :=
  m_iter (P := fun v : Int32 × mSG => ∀ (u2 u3 : Option Value), Ex (Runs (D + 6)) cd_X9_added5 (w, z, LAY t) 5 [some (.ref 56), some (.int v.1), u2, u3] [] v.2 (LAY t)) (Q := fun e : Int32 × mSG => (∀ y : Int32 × mSG, e = y → ∀ (u0 u2 u3 : Option Value), Ex (Runs (D + 6)) cd_X9_added5 (w, z, LAY t) 66 [u0, some (.int y.1), u2, u3] [] y.2 (LAY t))) (fun x o hx kc kq u2 u3 => T_X9_added5_b5 D t w z  x.1 x.2 u2 u3 o hx kc (fun e he => kq _ he e rfl)) mFU v e h ke0
set_option maxRecDepth 20000 in
theorem T_X9_added5 (D : Nat) (t : mTX) (s : mSG) (o : Int32 × mSG) (h : X9_added5 s = some o) : Runs (D + 7) 151 [.ref 56] s (LAY t) (some (.int o.1), o.2, LAY t) := by
  refine Runs_mk (d := D + 6) rfl ?_
  show Ex (Runs (D + 6)) cd_X9_added5 (some (.int o.1), o.2, LAY t) 0 [some (.ref 56), none, none, none] [] s (LAY t)
  unfold X9_added5 at h
  obtain ⟨r1, hr, h⟩ := m_bind h
  refine Ex_call 2 (fun _ => rfl) (T_X9_term5 D t  s r1 hr) rfl rfl ?_
  refine Ex_sti 1 (fun _ => rfl) ?_
  obtain ⟨e5, hl, h⟩ := m_bind h
  refine T_X9_added5_l5 D t (some (.int o.1)) o.2   (r1.1, r1.2) _ hl (fun y0 hy0 => ?_) _ _
  · obtain ⟨e5, rfl⟩ : ∃ q, q = y0 := ⟨_, rfl⟩
    subst hy0
    intro vu0 vu2 vu3
    obtain rfl := Option.some.inj h
    exact Ex_ret 2 (fun _ => rfl) rfl

set_option maxRecDepth 20000 in
theorem T_X9_not5_j66 (D : Nat) (t : mTX) (x1 : Int32) (p0 : Int32) (s : mSG) (u2 u3 : Option Value) (o : Int32 × mSG) (h : X9_not5_j66 x1 p0 s = some o)  : Ex (Runs (D + 7)) cd_X9_not5 (some (.int o.1), o.2, LAY t) 66 [some (.ref 56), some (.int x1), u2, u3] [.int p0] s (LAY t) := by
  unfold X9_not5_j66 at h
  obtain ⟨r5, hr, h⟩ := m_bind h
  refine Ex_call 3 (fun _ => rfl) (T_X9_next (D + 5) t  s r5 hr) rfl rfl ?_
  obtain ⟨r6, hr, h⟩ := m_bind h
  refine Ex_call 2 (fun _ => rfl) (T_X9_added5 D t  r5 r6 hr) rfl rfl ?_
  refine Ex_br 3 (p0 = 0) (fun _ => rfl) (fun hc7 => ?_) (fun hc7 => ?_)
  · rw [if_pos hc7] at h
    refine Ex_br 3 (x1 = r6.1) (fun _ => rfl) (fun hc8 => ?_) (fun hc8 => ?_)
    · rw [if_pos hc8] at h
      obtain rfl := Option.some.inj h
      exact Ex_ret 3 (fun _ => rfl) rfl
    · rw [if_neg hc8] at h
      obtain rfl := Option.some.inj h
      exact Ex_ret 2 (fun _ => rfl) rfl
  · rw [if_neg hc7] at h
    refine Ex_br 3 (r6.1 ≤ x1) (fun _ => rfl) (fun hc9 => ?_) (fun hc9 => ?_)
    · rw [if_pos hc9] at h
      obtain rfl := Option.some.inj h
      exact Ex_ret 2 (fun _ => rfl) rfl
    · rw [if_neg hc9] at h
      obtain rfl := Option.some.inj h
      exact Ex_ret 4 (fun _ => rfl) rfl

set_option maxRecDepth 20000 in
theorem T_X9_not5_j50 (D : Nat) (t : mTX) (x1 : Int32) (s : mSG) (u2 u3 : Option Value) (o : Int32 × mSG) (h : X9_not5_j50 x1 s = some o)  : Ex (Runs (D + 7)) cd_X9_not5 (some (.int o.1), o.2, LAY t) 50 [some (.ref 56), some (.int x1), u2, u3] [] s (LAY t) := by
  unfold X9_not5_j50 at h
  refine Ex_br 5 ((lg_cmp (s.2.2 56 29) 60) = 0) (fun _ => rfl) (fun hc4 => ?_) (fun hc4 => ?_)
  · rw [if_pos hc4] at h
    refine Ex_sti 2 (fun _ => rfl) ?_
    exact T_X9_not5_j66 D t x1 1 s _ _ _ h
  · rw [if_neg hc4] at h
    refine Ex_sti 1 (fun _ => rfl) ?_
    exact T_X9_not5_j66 D t x1 0 s _ _ _ h

set_option maxRecDepth 20000 in
theorem T_X9_not5 (D : Nat) (t : mTX) (s : mSG) (o : Int32 × mSG) (h : X9_not5 s = some o) : Runs (D + 8) 152 [.ref 56] s (LAY t) (some (.int o.1), o.2, LAY t) := by
  refine Runs_mk (d := D + 7) rfl ?_
  show Ex (Runs (D + 7)) cd_X9_not5 (some (.int o.1), o.2, LAY t) 0 [some (.ref 56), none, none, none] [] s (LAY t)
  unfold X9_not5 at h
  obtain ⟨r1, hr, h⟩ := m_bind h
  refine Ex_call 10 (fun _ => rfl) (T_X9_isWord (D + 4) t 110 111 116 0 0 0 0 0 s r1 hr) rfl rfl ?_
  refine Ex_brZ 1 (r1) (fun _ => rfl) (fun hc => ?_) (fun hc => ?_)
  · rw [if_neg (m_nt hc)] at h
    obtain ⟨r2, hr, h⟩ := m_bind h
    refine Ex_call 2 (fun _ => rfl) (T_X9_added5 D t  s r2 hr) rfl rfl ?_
    refine Ex_call 4 (fun _ => rfl) (T_X9_isSign (D + 6) t 60 r2.2 _ rfl) rfl rfl ?_
    refine Ex_brZ 1 (X9_isSign 60 r2.2) (fun _ => rfl) (fun hc => ?_) (fun hc => ?_)
    · rw [if_neg (m_nt hc)] at h
      refine Ex_call 3 (fun _ => rfl) (T_X9_isSign (D + 6) t 61 r2.2 _ rfl) rfl rfl ?_
      refine Ex_brZ 1 (X9_isSign 61 r2.2) (fun _ => rfl) (fun hc => ?_) (fun hc => ?_)
      · rw [if_neg (m_nt hc)] at h
        obtain rfl := Option.some.inj h
        exact Ex_ret 2 (fun _ => rfl) rfl
      · rw [if_pos hc] at h
        exact T_X9_not5_j50 D t r2.1 r2.2 _ _ _ h
    · rw [if_pos hc] at h
      exact T_X9_not5_j50 D t r2.1 r2.2 _ _ _ h
  · rw [if_pos hc] at h
    obtain ⟨r3, hr, h⟩ := m_bind h
    refine Ex_call 2 (fun _ => rfl) (T_X9_opens (D + 4) t  s r3 hr) rfl rfl ?_
    obtain rfl := Option.some.inj h
    exact Ex_ret 3 (fun _ => rfl) rfl

set_option maxRecDepth 20000 in
theorem T_X9_both5_j45_5 (D : Nat) (t : mTX) (w : Option Value) (z : mSG) (p0 : Int32) (s : mSG) (u1 u2 : Option Value) (o : (Int32 × mSG) ⊕ Int32 × mSG) (h : X9_both5_j45_5 p0 s = some o) (kc : ∀ y : Int32 × mSG, o = .inl y → ∀ (u2 : Option Value), Ex (Runs (D + 8)) cd_X9_both5 (w, z, LAY t) 5 [some (.ref 56), some (.int y.1), u2] [] y.2 (LAY t)) (ke0 : ∀ y : Int32 × mSG, o = .inr y → ∀ (u0 u2 : Option Value), Ex (Runs (D + 8)) cd_X9_both5 (w, z, LAY t) 49 [u0, some (.int y.1), u2] [] y.2 (LAY t)) : Ex (Runs (D + 8)) cd_X9_both5 (w, z, LAY t) 45 [some (.ref 56), u1, u2] [.int p0] s (LAY t) := by
  unfold X9_both5_j45_5 at h
  refine Ex_sti 2 (fun _ => rfl) ?_
  obtain rfl := Option.some.inj h
  exact kc _ rfl _

set_option maxRecDepth 20000 in
theorem T_X9_both5_j44_5 (D : Nat) (t : mTX) (w : Option Value) (z : mSG) (s : mSG) (u1 u2 : Option Value) (o : (Int32 × mSG) ⊕ Int32 × mSG) (h : X9_both5_j44_5 s = some o) (kc : ∀ y : Int32 × mSG, o = .inl y → ∀ (u2 : Option Value), Ex (Runs (D + 8)) cd_X9_both5 (w, z, LAY t) 5 [some (.ref 56), some (.int y.1), u2] [] y.2 (LAY t)) (ke0 : ∀ y : Int32 × mSG, o = .inr y → ∀ (u0 u2 : Option Value), Ex (Runs (D + 8)) cd_X9_both5 (w, z, LAY t) 49 [u0, some (.int y.1), u2] [] y.2 (LAY t)) : Ex (Runs (D + 8)) cd_X9_both5 (w, z, LAY t) 44 [some (.ref 56), u1, u2] [] s (LAY t) := by
  unfold X9_both5_j44_5 at h
  refine Ex_sti 1 (fun _ => rfl) ?_
  exact T_X9_both5_j45_5 D t w z 0 s _ _ _ h kc ke0

set_option maxRecDepth 20000 in
theorem T_X9_both5_b5 (D : Nat) (t : mTX) (w : Option Value) (z : mSG) (x1 : Int32) (s : mSG) (u2 : Option Value) (o : (Int32 × mSG) ⊕ Int32 × mSG) (h : X9_both5_b5 x1 s = some o) (kc : ∀ y : Int32 × mSG, o = .inl y → ∀ (u2 : Option Value), Ex (Runs (D + 8)) cd_X9_both5 (w, z, LAY t) 5 [some (.ref 56), some (.int y.1), u2] [] y.2 (LAY t)) (ke0 : ∀ y : Int32 × mSG, o = .inr y → ∀ (u0 u2 : Option Value), Ex (Runs (D + 8)) cd_X9_both5 (w, z, LAY t) 49 [u0, some (.int y.1), u2] [] y.2 (LAY t)) : Ex (Runs (D + 8)) cd_X9_both5 (w, z, LAY t) 5 [some (.ref 56), some (.int x1), u2] [] s (LAY t) := by
  unfold X9_both5_b5 at h
  obtain ⟨r2, hr, h⟩ := m_bind h
  refine Ex_call 10 (fun _ => rfl) (T_X9_isWord (D + 5) t 97 110 100 0 0 0 0 0 s r2 hr) rfl rfl ?_
  refine Ex_brZ 1 (r2) (fun _ => rfl) (fun hc => ?_) (fun hc => ?_)
  · rw [if_neg (m_nt hc)] at h
    obtain rfl := Option.some.inj h
    exact ke0 _ rfl _ _
  · rw [if_pos hc] at h
    obtain ⟨r3, hr, h⟩ := m_bind h
    refine Ex_call 2 (fun _ => rfl) (T_X9_next (D + 6) t  s r3 hr) rfl rfl ?_
    obtain ⟨r4, hr, h⟩ := m_bind h
    refine Ex_call 2 (fun _ => rfl) (T_X9_not5 D t  r3 r4 hr) rfl rfl ?_
    refine Ex_br 3 (x1 = 0) (fun _ => rfl) (fun hc5 => ?_) (fun hc5 => ?_)
    · rw [if_pos hc5] at h
      exact T_X9_both5_j44_5 D t w z  r4.2 _ _ _ h kc ke0
    · rw [if_neg hc5] at h
      refine Ex_br 2 (r4.1 = 0) (fun _ => rfl) (fun hc6 => ?_) (fun hc6 => ?_)
      · rw [if_pos hc6] at h
        exact T_X9_both5_j44_5 D t w z  r4.2 _ _ _ h kc ke0
      · rw [if_neg hc6] at h
        refine Ex_sti 2 (fun _ => rfl) ?_
        exact T_X9_both5_j45_5 D t w z 1 r4.2 _ _ _ h kc ke0

theorem T_X9_both5_l5 (D : Nat) (t : mTX) (w : Option Value) (z : mSG) (v : Int32 × mSG) (e : Int32 × mSG) (h : X9_both5_l5 v = some e) (ke0 : ∀ y : Int32 × mSG, e = y → ∀ (u0 u2 : Option Value), Ex (Runs (D + 8)) cd_X9_both5 (w, z, LAY t) 49 [u0, some (.int y.1), u2] [] y.2 (LAY t)) : ∀ (u2 : Option Value), Ex (Runs (D + 8)) cd_X9_both5 (w, z, LAY t) 5 [some (.ref 56), some (.int v.1), u2] [] v.2 (LAY t) :=
  m_iter (P := fun v : Int32 × mSG => ∀ (u2 : Option Value), Ex (Runs (D + 8)) cd_X9_both5 (w, z, LAY t) 5 [some (.ref 56), some (.int v.1), u2] [] v.2 (LAY t)) (Q := fun e : Int32 × mSG => (∀ y : Int32 × mSG, e = y → ∀ (u0 u2 : Option Value), Ex (Runs (D + 8)) cd_X9_both5 (w, z, LAY t) 49 [u0, some (.int y.1), u2] [] y.2 (LAY t))) (fun x o hx kc kq u2 => T_X9_both5_b5 D t w z  x.1 x.2 u2 o hx kc (fun e he => kq _ he e rfl)) mFU v e h ke0
set_option maxRecDepth 20000 in
theorem T_X9_both5 (D : Nat) (t : mTX) (s : mSG) (o : Int32 × mSG) (h : X9_both5 s = some o) : Runs (D + 9) 153 [.ref 56] s (LAY t) (some (.int o.1), o.2, LAY t) := by
  refine Runs_mk (d := D + 8) rfl ?_
  show Ex (Runs (D + 8)) cd_X9_both5 (some (.int o.1), o.2, LAY t) 0 [some (.ref 56), none, none] [] s (LAY t)
  unfold X9_both5 at h
  obtain ⟨r1, hr, h⟩ := m_bind h
  refine Ex_call 2 (fun _ => rfl) (T_X9_not5 D t  s r1 hr) rfl rfl ?_
  refine Ex_sti 1 (fun _ => rfl) ?_
  obtain ⟨e5, hl, h⟩ := m_bind h
  refine T_X9_both5_l5 D t (some (.int o.1)) o.2   (r1.1, r1.2) _ hl (fun y0 hy0 => ?_) _
  · obtain ⟨e5, rfl⟩ : ∃ q, q = y0 := ⟨_, rfl⟩
    subst hy0
    intro vu0 vu2
    obtain rfl := Option.some.inj h
    exact Ex_ret 2 (fun _ => rfl) rfl

set_option maxRecDepth 20000 in
theorem T_X9_either5_j44_5 (D : Nat) (t : mTX) (w : Option Value) (z : mSG) (p0 : Int32) (s : mSG) (u1 u2 : Option Value) (o : (Int32 × mSG) ⊕ Int32 × mSG) (h : X9_either5_j44_5 p0 s = some o) (kc : ∀ y : Int32 × mSG, o = .inl y → ∀ (u2 : Option Value), Ex (Runs (D + 9)) cd_X9_either5 (w, z, LAY t) 5 [some (.ref 56), some (.int y.1), u2] [] y.2 (LAY t)) (ke0 : ∀ y : Int32 × mSG, o = .inr y → ∀ (u0 u2 : Option Value), Ex (Runs (D + 9)) cd_X9_either5 (w, z, LAY t) 48 [u0, some (.int y.1), u2] [] y.2 (LAY t)) : Ex (Runs (D + 9)) cd_X9_either5 (w, z, LAY t) 44 [some (.ref 56), u1, u2] [.int p0] s (LAY t) := by
  unfold X9_either5_j44_5 at h
  refine Ex_sti 2 (fun _ => rfl) ?_
  obtain rfl := Option.some.inj h
  exact kc _ rfl _

set_option maxRecDepth 20000 in
theorem T_X9_either5_j39_5 (D : Nat) (t : mTX) (w : Option Value) (z : mSG) (s : mSG) (u1 u2 : Option Value) (o : (Int32 × mSG) ⊕ Int32 × mSG) (h : X9_either5_j39_5 s = some o) (kc : ∀ y : Int32 × mSG, o = .inl y → ∀ (u2 : Option Value), Ex (Runs (D + 9)) cd_X9_either5 (w, z, LAY t) 5 [some (.ref 56), some (.int y.1), u2] [] y.2 (LAY t)) (ke0 : ∀ y : Int32 × mSG, o = .inr y → ∀ (u0 u2 : Option Value), Ex (Runs (D + 9)) cd_X9_either5 (w, z, LAY t) 48 [u0, some (.int y.1), u2] [] y.2 (LAY t)) : Ex (Runs (D + 9)) cd_X9_either5 (w, z, LAY t) 39 [some (.ref 56), u1, u2] [] s (LAY t) := by
  unfold X9_either5_j39_5 at h
  refine Ex_sti 2 (fun _ => rfl) ?_
  exact T_X9_either5_j44_5 D t w z 1 s _ _ _ h kc ke0

set_option maxRecDepth 20000 in
theorem T_X9_either5_b5 (D : Nat) (t : mTX) (w : Option Value) (z : mSG) (x1 : Int32) (s : mSG) (u2 : Option Value) (o : (Int32 × mSG) ⊕ Int32 × mSG) (h : X9_either5_b5 x1 s = some o) (kc : ∀ y : Int32 × mSG, o = .inl y → ∀ (u2 : Option Value), Ex (Runs (D + 9)) cd_X9_either5 (w, z, LAY t) 5 [some (.ref 56), some (.int y.1), u2] [] y.2 (LAY t)) (ke0 : ∀ y : Int32 × mSG, o = .inr y → ∀ (u0 u2 : Option Value), Ex (Runs (D + 9)) cd_X9_either5 (w, z, LAY t) 48 [u0, some (.int y.1), u2] [] y.2 (LAY t)) : Ex (Runs (D + 9)) cd_X9_either5 (w, z, LAY t) 5 [some (.ref 56), some (.int x1), u2] [] s (LAY t) := by
  unfold X9_either5_b5 at h
  obtain ⟨r2, hr, h⟩ := m_bind h
  refine Ex_call 10 (fun _ => rfl) (T_X9_isWord (D + 6) t 111 114 0 0 0 0 0 0 s r2 hr) rfl rfl ?_
  refine Ex_brZ 1 (r2) (fun _ => rfl) (fun hc => ?_) (fun hc => ?_)
  · rw [if_neg (m_nt hc)] at h
    obtain rfl := Option.some.inj h
    exact ke0 _ rfl _ _
  · rw [if_pos hc] at h
    obtain ⟨r3, hr, h⟩ := m_bind h
    refine Ex_call 2 (fun _ => rfl) (T_X9_next (D + 7) t  s r3 hr) rfl rfl ?_
    obtain ⟨r4, hr, h⟩ := m_bind h
    refine Ex_call 2 (fun _ => rfl) (T_X9_both5 D t  r3 r4 hr) rfl rfl ?_
    refine Ex_br 3 (x1 = 0) (fun _ => rfl) (fun hc5 => ?_) (fun hc5 => ?_)
    · rw [if_pos hc5] at h
      refine Ex_br 2 (r4.1 = 0) (fun _ => rfl) (fun hc6 => ?_) (fun hc6 => ?_)
      · rw [if_pos hc6] at h
        refine Ex_sti 1 (fun _ => rfl) ?_
        exact T_X9_either5_j44_5 D t w z 0 r4.2 _ _ _ h kc ke0
      · rw [if_neg hc6] at h
        exact T_X9_either5_j39_5 D t w z  r4.2 _ _ _ h kc ke0
    · rw [if_neg hc5] at h
      exact T_X9_either5_j39_5 D t w z  r4.2 _ _ _ h kc ke0

theorem T_X9_either5_l5 (D : Nat) (t : mTX) (w : Option Value) (z : mSG) (v : Int32 × mSG) (e : Int32 × mSG) (h : X9_either5_l5 v = some e) (ke0 : ∀ y : Int32 × mSG, e = y → ∀ (u0 u2 : Option Value), Ex (Runs (D + 9)) cd_X9_either5 (w, z, LAY t) 48 [u0, some (.int y.1), u2] [] y.2 (LAY t)) : ∀ (u2 : Option Value), Ex (Runs (D + 9)) cd_X9_either5 (w, z, LAY t) 5 [some (.ref 56), some (.int v.1), u2] [] v.2 (LAY t) :=
  m_iter (P := fun v : Int32 × mSG => ∀ (u2 : Option Value), Ex (Runs (D + 9)) cd_X9_either5 (w, z, LAY t) 5 [some (.ref 56), some (.int v.1), u2] [] v.2 (LAY t)) (Q := fun e : Int32 × mSG => (∀ y : Int32 × mSG, e = y → ∀ (u0 u2 : Option Value), Ex (Runs (D + 9)) cd_X9_either5 (w, z, LAY t) 48 [u0, some (.int y.1), u2] [] y.2 (LAY t))) (fun x o hx kc kq u2 => T_X9_either5_b5 D t w z  x.1 x.2 u2 o hx kc (fun e he => kq _ he e rfl)) mFU v e h ke0
set_option maxRecDepth 20000 in
theorem T_X9_either5 (D : Nat) (t : mTX) (s : mSG) (o : Int32 × mSG) (h : X9_either5 s = some o) : Runs (D + 10) 154 [.ref 56] s (LAY t) (some (.int o.1), o.2, LAY t) := by
  refine Runs_mk (d := D + 9) rfl ?_
  show Ex (Runs (D + 9)) cd_X9_either5 (some (.int o.1), o.2, LAY t) 0 [some (.ref 56), none, none] [] s (LAY t)
  unfold X9_either5 at h
  obtain ⟨r1, hr, h⟩ := m_bind h
  refine Ex_call 2 (fun _ => rfl) (T_X9_both5 D t  s r1 hr) rfl rfl ?_
  refine Ex_sti 1 (fun _ => rfl) ?_
  obtain ⟨e5, hl, h⟩ := m_bind h
  refine T_X9_either5_l5 D t (some (.int o.1)) o.2   (r1.1, r1.2) _ hl (fun y0 hy0 => ?_) _
  · obtain ⟨e5, rfl⟩ : ∃ q, q = y0 := ⟨_, rfl⟩
    subst hy0
    intro vu0 vu2
    obtain rfl := Option.some.inj h
    exact Ex_ret 2 (fun _ => rfl) rfl

set_option maxRecDepth 20000 in
theorem T_X9_atom4_j71 (D : Nat) (t : mTX) (x1 : Int32) (s : mSG) (o : Int32 × mSG) (h : X9_atom4_j71 x1 s = some o)  : Ex (Runs (D + 10)) cd_X9_atom4 (some (.int o.1), o.2, LAY t) 71 [some (.ref 56), some (.int x1)] [] s (LAY t) := by
  unfold X9_atom4_j71 at h
  refine Ex_br 9 ((s.1 56 31) = 0) (fun _ => rfl) (fun hc9 => ?_) (fun hc9 => ?_)
  · rw [if_pos hc9] at h
    obtain ⟨r10, hr, h⟩ := m_bind h
    refine Ex_call 2 (fun _ => rfl) (T_X9_next (D + 8) t  (sI s 56 30 ((s.1 56 30) - 1)) r10 hr) rfl rfl ?_
    obtain rfl := Option.some.inj h
    exact Ex_ret 3 (fun _ => rfl) rfl
  · rw [if_neg hc9] at h
    obtain rfl := Option.some.inj h
    exact Ex_ret 2 (fun _ => rfl) rfl

set_option maxRecDepth 20000 in
theorem T_X9_atom4_j157 (D : Nat) (t : mTX) (x1 : Int32) (s : mSG) (o : Int32 × mSG) (h : X9_atom4_j157 x1 s = some o)  : Ex (Runs (D + 10)) cd_X9_atom4 (some (.int o.1), o.2, LAY t) 157 [some (.ref 56), some (.int x1)] [] s (LAY t) := by
  unfold X9_atom4_j157 at h
  obtain ⟨r16, hr, h⟩ := m_bind h
  refine Ex_call 2 (fun _ => rfl) (T_X9_fail (D + 9) t  s r16 hr) rfl rfl ?_
  obtain rfl := Option.some.inj h
  exact Ex_ret 2 (fun _ => rfl) rfl

set_option maxRecDepth 20000 in
theorem T_X9_atom4_j123 (D : Nat) (t : mTX) (x1 : Int32) (s : mSG) (o : Int32 × mSG) (h : X9_atom4_j123 x1 s = some o)  : Ex (Runs (D + 10)) cd_X9_atom4 (some (.int o.1), o.2, LAY t) 123 [some (.ref 56), some (.int x1)] [] s (LAY t) := by
  unfold X9_atom4_j123 at h
  refine Ex_br 3 ((s.1 56 31) = 0) (fun _ => rfl) (fun hc11 => ?_) (fun hc11 => ?_)
  · rw [if_pos hc11] at h
    refine Ex_br 4 ((s.1 56 27) = 1) (fun _ => rfl) (fun hc12 => ?_) (fun hc12 => ?_)
    · rw [if_pos hc12] at h
      obtain ⟨r13, hr, h⟩ := m_bind h
      refine Ex_call 2 (fun _ => rfl) (T_X9_name (D + 6) t  s r13 hr) rfl rfl ?_
      refine Ex_br 4 ((r13.2.1 56 31) = 0) (fun _ => rfl) (fun hc14 => ?_) (fun hc14 => ?_)
      · rw [if_pos hc14] at h
        obtain ⟨r15, hr, h⟩ := m_bind h
        refine Ex_call 2 (fun _ => rfl) (T_X9_next (D + 8) t  r13.2 r15 hr) rfl rfl ?_
        obtain rfl := Option.some.inj h
        exact Ex_ret 3 (fun _ => rfl) rfl
      · rw [if_neg hc14] at h
        obtain rfl := Option.some.inj h
        exact Ex_ret 2 (fun _ => rfl) rfl
    · rw [if_neg hc12] at h
      exact T_X9_atom4_j157 D t x1 s  _ h
  · rw [if_neg hc11] at h
    exact T_X9_atom4_j157 D t x1 s  _ h

set_option maxRecDepth 20000 in
theorem T_X9_atom4 (D : Nat) (t : mTX) (s : mSG) (o : Int32 × mSG) (h : X9_atom4 s = some o) : Runs (D + 11) 155 [.ref 56] s (LAY t) (some (.int o.1), o.2, LAY t) := by
  refine Runs_mk (d := D + 10) rfl ?_
  show Ex (Runs (D + 10)) cd_X9_atom4 (some (.int o.1), o.2, LAY t) 0 [some (.ref 56), none] [] s (LAY t)
  unfold X9_atom4 at h
  refine Ex_call 5 (fun _ => rfl) (T_X9_isSign (D + 9) t 45 s _ rfl) rfl rfl ?_
  refine Ex_brZ 1 (X9_isSign 45 s) (fun _ => rfl) (fun hc => ?_) (fun hc => ?_)
  · rw [if_neg (m_nt hc)] at h
    refine Ex_call 3 (fun _ => rfl) (T_X9_isSign (D + 9) t 40 s _ rfl) rfl rfl ?_
    refine Ex_brZ 1 (X9_isSign 40 s) (fun _ => rfl) (fun hc => ?_) (fun hc => ?_)
    · rw [if_neg (m_nt hc)] at h
      refine Ex_br 3 ((s.1 56 31) = 0) (fun _ => rfl) (fun hc1 => ?_) (fun hc1 => ?_)
      · rw [if_pos hc1] at h
        refine Ex_br 4 ((s.1 56 27) = 2) (fun _ => rfl) (fun hc2 => ?_) (fun hc2 => ?_)
        · rw [if_pos hc2] at h
          obtain ⟨r3, hr, h⟩ := m_bind h
          refine Ex_call 6 (fun _ => rfl) (T_X9_next (D + 8) t  s r3 hr) rfl rfl ?_
          obtain rfl := Option.some.inj h
          exact Ex_ret 3 (fun _ => rfl) rfl
        · rw [if_neg hc2] at h
          exact T_X9_atom4_j123 D t 0 s  _ h
      · rw [if_neg hc1] at h
        exact T_X9_atom4_j123 D t 0 s  _ h
    · rw [if_pos hc] at h
      obtain ⟨r4, hr, h⟩ := m_bind h
      refine Ex_call 2 (fun _ => rfl) (T_X9_opens (D + 7) t  s r4 hr) rfl rfl ?_
      refine Ex_brZ 1 (r4.1) (fun _ => rfl) (fun hc => ?_) (fun hc => ?_)
      · rw [if_neg (m_nt hc)] at h
        obtain rfl := Option.some.inj h
        exact Ex_ret 2 (fun _ => rfl) rfl
      · rw [if_pos hc] at h
        obtain ⟨r5, hr, h⟩ := m_bind h
        refine Ex_call 2 (fun _ => rfl) (T_X9_either5 D t  r4.2 r5 hr) rfl rfl ?_
        refine Ex_call 4 (fun _ => rfl) (T_X9_isSign (D + 9) t 41 r5.2 _ rfl) rfl rfl ?_
        refine Ex_brZ 1 (X9_isSign 41 r5.2) (fun _ => rfl) (fun hc => ?_) (fun hc => ?_)
        · rw [if_neg (m_nt hc)] at h
          obtain ⟨r6, hr, h⟩ := m_bind h
          refine Ex_call 2 (fun _ => rfl) (T_X9_fail (D + 9) t  r5.2 r6 hr) rfl rfl ?_
          exact T_X9_atom4_j71 D t r5.1 r6  _ h
        · rw [if_pos hc] at h
          exact T_X9_atom4_j71 D t r5.1 r5.2  _ h
  · rw [if_pos hc] at h
    obtain ⟨r7, hr, h⟩ := m_bind h
    refine Ex_call 2 (fun _ => rfl) (T_X9_opens (D + 7) t  s r7 hr) rfl rfl ?_
    refine Ex_brZ 1 (r7.1) (fun _ => rfl) (fun hc => ?_) (fun hc => ?_)
    · rw [if_neg (m_nt hc)] at h
      obtain rfl := Option.some.inj h
      exact Ex_ret 2 (fun _ => rfl) rfl
    · rw [if_pos hc] at h
      obtain ⟨r8, hr, h⟩ := m_bind h
      refine Ex_call 2 (fun _ => rfl) (T_X9_atom5 (D + 5) t  r7.2 r8 hr) rfl rfl ?_
      obtain rfl := Option.some.inj h
      exact Ex_ret 11 (fun _ => rfl) rfl

set_option maxRecDepth 20000 in
theorem T_X9_term4_b5 (D : Nat) (t : mTX) (w : Option Value) (z : mSG) (x1 : Int32) (s : mSG) (o : (Int32 × mSG) ⊕ Int32 × mSG) (h : X9_term4_b5 x1 s = some o) (kc : ∀ y : Int32 × mSG, o = .inl y → Ex (Runs (D + 11)) cd_X9_term4 (w, z, LAY t) 5 [some (.ref 56), some (.int y.1)] [] y.2 (LAY t)) (ke0 : ∀ y : Int32 × mSG, o = .inr y → ∀ (u0 : Option Value), Ex (Runs (D + 11)) cd_X9_term4 (w, z, LAY t) 28 [u0, some (.int y.1)] [] y.2 (LAY t)) : Ex (Runs (D + 11)) cd_X9_term4 (w, z, LAY t) 5 [some (.ref 56), some (.int x1)] [] s (LAY t) := by
  unfold X9_term4_b5 at h
  refine Ex_call 3 (fun _ => rfl) (T_X9_isSign (D + 10) t 42 s _ rfl) rfl rfl ?_
  refine Ex_brZ 1 (X9_isSign 42 s) (fun _ => rfl) (fun hc => ?_) (fun hc => ?_)
  · rw [if_neg (m_nt hc)] at h
    obtain rfl := Option.some.inj h
    exact ke0 _ rfl _
  · rw [if_pos hc] at h
    obtain ⟨r2, hr, h⟩ := m_bind h
    refine Ex_call 2 (fun _ => rfl) (T_X9_next (D + 9) t  s r2 hr) rfl rfl ?_
    obtain ⟨r3, hr, h⟩ := m_bind h
    refine Ex_call 3 (fun _ => rfl) (T_X9_atom4 D t  r2 r3 hr) rfl rfl ?_
    refine Ex_sti 3 (fun _ => rfl) ?_
    obtain rfl := Option.some.inj h
    exact kc _ rfl 

theorem T_X9_term4_l5 (D : Nat) (t : mTX) (w : Option Value) (z : mSG) (v : Int32 × mSG) (e : Int32 × mSG) (h : X9_term4_l5 v = some e) (ke0 : ∀ y : Int32 × mSG, e = y → ∀ (u0 : Option Value), Ex (Runs (D + 11)) cd_X9_term4 (w, z, LAY t) 28 [u0, some (.int y.1)] [] y.2 (LAY t)) : Ex (Runs (D + 11)) cd_X9_term4 (w, z, LAY t) 5 [some (.ref 56), some (.int v.1)] [] v.2 (LAY t) :=
  m_iter (P := fun v : Int32 × mSG => Ex (Runs (D + 11)) cd_X9_term4 (w, z, LAY t) 5 [some (.ref 56), some (.int v.1)] [] v.2 (LAY t)) (Q := fun e : Int32 × mSG => (∀ y : Int32 × mSG, e = y → ∀ (u0 : Option Value), Ex (Runs (D + 11)) cd_X9_term4 (w, z, LAY t) 28 [u0, some (.int y.1)] [] y.2 (LAY t))) (fun x o hx kc kq  => T_X9_term4_b5 D t w z  x.1 x.2  o hx kc (fun e he => kq _ he e rfl)) mFU v e h ke0
set_option maxRecDepth 20000 in
theorem T_X9_term4 (D : Nat) (t : mTX) (s : mSG) (o : Int32 × mSG) (h : X9_term4 s = some o) : Runs (D + 12) 156 [.ref 56] s (LAY t) (some (.int o.1), o.2, LAY t) := by
  refine Runs_mk (d := D + 11) rfl ?_
  show Ex (Runs (D + 11)) cd_X9_term4 (some (.int o.1), o.2, LAY t) 0 [some (.ref 56), none] [] s (LAY t)
  unfold X9_term4 at h
  obtain ⟨r1, hr, h⟩ := m_bind h
  refine Ex_call 2 (fun _ => rfl) (T_X9_atom4 D t  s r1 hr) rfl rfl ?_
  refine Ex_sti 1 (fun _ => rfl) ?_
  obtain ⟨e5, hl, h⟩ := m_bind h
  refine T_X9_term4_l5 D t (some (.int o.1)) o.2   (r1.1, r1.2) _ hl (fun y0 hy0 => ?_) 
  · obtain ⟨e5, rfl⟩ : ∃ q, q = y0 := ⟨_, rfl⟩
    subst hy0
    intro vu0
    obtain rfl := Option.some.inj h
    exact Ex_ret 2 (fun _ => rfl) rfl

set_option maxRecDepth 20000 in
theorem T_X9_added4_j62_5 (D : Nat) (t : mTX) (w : Option Value) (z : mSG) (p0 : Int32) (s : mSG) (u1 u2 u3 : Option Value) (o : (Int32 × mSG) ⊕ Int32 × mSG) (h : X9_added4_j62_5 p0 s = some o) (kc : ∀ y : Int32 × mSG, o = .inl y → ∀ (u2 u3 : Option Value), Ex (Runs (D + 12)) cd_X9_added4 (w, z, LAY t) 5 [some (.ref 56), some (.int y.1), u2, u3] [] y.2 (LAY t)) (ke0 : ∀ y : Int32 × mSG, o = .inr y → ∀ (u0 u2 u3 : Option Value), Ex (Runs (D + 12)) cd_X9_added4 (w, z, LAY t) 66 [u0, some (.int y.1), u2, u3] [] y.2 (LAY t)) : Ex (Runs (D + 12)) cd_X9_added4 (w, z, LAY t) 62 [some (.ref 56), u1, u2, u3] [.int p0] s (LAY t) := by
  unfold X9_added4_j62_5 at h
  refine Ex_sti 2 (fun _ => rfl) ?_
  obtain rfl := Option.some.inj h
  exact kc _ rfl _ _

set_option maxRecDepth 20000 in
theorem T_X9_added4_j39_5 (D : Nat) (t : mTX) (w : Option Value) (z : mSG) (x1 : Int32) (p0 : Int32) (s : mSG) (u2 u3 : Option Value) (o : (Int32 × mSG) ⊕ Int32 × mSG) (h : X9_added4_j39_5 x1 p0 s = some o) (kc : ∀ y : Int32 × mSG, o = .inl y → ∀ (u2 u3 : Option Value), Ex (Runs (D + 12)) cd_X9_added4 (w, z, LAY t) 5 [some (.ref 56), some (.int y.1), u2, u3] [] y.2 (LAY t)) (ke0 : ∀ y : Int32 × mSG, o = .inr y → ∀ (u0 u2 u3 : Option Value), Ex (Runs (D + 12)) cd_X9_added4 (w, z, LAY t) 66 [u0, some (.int y.1), u2, u3] [] y.2 (LAY t)) : Ex (Runs (D + 12)) cd_X9_added4 (w, z, LAY t) 39 [some (.ref 56), some (.int x1), u2, u3] [.int p0] s (LAY t) := by
  unfold X9_added4_j39_5 at h
  obtain ⟨r3, hr, h⟩ := m_bind h
  refine Ex_call 3 (fun _ => rfl) (T_X9_next (D + 10) t  s r3 hr) rfl rfl ?_
  obtain ⟨r4, hr, h⟩ := m_bind h
  refine Ex_call 2 (fun _ => rfl) (T_X9_term4 D t  r3 r4 hr) rfl rfl ?_
  refine Ex_br 3 (p0 = 0) (fun _ => rfl) (fun hc5 => ?_) (fun hc5 => ?_)
  · rw [if_pos hc5] at h
    refine Ex_sti 3 (fun _ => rfl) ?_
    exact T_X9_added4_j62_5 D t w z (x1 - r4.1) r4.2 _ _ _ _ h kc ke0
  · rw [if_neg hc5] at h
    refine Ex_sti 4 (fun _ => rfl) ?_
    exact T_X9_added4_j62_5 D t w z (x1 + r4.1) r4.2 _ _ _ _ h kc ke0

set_option maxRecDepth 20000 in
theorem T_X9_added4_j23_5 (D : Nat) (t : mTX) (w : Option Value) (z : mSG) (x1 : Int32) (s : mSG) (u2 u3 : Option Value) (o : (Int32 × mSG) ⊕ Int32 × mSG) (h : X9_added4_j23_5 x1 s = some o) (kc : ∀ y : Int32 × mSG, o = .inl y → ∀ (u2 u3 : Option Value), Ex (Runs (D + 12)) cd_X9_added4 (w, z, LAY t) 5 [some (.ref 56), some (.int y.1), u2, u3] [] y.2 (LAY t)) (ke0 : ∀ y : Int32 × mSG, o = .inr y → ∀ (u0 u2 u3 : Option Value), Ex (Runs (D + 12)) cd_X9_added4 (w, z, LAY t) 66 [u0, some (.int y.1), u2, u3] [] y.2 (LAY t)) : Ex (Runs (D + 12)) cd_X9_added4 (w, z, LAY t) 23 [some (.ref 56), some (.int x1), u2, u3] [] s (LAY t) := by
  unfold X9_added4_j23_5 at h
  refine Ex_br 5 ((lg_cmp (s.2.2 56 29) 43) = 0) (fun _ => rfl) (fun hc2 => ?_) (fun hc2 => ?_)
  · rw [if_pos hc2] at h
    refine Ex_sti 2 (fun _ => rfl) ?_
    exact T_X9_added4_j39_5 D t w z x1 1 s _ _ _ h kc ke0
  · rw [if_neg hc2] at h
    refine Ex_sti 1 (fun _ => rfl) ?_
    exact T_X9_added4_j39_5 D t w z x1 0 s _ _ _ h kc ke0

set_option maxRecDepth 20000 in
theorem T_X9_added4_b5 (D : Nat) (t : mTX) (w : Option Value) (z : mSG) (x1 : Int32) (s : mSG) (u2 u3 : Option Value) (o : (Int32 × mSG) ⊕ Int32 × mSG) (h : X9_added4_b5 x1 s = some o) (kc : ∀ y : Int32 × mSG, o = .inl y → ∀ (u2 u3 : Option Value), Ex (Runs (D + 12)) cd_X9_added4 (w, z, LAY t) 5 [some (.ref 56), some (.int y.1), u2, u3] [] y.2 (LAY t)) (ke0 : ∀ y : Int32 × mSG, o = .inr y → ∀ (u0 u2 u3 : Option Value), Ex (Runs (D + 12)) cd_X9_added4 (w, z, LAY t) 66 [u0, some (.int y.1), u2, u3] [] y.2 (LAY t)) : Ex (Runs (D + 12)) cd_X9_added4 (w, z, LAY t) 5 [some (.ref 56), some (.int x1), u2, u3] [] s (LAY t) := by
  unfold X9_added4_b5 at h
  refine Ex_call 3 (fun _ => rfl) (T_X9_isSign (D + 11) t 43 s _ rfl) rfl rfl ?_
  refine Ex_brZ 1 (X9_isSign 43 s) (fun _ => rfl) (fun hc => ?_) (fun hc => ?_)
  · rw [if_neg (m_nt hc)] at h
    refine Ex_call 3 (fun _ => rfl) (T_X9_isSign (D + 11) t 45 s _ rfl) rfl rfl ?_
    refine Ex_brZ 1 (X9_isSign 45 s) (fun _ => rfl) (fun hc => ?_) (fun hc => ?_)
    · rw [if_neg (m_nt hc)] at h
      obtain rfl := Option.some.inj h
      exact ke0 _ rfl _ _ _
    · rw [if_pos hc] at h
      exact T_X9_added4_j23_5 D t w z x1 s _ _ _ h kc ke0
  · rw [if_pos hc] at h
    exact T_X9_added4_j23_5 D t w z x1 s _ _ _ h kc ke0

theorem T_X9_added4_l5 (D : Nat) (t : mTX) (w : Option Value) (z : mSG) (v : Int32 × mSG) (e : Int32 × mSG) (h : X9_added4_l5 v = some e) (ke0 : ∀ y : Int32 × mSG, e = y → ∀ (u0 u2 u3 : Option Value), Ex (Runs (D + 12)) cd_X9_added4 (w, z, LAY t) 66 [u0, some (.int y.1), u2, u3] [] y.2 (LAY t)) : ∀ (u2 u3 : Option Value), Ex (Runs (D + 12)) cd_X9_added4 (w, z, LAY t) 5 [some (.ref 56), some (.int v.1), u2, u3] [] v.2 (LAY t) :=
  m_iter (P := fun v : Int32 × mSG => ∀ (u2 u3 : Option Value), Ex (Runs (D + 12)) cd_X9_added4 (w, z, LAY t) 5 [some (.ref 56), some (.int v.1), u2, u3] [] v.2 (LAY t)) (Q := fun e : Int32 × mSG => (∀ y : Int32 × mSG, e = y → ∀ (u0 u2 u3 : Option Value), Ex (Runs (D + 12)) cd_X9_added4 (w, z, LAY t) 66 [u0, some (.int y.1), u2, u3] [] y.2 (LAY t))) (fun x o hx kc kq u2 u3 => T_X9_added4_b5 D t w z  x.1 x.2 u2 u3 o hx kc (fun e he => kq _ he e rfl)) mFU v e h ke0
set_option maxRecDepth 20000 in
theorem T_X9_added4 (D : Nat) (t : mTX) (s : mSG) (o : Int32 × mSG) (h : X9_added4 s = some o) : Runs (D + 13) 157 [.ref 56] s (LAY t) (some (.int o.1), o.2, LAY t) := by
  refine Runs_mk (d := D + 12) rfl ?_
  show Ex (Runs (D + 12)) cd_X9_added4 (some (.int o.1), o.2, LAY t) 0 [some (.ref 56), none, none, none] [] s (LAY t)
  unfold X9_added4 at h
  obtain ⟨r1, hr, h⟩ := m_bind h
  refine Ex_call 2 (fun _ => rfl) (T_X9_term4 D t  s r1 hr) rfl rfl ?_
  refine Ex_sti 1 (fun _ => rfl) ?_
  obtain ⟨e5, hl, h⟩ := m_bind h
  refine T_X9_added4_l5 D t (some (.int o.1)) o.2   (r1.1, r1.2) _ hl (fun y0 hy0 => ?_) _ _
  · obtain ⟨e5, rfl⟩ : ∃ q, q = y0 := ⟨_, rfl⟩
    subst hy0
    intro vu0 vu2 vu3
    obtain rfl := Option.some.inj h
    exact Ex_ret 2 (fun _ => rfl) rfl

set_option maxRecDepth 20000 in
theorem T_X9_not4_j93 (D : Nat) (t : mTX) (x1 : Int32) (p0 : Int32) (s : mSG) (u2 u3 : Option Value) (o : Int32 × mSG) (h : X9_not4_j93 x1 p0 s = some o)  : Ex (Runs (D + 13)) cd_X9_not4 (some (.int o.1), o.2, LAY t) 93 [some (.ref 56), some (.int x1), u2, u3] [.int p0] s (LAY t) := by
  unfold X9_not4_j93 at h
  obtain ⟨r7, hr, h⟩ := m_bind h
  refine Ex_call 3 (fun _ => rfl) (T_X9_next (D + 11) t  s r7 hr) rfl rfl ?_
  obtain ⟨r8, hr, h⟩ := m_bind h
  refine Ex_call 2 (fun _ => rfl) (T_X9_added4 D t  r7 r8 hr) rfl rfl ?_
  refine Ex_br 3 (p0 = 0) (fun _ => rfl) (fun hc9 => ?_) (fun hc9 => ?_)
  · rw [if_pos hc9] at h
    refine Ex_br 3 (x1 = r8.1) (fun _ => rfl) (fun hc10 => ?_) (fun hc10 => ?_)
    · rw [if_pos hc10] at h
      obtain rfl := Option.some.inj h
      exact Ex_ret 3 (fun _ => rfl) rfl
    · rw [if_neg hc10] at h
      obtain rfl := Option.some.inj h
      exact Ex_ret 2 (fun _ => rfl) rfl
  · rw [if_neg hc9] at h
    refine Ex_br 3 (r8.1 ≤ x1) (fun _ => rfl) (fun hc11 => ?_) (fun hc11 => ?_)
    · rw [if_pos hc11] at h
      obtain rfl := Option.some.inj h
      exact Ex_ret 2 (fun _ => rfl) rfl
    · rw [if_neg hc11] at h
      obtain rfl := Option.some.inj h
      exact Ex_ret 4 (fun _ => rfl) rfl

set_option maxRecDepth 20000 in
theorem T_X9_not4_j77 (D : Nat) (t : mTX) (x1 : Int32) (s : mSG) (u2 u3 : Option Value) (o : Int32 × mSG) (h : X9_not4_j77 x1 s = some o)  : Ex (Runs (D + 13)) cd_X9_not4 (some (.int o.1), o.2, LAY t) 77 [some (.ref 56), some (.int x1), u2, u3] [] s (LAY t) := by
  unfold X9_not4_j77 at h
  refine Ex_br 5 ((lg_cmp (s.2.2 56 29) 60) = 0) (fun _ => rfl) (fun hc6 => ?_) (fun hc6 => ?_)
  · rw [if_pos hc6] at h
    refine Ex_sti 2 (fun _ => rfl) ?_
    exact T_X9_not4_j93 D t x1 1 s _ _ _ h
  · rw [if_neg hc6] at h
    refine Ex_sti 1 (fun _ => rfl) ?_
    exact T_X9_not4_j93 D t x1 0 s _ _ _ h

set_option maxRecDepth 20000 in
theorem T_X9_not4 (D : Nat) (t : mTX) (s : mSG) (o : Int32 × mSG) (h : X9_not4 s = some o) : Runs (D + 14) 158 [.ref 56] s (LAY t) (some (.int o.1), o.2, LAY t) := by
  refine Runs_mk (d := D + 13) rfl ?_
  show Ex (Runs (D + 13)) cd_X9_not4 (some (.int o.1), o.2, LAY t) 0 [some (.ref 56), none, none, none] [] s (LAY t)
  unfold X9_not4 at h
  obtain ⟨r1, hr, h⟩ := m_bind h
  refine Ex_call 10 (fun _ => rfl) (T_X9_isWord (D + 10) t 110 111 116 0 0 0 0 0 s r1 hr) rfl rfl ?_
  refine Ex_brZ 1 (r1) (fun _ => rfl) (fun hc => ?_) (fun hc => ?_)
  · rw [if_neg (m_nt hc)] at h
    obtain ⟨r2, hr, h⟩ := m_bind h
    refine Ex_call 2 (fun _ => rfl) (T_X9_added4 D t  s r2 hr) rfl rfl ?_
    refine Ex_call 4 (fun _ => rfl) (T_X9_isSign (D + 12) t 60 r2.2 _ rfl) rfl rfl ?_
    refine Ex_brZ 1 (X9_isSign 60 r2.2) (fun _ => rfl) (fun hc => ?_) (fun hc => ?_)
    · rw [if_neg (m_nt hc)] at h
      refine Ex_call 3 (fun _ => rfl) (T_X9_isSign (D + 12) t 61 r2.2 _ rfl) rfl rfl ?_
      refine Ex_brZ 1 (X9_isSign 61 r2.2) (fun _ => rfl) (fun hc => ?_) (fun hc => ?_)
      · rw [if_neg (m_nt hc)] at h
        obtain rfl := Option.some.inj h
        exact Ex_ret 2 (fun _ => rfl) rfl
      · rw [if_pos hc] at h
        exact T_X9_not4_j77 D t r2.1 r2.2 _ _ _ h
    · rw [if_pos hc] at h
      exact T_X9_not4_j77 D t r2.1 r2.2 _ _ _ h
  · rw [if_pos hc] at h
    obtain ⟨r3, hr, h⟩ := m_bind h
    refine Ex_call 2 (fun _ => rfl) (T_X9_opens (D + 10) t  s r3 hr) rfl rfl ?_
    refine Ex_brZ 1 (r3.1) (fun _ => rfl) (fun hc => ?_) (fun hc => ?_)
    · rw [if_neg (m_nt hc)] at h
      obtain rfl := Option.some.inj h
      exact Ex_ret 2 (fun _ => rfl) rfl
    · rw [if_pos hc] at h
      obtain ⟨r4, hr, h⟩ := m_bind h
      refine Ex_call 2 (fun _ => rfl) (T_X9_not5 (D + 5) t  r3.2 r4 hr) rfl rfl ?_
      refine Ex_br 9 (r4.1 = 0) (fun _ => rfl) (fun hc5 => ?_) (fun hc5 => ?_)
      · rw [if_pos hc5] at h
        obtain rfl := Option.some.inj h
        exact Ex_ret 3 (fun _ => rfl) rfl
      · rw [if_neg hc5] at h
        obtain rfl := Option.some.inj h
        exact Ex_ret 2 (fun _ => rfl) rfl

set_option maxRecDepth 20000 in
theorem T_X9_both4_j45_5 (D : Nat) (t : mTX) (w : Option Value) (z : mSG) (p0 : Int32) (s : mSG) (u1 u2 : Option Value) (o : (Int32 × mSG) ⊕ Int32 × mSG) (h : X9_both4_j45_5 p0 s = some o) (kc : ∀ y : Int32 × mSG, o = .inl y → ∀ (u2 : Option Value), Ex (Runs (D + 14)) cd_X9_both4 (w, z, LAY t) 5 [some (.ref 56), some (.int y.1), u2] [] y.2 (LAY t)) (ke0 : ∀ y : Int32 × mSG, o = .inr y → ∀ (u0 u2 : Option Value), Ex (Runs (D + 14)) cd_X9_both4 (w, z, LAY t) 49 [u0, some (.int y.1), u2] [] y.2 (LAY t)) : Ex (Runs (D + 14)) cd_X9_both4 (w, z, LAY t) 45 [some (.ref 56), u1, u2] [.int p0] s (LAY t) := by
  unfold X9_both4_j45_5 at h
  refine Ex_sti 2 (fun _ => rfl) ?_
  obtain rfl := Option.some.inj h
  exact kc _ rfl _

set_option maxRecDepth 20000 in
theorem T_X9_both4_j44_5 (D : Nat) (t : mTX) (w : Option Value) (z : mSG) (s : mSG) (u1 u2 : Option Value) (o : (Int32 × mSG) ⊕ Int32 × mSG) (h : X9_both4_j44_5 s = some o) (kc : ∀ y : Int32 × mSG, o = .inl y → ∀ (u2 : Option Value), Ex (Runs (D + 14)) cd_X9_both4 (w, z, LAY t) 5 [some (.ref 56), some (.int y.1), u2] [] y.2 (LAY t)) (ke0 : ∀ y : Int32 × mSG, o = .inr y → ∀ (u0 u2 : Option Value), Ex (Runs (D + 14)) cd_X9_both4 (w, z, LAY t) 49 [u0, some (.int y.1), u2] [] y.2 (LAY t)) : Ex (Runs (D + 14)) cd_X9_both4 (w, z, LAY t) 44 [some (.ref 56), u1, u2] [] s (LAY t) := by
  unfold X9_both4_j44_5 at h
  refine Ex_sti 1 (fun _ => rfl) ?_
  exact T_X9_both4_j45_5 D t w z 0 s _ _ _ h kc ke0

set_option maxRecDepth 20000 in
theorem T_X9_both4_b5 (D : Nat) (t : mTX) (w : Option Value) (z : mSG) (x1 : Int32) (s : mSG) (u2 : Option Value) (o : (Int32 × mSG) ⊕ Int32 × mSG) (h : X9_both4_b5 x1 s = some o) (kc : ∀ y : Int32 × mSG, o = .inl y → ∀ (u2 : Option Value), Ex (Runs (D + 14)) cd_X9_both4 (w, z, LAY t) 5 [some (.ref 56), some (.int y.1), u2] [] y.2 (LAY t)) (ke0 : ∀ y : Int32 × mSG, o = .inr y → ∀ (u0 u2 : Option Value), Ex (Runs (D + 14)) cd_X9_both4 (w, z, LAY t) 49 [u0, some (.int y.1), u2] [] y.2 (LAY t)) : Ex (Runs (D + 14)) cd_X9_both4 (w, z, LAY t) 5 [some (.ref 56), some (.int x1), u2] [] s (LAY t) := by
  unfold X9_both4_b5 at h
  obtain ⟨r2, hr, h⟩ := m_bind h
  refine Ex_call 10 (fun _ => rfl) (T_X9_isWord (D + 11) t 97 110 100 0 0 0 0 0 s r2 hr) rfl rfl ?_
  refine Ex_brZ 1 (r2) (fun _ => rfl) (fun hc => ?_) (fun hc => ?_)
  · rw [if_neg (m_nt hc)] at h
    obtain rfl := Option.some.inj h
    exact ke0 _ rfl _ _
  · rw [if_pos hc] at h
    obtain ⟨r3, hr, h⟩ := m_bind h
    refine Ex_call 2 (fun _ => rfl) (T_X9_next (D + 12) t  s r3 hr) rfl rfl ?_
    obtain ⟨r4, hr, h⟩ := m_bind h
    refine Ex_call 2 (fun _ => rfl) (T_X9_not4 D t  r3 r4 hr) rfl rfl ?_
    refine Ex_br 3 (x1 = 0) (fun _ => rfl) (fun hc5 => ?_) (fun hc5 => ?_)
    · rw [if_pos hc5] at h
      exact T_X9_both4_j44_5 D t w z  r4.2 _ _ _ h kc ke0
    · rw [if_neg hc5] at h
      refine Ex_br 2 (r4.1 = 0) (fun _ => rfl) (fun hc6 => ?_) (fun hc6 => ?_)
      · rw [if_pos hc6] at h
        exact T_X9_both4_j44_5 D t w z  r4.2 _ _ _ h kc ke0
      · rw [if_neg hc6] at h
        refine Ex_sti 2 (fun _ => rfl) ?_
        exact T_X9_both4_j45_5 D t w z 1 r4.2 _ _ _ h kc ke0

theorem T_X9_both4_l5 (D : Nat) (t : mTX) (w : Option Value) (z : mSG) (v : Int32 × mSG) (e : Int32 × mSG) (h : X9_both4_l5 v = some e) (ke0 : ∀ y : Int32 × mSG, e = y → ∀ (u0 u2 : Option Value), Ex (Runs (D + 14)) cd_X9_both4 (w, z, LAY t) 49 [u0, some (.int y.1), u2] [] y.2 (LAY t)) : ∀ (u2 : Option Value), Ex (Runs (D + 14)) cd_X9_both4 (w, z, LAY t) 5 [some (.ref 56), some (.int v.1), u2] [] v.2 (LAY t) :=
  m_iter (P := fun v : Int32 × mSG => ∀ (u2 : Option Value), Ex (Runs (D + 14)) cd_X9_both4 (w, z, LAY t) 5 [some (.ref 56), some (.int v.1), u2] [] v.2 (LAY t)) (Q := fun e : Int32 × mSG => (∀ y : Int32 × mSG, e = y → ∀ (u0 u2 : Option Value), Ex (Runs (D + 14)) cd_X9_both4 (w, z, LAY t) 49 [u0, some (.int y.1), u2] [] y.2 (LAY t))) (fun x o hx kc kq u2 => T_X9_both4_b5 D t w z  x.1 x.2 u2 o hx kc (fun e he => kq _ he e rfl)) mFU v e h ke0
set_option maxRecDepth 20000 in
theorem T_X9_both4 (D : Nat) (t : mTX) (s : mSG) (o : Int32 × mSG) (h : X9_both4 s = some o) : Runs (D + 15) 159 [.ref 56] s (LAY t) (some (.int o.1), o.2, LAY t) := by
  refine Runs_mk (d := D + 14) rfl ?_
  show Ex (Runs (D + 14)) cd_X9_both4 (some (.int o.1), o.2, LAY t) 0 [some (.ref 56), none, none] [] s (LAY t)
  unfold X9_both4 at h
  obtain ⟨r1, hr, h⟩ := m_bind h
  refine Ex_call 2 (fun _ => rfl) (T_X9_not4 D t  s r1 hr) rfl rfl ?_
  refine Ex_sti 1 (fun _ => rfl) ?_
  obtain ⟨e5, hl, h⟩ := m_bind h
  refine T_X9_both4_l5 D t (some (.int o.1)) o.2   (r1.1, r1.2) _ hl (fun y0 hy0 => ?_) _
  · obtain ⟨e5, rfl⟩ : ∃ q, q = y0 := ⟨_, rfl⟩
    subst hy0
    intro vu0 vu2
    obtain rfl := Option.some.inj h
    exact Ex_ret 2 (fun _ => rfl) rfl

set_option maxRecDepth 20000 in
theorem T_X9_either4_j44_5 (D : Nat) (t : mTX) (w : Option Value) (z : mSG) (p0 : Int32) (s : mSG) (u1 u2 : Option Value) (o : (Int32 × mSG) ⊕ Int32 × mSG) (h : X9_either4_j44_5 p0 s = some o) (kc : ∀ y : Int32 × mSG, o = .inl y → ∀ (u2 : Option Value), Ex (Runs (D + 15)) cd_X9_either4 (w, z, LAY t) 5 [some (.ref 56), some (.int y.1), u2] [] y.2 (LAY t)) (ke0 : ∀ y : Int32 × mSG, o = .inr y → ∀ (u0 u2 : Option Value), Ex (Runs (D + 15)) cd_X9_either4 (w, z, LAY t) 48 [u0, some (.int y.1), u2] [] y.2 (LAY t)) : Ex (Runs (D + 15)) cd_X9_either4 (w, z, LAY t) 44 [some (.ref 56), u1, u2] [.int p0] s (LAY t) := by
  unfold X9_either4_j44_5 at h
  refine Ex_sti 2 (fun _ => rfl) ?_
  obtain rfl := Option.some.inj h
  exact kc _ rfl _

set_option maxRecDepth 20000 in
theorem T_X9_either4_j39_5 (D : Nat) (t : mTX) (w : Option Value) (z : mSG) (s : mSG) (u1 u2 : Option Value) (o : (Int32 × mSG) ⊕ Int32 × mSG) (h : X9_either4_j39_5 s = some o) (kc : ∀ y : Int32 × mSG, o = .inl y → ∀ (u2 : Option Value), Ex (Runs (D + 15)) cd_X9_either4 (w, z, LAY t) 5 [some (.ref 56), some (.int y.1), u2] [] y.2 (LAY t)) (ke0 : ∀ y : Int32 × mSG, o = .inr y → ∀ (u0 u2 : Option Value), Ex (Runs (D + 15)) cd_X9_either4 (w, z, LAY t) 48 [u0, some (.int y.1), u2] [] y.2 (LAY t)) : Ex (Runs (D + 15)) cd_X9_either4 (w, z, LAY t) 39 [some (.ref 56), u1, u2] [] s (LAY t) := by
  unfold X9_either4_j39_5 at h
  refine Ex_sti 2 (fun _ => rfl) ?_
  exact T_X9_either4_j44_5 D t w z 1 s _ _ _ h kc ke0

set_option maxRecDepth 20000 in
theorem T_X9_either4_b5 (D : Nat) (t : mTX) (w : Option Value) (z : mSG) (x1 : Int32) (s : mSG) (u2 : Option Value) (o : (Int32 × mSG) ⊕ Int32 × mSG) (h : X9_either4_b5 x1 s = some o) (kc : ∀ y : Int32 × mSG, o = .inl y → ∀ (u2 : Option Value), Ex (Runs (D + 15)) cd_X9_either4 (w, z, LAY t) 5 [some (.ref 56), some (.int y.1), u2] [] y.2 (LAY t)) (ke0 : ∀ y : Int32 × mSG, o = .inr y → ∀ (u0 u2 : Option Value), Ex (Runs (D + 15)) cd_X9_either4 (w, z, LAY t) 48 [u0, some (.int y.1), u2] [] y.2 (LAY t)) : Ex (Runs (D + 15)) cd_X9_either4 (w, z, LAY t) 5 [some (.ref 56), some (.int x1), u2] [] s (LAY t) := by
  unfold X9_either4_b5 at h
  obtain ⟨r2, hr, h⟩ := m_bind h
  refine Ex_call 10 (fun _ => rfl) (T_X9_isWord (D + 12) t 111 114 0 0 0 0 0 0 s r2 hr) rfl rfl ?_
  refine Ex_brZ 1 (r2) (fun _ => rfl) (fun hc => ?_) (fun hc => ?_)
  · rw [if_neg (m_nt hc)] at h
    obtain rfl := Option.some.inj h
    exact ke0 _ rfl _ _
  · rw [if_pos hc] at h
    obtain ⟨r3, hr, h⟩ := m_bind h
    refine Ex_call 2 (fun _ => rfl) (T_X9_next (D + 13) t  s r3 hr) rfl rfl ?_
    obtain ⟨r4, hr, h⟩ := m_bind h
    refine Ex_call 2 (fun _ => rfl) (T_X9_both4 D t  r3 r4 hr) rfl rfl ?_
    refine Ex_br 3 (x1 = 0) (fun _ => rfl) (fun hc5 => ?_) (fun hc5 => ?_)
    · rw [if_pos hc5] at h
      refine Ex_br 2 (r4.1 = 0) (fun _ => rfl) (fun hc6 => ?_) (fun hc6 => ?_)
      · rw [if_pos hc6] at h
        refine Ex_sti 1 (fun _ => rfl) ?_
        exact T_X9_either4_j44_5 D t w z 0 r4.2 _ _ _ h kc ke0
      · rw [if_neg hc6] at h
        exact T_X9_either4_j39_5 D t w z  r4.2 _ _ _ h kc ke0
    · rw [if_neg hc5] at h
      exact T_X9_either4_j39_5 D t w z  r4.2 _ _ _ h kc ke0

theorem T_X9_either4_l5 (D : Nat) (t : mTX) (w : Option Value) (z : mSG) (v : Int32 × mSG) (e : Int32 × mSG) (h : X9_either4_l5 v = some e) (ke0 : ∀ y : Int32 × mSG, e = y → ∀ (u0 u2 : Option Value), Ex (Runs (D + 15)) cd_X9_either4 (w, z, LAY t) 48 [u0, some (.int y.1), u2] [] y.2 (LAY t)) : ∀ (u2 : Option Value), Ex (Runs (D + 15)) cd_X9_either4 (w, z, LAY t) 5 [some (.ref 56), some (.int v.1), u2] [] v.2 (LAY t) :=
  m_iter (P := fun v : Int32 × mSG => ∀ (u2 : Option Value), Ex (Runs (D + 15)) cd_X9_either4 (w, z, LAY t) 5 [some (.ref 56), some (.int v.1), u2] [] v.2 (LAY t)) (Q := fun e : Int32 × mSG => (∀ y : Int32 × mSG, e = y → ∀ (u0 u2 : Option Value), Ex (Runs (D + 15)) cd_X9_either4 (w, z, LAY t) 48 [u0, some (.int y.1), u2] [] y.2 (LAY t))) (fun x o hx kc kq u2 => T_X9_either4_b5 D t w z  x.1 x.2 u2 o hx kc (fun e he => kq _ he e rfl)) mFU v e h ke0
set_option maxRecDepth 20000 in
theorem T_X9_either4 (D : Nat) (t : mTX) (s : mSG) (o : Int32 × mSG) (h : X9_either4 s = some o) : Runs (D + 16) 160 [.ref 56] s (LAY t) (some (.int o.1), o.2, LAY t) := by
  refine Runs_mk (d := D + 15) rfl ?_
  show Ex (Runs (D + 15)) cd_X9_either4 (some (.int o.1), o.2, LAY t) 0 [some (.ref 56), none, none] [] s (LAY t)
  unfold X9_either4 at h
  obtain ⟨r1, hr, h⟩ := m_bind h
  refine Ex_call 2 (fun _ => rfl) (T_X9_both4 D t  s r1 hr) rfl rfl ?_
  refine Ex_sti 1 (fun _ => rfl) ?_
  obtain ⟨e5, hl, h⟩ := m_bind h
  refine T_X9_either4_l5 D t (some (.int o.1)) o.2   (r1.1, r1.2) _ hl (fun y0 hy0 => ?_) _
  · obtain ⟨e5, rfl⟩ : ∃ q, q = y0 := ⟨_, rfl⟩
    subst hy0
    intro vu0 vu2
    obtain rfl := Option.some.inj h
    exact Ex_ret 2 (fun _ => rfl) rfl

set_option maxRecDepth 20000 in
theorem T_X9_atom3_j71 (D : Nat) (t : mTX) (x1 : Int32) (s : mSG) (o : Int32 × mSG) (h : X9_atom3_j71 x1 s = some o)  : Ex (Runs (D + 16)) cd_X9_atom3 (some (.int o.1), o.2, LAY t) 71 [some (.ref 56), some (.int x1)] [] s (LAY t) := by
  unfold X9_atom3_j71 at h
  refine Ex_br 9 ((s.1 56 31) = 0) (fun _ => rfl) (fun hc9 => ?_) (fun hc9 => ?_)
  · rw [if_pos hc9] at h
    obtain ⟨r10, hr, h⟩ := m_bind h
    refine Ex_call 2 (fun _ => rfl) (T_X9_next (D + 14) t  (sI s 56 30 ((s.1 56 30) - 1)) r10 hr) rfl rfl ?_
    obtain rfl := Option.some.inj h
    exact Ex_ret 3 (fun _ => rfl) rfl
  · rw [if_neg hc9] at h
    obtain rfl := Option.some.inj h
    exact Ex_ret 2 (fun _ => rfl) rfl

set_option maxRecDepth 20000 in
theorem T_X9_atom3_j157 (D : Nat) (t : mTX) (x1 : Int32) (s : mSG) (o : Int32 × mSG) (h : X9_atom3_j157 x1 s = some o)  : Ex (Runs (D + 16)) cd_X9_atom3 (some (.int o.1), o.2, LAY t) 157 [some (.ref 56), some (.int x1)] [] s (LAY t) := by
  unfold X9_atom3_j157 at h
  obtain ⟨r16, hr, h⟩ := m_bind h
  refine Ex_call 2 (fun _ => rfl) (T_X9_fail (D + 15) t  s r16 hr) rfl rfl ?_
  obtain rfl := Option.some.inj h
  exact Ex_ret 2 (fun _ => rfl) rfl

set_option maxRecDepth 20000 in
theorem T_X9_atom3_j123 (D : Nat) (t : mTX) (x1 : Int32) (s : mSG) (o : Int32 × mSG) (h : X9_atom3_j123 x1 s = some o)  : Ex (Runs (D + 16)) cd_X9_atom3 (some (.int o.1), o.2, LAY t) 123 [some (.ref 56), some (.int x1)] [] s (LAY t) := by
  unfold X9_atom3_j123 at h
  refine Ex_br 3 ((s.1 56 31) = 0) (fun _ => rfl) (fun hc11 => ?_) (fun hc11 => ?_)
  · rw [if_pos hc11] at h
    refine Ex_br 4 ((s.1 56 27) = 1) (fun _ => rfl) (fun hc12 => ?_) (fun hc12 => ?_)
    · rw [if_pos hc12] at h
      obtain ⟨r13, hr, h⟩ := m_bind h
      refine Ex_call 2 (fun _ => rfl) (T_X9_name (D + 12) t  s r13 hr) rfl rfl ?_
      refine Ex_br 4 ((r13.2.1 56 31) = 0) (fun _ => rfl) (fun hc14 => ?_) (fun hc14 => ?_)
      · rw [if_pos hc14] at h
        obtain ⟨r15, hr, h⟩ := m_bind h
        refine Ex_call 2 (fun _ => rfl) (T_X9_next (D + 14) t  r13.2 r15 hr) rfl rfl ?_
        obtain rfl := Option.some.inj h
        exact Ex_ret 3 (fun _ => rfl) rfl
      · rw [if_neg hc14] at h
        obtain rfl := Option.some.inj h
        exact Ex_ret 2 (fun _ => rfl) rfl
    · rw [if_neg hc12] at h
      exact T_X9_atom3_j157 D t x1 s  _ h
  · rw [if_neg hc11] at h
    exact T_X9_atom3_j157 D t x1 s  _ h

set_option maxRecDepth 20000 in
theorem T_X9_atom3 (D : Nat) (t : mTX) (s : mSG) (o : Int32 × mSG) (h : X9_atom3 s = some o) : Runs (D + 17) 161 [.ref 56] s (LAY t) (some (.int o.1), o.2, LAY t) := by
  refine Runs_mk (d := D + 16) rfl ?_
  show Ex (Runs (D + 16)) cd_X9_atom3 (some (.int o.1), o.2, LAY t) 0 [some (.ref 56), none] [] s (LAY t)
  unfold X9_atom3 at h
  refine Ex_call 5 (fun _ => rfl) (T_X9_isSign (D + 15) t 45 s _ rfl) rfl rfl ?_
  refine Ex_brZ 1 (X9_isSign 45 s) (fun _ => rfl) (fun hc => ?_) (fun hc => ?_)
  · rw [if_neg (m_nt hc)] at h
    refine Ex_call 3 (fun _ => rfl) (T_X9_isSign (D + 15) t 40 s _ rfl) rfl rfl ?_
    refine Ex_brZ 1 (X9_isSign 40 s) (fun _ => rfl) (fun hc => ?_) (fun hc => ?_)
    · rw [if_neg (m_nt hc)] at h
      refine Ex_br 3 ((s.1 56 31) = 0) (fun _ => rfl) (fun hc1 => ?_) (fun hc1 => ?_)
      · rw [if_pos hc1] at h
        refine Ex_br 4 ((s.1 56 27) = 2) (fun _ => rfl) (fun hc2 => ?_) (fun hc2 => ?_)
        · rw [if_pos hc2] at h
          obtain ⟨r3, hr, h⟩ := m_bind h
          refine Ex_call 6 (fun _ => rfl) (T_X9_next (D + 14) t  s r3 hr) rfl rfl ?_
          obtain rfl := Option.some.inj h
          exact Ex_ret 3 (fun _ => rfl) rfl
        · rw [if_neg hc2] at h
          exact T_X9_atom3_j123 D t 0 s  _ h
      · rw [if_neg hc1] at h
        exact T_X9_atom3_j123 D t 0 s  _ h
    · rw [if_pos hc] at h
      obtain ⟨r4, hr, h⟩ := m_bind h
      refine Ex_call 2 (fun _ => rfl) (T_X9_opens (D + 13) t  s r4 hr) rfl rfl ?_
      refine Ex_brZ 1 (r4.1) (fun _ => rfl) (fun hc => ?_) (fun hc => ?_)
      · rw [if_neg (m_nt hc)] at h
        obtain rfl := Option.some.inj h
        exact Ex_ret 2 (fun _ => rfl) rfl
      · rw [if_pos hc] at h
        obtain ⟨r5, hr, h⟩ := m_bind h
        refine Ex_call 2 (fun _ => rfl) (T_X9_either4 D t  r4.2 r5 hr) rfl rfl ?_
        refine Ex_call 4 (fun _ => rfl) (T_X9_isSign (D + 15) t 41 r5.2 _ rfl) rfl rfl ?_
        refine Ex_brZ 1 (X9_isSign 41 r5.2) (fun _ => rfl) (fun hc => ?_) (fun hc => ?_)
        · rw [if_neg (m_nt hc)] at h
          obtain ⟨r6, hr, h⟩ := m_bind h
          refine Ex_call 2 (fun _ => rfl) (T_X9_fail (D + 15) t  r5.2 r6 hr) rfl rfl ?_
          exact T_X9_atom3_j71 D t r5.1 r6  _ h
        · rw [if_pos hc] at h
          exact T_X9_atom3_j71 D t r5.1 r5.2  _ h
  · rw [if_pos hc] at h
    obtain ⟨r7, hr, h⟩ := m_bind h
    refine Ex_call 2 (fun _ => rfl) (T_X9_opens (D + 13) t  s r7 hr) rfl rfl ?_
    refine Ex_brZ 1 (r7.1) (fun _ => rfl) (fun hc => ?_) (fun hc => ?_)
    · rw [if_neg (m_nt hc)] at h
      obtain rfl := Option.some.inj h
      exact Ex_ret 2 (fun _ => rfl) rfl
    · rw [if_pos hc] at h
      obtain ⟨r8, hr, h⟩ := m_bind h
      refine Ex_call 2 (fun _ => rfl) (T_X9_atom4 (D + 5) t  r7.2 r8 hr) rfl rfl ?_
      obtain rfl := Option.some.inj h
      exact Ex_ret 11 (fun _ => rfl) rfl

set_option maxRecDepth 20000 in
theorem T_X9_term3_b5 (D : Nat) (t : mTX) (w : Option Value) (z : mSG) (x1 : Int32) (s : mSG) (o : (Int32 × mSG) ⊕ Int32 × mSG) (h : X9_term3_b5 x1 s = some o) (kc : ∀ y : Int32 × mSG, o = .inl y → Ex (Runs (D + 17)) cd_X9_term3 (w, z, LAY t) 5 [some (.ref 56), some (.int y.1)] [] y.2 (LAY t)) (ke0 : ∀ y : Int32 × mSG, o = .inr y → ∀ (u0 : Option Value), Ex (Runs (D + 17)) cd_X9_term3 (w, z, LAY t) 28 [u0, some (.int y.1)] [] y.2 (LAY t)) : Ex (Runs (D + 17)) cd_X9_term3 (w, z, LAY t) 5 [some (.ref 56), some (.int x1)] [] s (LAY t) := by
  unfold X9_term3_b5 at h
  refine Ex_call 3 (fun _ => rfl) (T_X9_isSign (D + 16) t 42 s _ rfl) rfl rfl ?_
  refine Ex_brZ 1 (X9_isSign 42 s) (fun _ => rfl) (fun hc => ?_) (fun hc => ?_)
  · rw [if_neg (m_nt hc)] at h
    obtain rfl := Option.some.inj h
    exact ke0 _ rfl _
  · rw [if_pos hc] at h
    obtain ⟨r2, hr, h⟩ := m_bind h
    refine Ex_call 2 (fun _ => rfl) (T_X9_next (D + 15) t  s r2 hr) rfl rfl ?_
    obtain ⟨r3, hr, h⟩ := m_bind h
    refine Ex_call 3 (fun _ => rfl) (T_X9_atom3 D t  r2 r3 hr) rfl rfl ?_
    refine Ex_sti 3 (fun _ => rfl) ?_
    obtain rfl := Option.some.inj h
    exact kc _ rfl 

theorem T_X9_term3_l5 (D : Nat) (t : mTX) (w : Option Value) (z : mSG) (v : Int32 × mSG) (e : Int32 × mSG) (h : X9_term3_l5 v = some e) (ke0 : ∀ y : Int32 × mSG, e = y → ∀ (u0 : Option Value), Ex (Runs (D + 17)) cd_X9_term3 (w, z, LAY t) 28 [u0, some (.int y.1)] [] y.2 (LAY t)) : Ex (Runs (D + 17)) cd_X9_term3 (w, z, LAY t) 5 [some (.ref 56), some (.int v.1)] [] v.2 (LAY t) :=
  m_iter (P := fun v : Int32 × mSG => Ex (Runs (D + 17)) cd_X9_term3 (w, z, LAY t) 5 [some (.ref 56), some (.int v.1)] [] v.2 (LAY t)) (Q := fun e : Int32 × mSG => (∀ y : Int32 × mSG, e = y → ∀ (u0 : Option Value), Ex (Runs (D + 17)) cd_X9_term3 (w, z, LAY t) 28 [u0, some (.int y.1)] [] y.2 (LAY t))) (fun x o hx kc kq  => T_X9_term3_b5 D t w z  x.1 x.2  o hx kc (fun e he => kq _ he e rfl)) mFU v e h ke0
set_option maxRecDepth 20000 in
theorem T_X9_term3 (D : Nat) (t : mTX) (s : mSG) (o : Int32 × mSG) (h : X9_term3 s = some o) : Runs (D + 18) 162 [.ref 56] s (LAY t) (some (.int o.1), o.2, LAY t) := by
  refine Runs_mk (d := D + 17) rfl ?_
  show Ex (Runs (D + 17)) cd_X9_term3 (some (.int o.1), o.2, LAY t) 0 [some (.ref 56), none] [] s (LAY t)
  unfold X9_term3 at h
  obtain ⟨r1, hr, h⟩ := m_bind h
  refine Ex_call 2 (fun _ => rfl) (T_X9_atom3 D t  s r1 hr) rfl rfl ?_
  refine Ex_sti 1 (fun _ => rfl) ?_
  obtain ⟨e5, hl, h⟩ := m_bind h
  refine T_X9_term3_l5 D t (some (.int o.1)) o.2   (r1.1, r1.2) _ hl (fun y0 hy0 => ?_) 
  · obtain ⟨e5, rfl⟩ : ∃ q, q = y0 := ⟨_, rfl⟩
    subst hy0
    intro vu0
    obtain rfl := Option.some.inj h
    exact Ex_ret 2 (fun _ => rfl) rfl

set_option maxRecDepth 20000 in
theorem T_X9_added3_j62_5 (D : Nat) (t : mTX) (w : Option Value) (z : mSG) (p0 : Int32) (s : mSG) (u1 u2 u3 : Option Value) (o : (Int32 × mSG) ⊕ Int32 × mSG) (h : X9_added3_j62_5 p0 s = some o) (kc : ∀ y : Int32 × mSG, o = .inl y → ∀ (u2 u3 : Option Value), Ex (Runs (D + 18)) cd_X9_added3 (w, z, LAY t) 5 [some (.ref 56), some (.int y.1), u2, u3] [] y.2 (LAY t)) (ke0 : ∀ y : Int32 × mSG, o = .inr y → ∀ (u0 u2 u3 : Option Value), Ex (Runs (D + 18)) cd_X9_added3 (w, z, LAY t) 66 [u0, some (.int y.1), u2, u3] [] y.2 (LAY t)) : Ex (Runs (D + 18)) cd_X9_added3 (w, z, LAY t) 62 [some (.ref 56), u1, u2, u3] [.int p0] s (LAY t) := by
  unfold X9_added3_j62_5 at h
  refine Ex_sti 2 (fun _ => rfl) ?_
  obtain rfl := Option.some.inj h
  exact kc _ rfl _ _

set_option maxRecDepth 20000 in
theorem T_X9_added3_j39_5 (D : Nat) (t : mTX) (w : Option Value) (z : mSG) (x1 : Int32) (p0 : Int32) (s : mSG) (u2 u3 : Option Value) (o : (Int32 × mSG) ⊕ Int32 × mSG) (h : X9_added3_j39_5 x1 p0 s = some o) (kc : ∀ y : Int32 × mSG, o = .inl y → ∀ (u2 u3 : Option Value), Ex (Runs (D + 18)) cd_X9_added3 (w, z, LAY t) 5 [some (.ref 56), some (.int y.1), u2, u3] [] y.2 (LAY t)) (ke0 : ∀ y : Int32 × mSG, o = .inr y → ∀ (u0 u2 u3 : Option Value), Ex (Runs (D + 18)) cd_X9_added3 (w, z, LAY t) 66 [u0, some (.int y.1), u2, u3] [] y.2 (LAY t)) : Ex (Runs (D + 18)) cd_X9_added3 (w, z, LAY t) 39 [some (.ref 56), some (.int x1), u2, u3] [.int p0] s (LAY t) := by
  unfold X9_added3_j39_5 at h
  obtain ⟨r3, hr, h⟩ := m_bind h
  refine Ex_call 3 (fun _ => rfl) (T_X9_next (D + 16) t  s r3 hr) rfl rfl ?_
  obtain ⟨r4, hr, h⟩ := m_bind h
  refine Ex_call 2 (fun _ => rfl) (T_X9_term3 D t  r3 r4 hr) rfl rfl ?_
  refine Ex_br 3 (p0 = 0) (fun _ => rfl) (fun hc5 => ?_) (fun hc5 => ?_)
  · rw [if_pos hc5] at h
    refine Ex_sti 3 (fun _ => rfl) ?_
    exact T_X9_added3_j62_5 D t w z (x1 - r4.1) r4.2 _ _ _ _ h kc ke0
  · rw [if_neg hc5] at h
    refine Ex_sti 4 (fun _ => rfl) ?_
    exact T_X9_added3_j62_5 D t w z (x1 + r4.1) r4.2 _ _ _ _ h kc ke0

set_option maxRecDepth 20000 in
theorem T_X9_added3_j23_5 (D : Nat) (t : mTX) (w : Option Value) (z : mSG) (x1 : Int32) (s : mSG) (u2 u3 : Option Value) (o : (Int32 × mSG) ⊕ Int32 × mSG) (h : X9_added3_j23_5 x1 s = some o) (kc : ∀ y : Int32 × mSG, o = .inl y → ∀ (u2 u3 : Option Value), Ex (Runs (D + 18)) cd_X9_added3 (w, z, LAY t) 5 [some (.ref 56), some (.int y.1), u2, u3] [] y.2 (LAY t)) (ke0 : ∀ y : Int32 × mSG, o = .inr y → ∀ (u0 u2 u3 : Option Value), Ex (Runs (D + 18)) cd_X9_added3 (w, z, LAY t) 66 [u0, some (.int y.1), u2, u3] [] y.2 (LAY t)) : Ex (Runs (D + 18)) cd_X9_added3 (w, z, LAY t) 23 [some (.ref 56), some (.int x1), u2, u3] [] s (LAY t) := by
  unfold X9_added3_j23_5 at h
  refine Ex_br 5 ((lg_cmp (s.2.2 56 29) 43) = 0) (fun _ => rfl) (fun hc2 => ?_) (fun hc2 => ?_)
  · rw [if_pos hc2] at h
    refine Ex_sti 2 (fun _ => rfl) ?_
    exact T_X9_added3_j39_5 D t w z x1 1 s _ _ _ h kc ke0
  · rw [if_neg hc2] at h
    refine Ex_sti 1 (fun _ => rfl) ?_
    exact T_X9_added3_j39_5 D t w z x1 0 s _ _ _ h kc ke0

set_option maxRecDepth 20000 in
theorem T_X9_added3_b5 (D : Nat) (t : mTX) (w : Option Value) (z : mSG) (x1 : Int32) (s : mSG) (u2 u3 : Option Value) (o : (Int32 × mSG) ⊕ Int32 × mSG) (h : X9_added3_b5 x1 s = some o) (kc : ∀ y : Int32 × mSG, o = .inl y → ∀ (u2 u3 : Option Value), Ex (Runs (D + 18)) cd_X9_added3 (w, z, LAY t) 5 [some (.ref 56), some (.int y.1), u2, u3] [] y.2 (LAY t)) (ke0 : ∀ y : Int32 × mSG, o = .inr y → ∀ (u0 u2 u3 : Option Value), Ex (Runs (D + 18)) cd_X9_added3 (w, z, LAY t) 66 [u0, some (.int y.1), u2, u3] [] y.2 (LAY t)) : Ex (Runs (D + 18)) cd_X9_added3 (w, z, LAY t) 5 [some (.ref 56), some (.int x1), u2, u3] [] s (LAY t) := by
  unfold X9_added3_b5 at h
  refine Ex_call 3 (fun _ => rfl) (T_X9_isSign (D + 17) t 43 s _ rfl) rfl rfl ?_
  refine Ex_brZ 1 (X9_isSign 43 s) (fun _ => rfl) (fun hc => ?_) (fun hc => ?_)
  · rw [if_neg (m_nt hc)] at h
    refine Ex_call 3 (fun _ => rfl) (T_X9_isSign (D + 17) t 45 s _ rfl) rfl rfl ?_
    refine Ex_brZ 1 (X9_isSign 45 s) (fun _ => rfl) (fun hc => ?_) (fun hc => ?_)
    · rw [if_neg (m_nt hc)] at h
      obtain rfl := Option.some.inj h
      exact ke0 _ rfl _ _ _
    · rw [if_pos hc] at h
      exact T_X9_added3_j23_5 D t w z x1 s _ _ _ h kc ke0
  · rw [if_pos hc] at h
    exact T_X9_added3_j23_5 D t w z x1 s _ _ _ h kc ke0

theorem T_X9_added3_l5 (D : Nat) (t : mTX) (w : Option Value) (z : mSG) (v : Int32 × mSG) (e : Int32 × mSG) (h : X9_added3_l5 v = some e) (ke0 : ∀ y : Int32 × mSG, e = y → ∀ (u0 u2 u3 : Option Value), Ex (Runs (D + 18)) cd_X9_added3 (w, z, LAY t) 66 [u0, some (.int y.1), u2, u3] [] y.2 (LAY t)) : ∀ (u2 u3 : Option Value), Ex (Runs (D + 18)) cd_X9_added3 (w, z, LAY t) 5 [some (.ref 56), some (.int v.1), u2, u3] [] v.2 (LAY t) :=
  m_iter (P := fun v : Int32 × mSG => ∀ (u2 u3 : Option Value), Ex (Runs (D + 18)) cd_X9_added3 (w, z, LAY t) 5 [some (.ref 56), some (.int v.1), u2, u3] [] v.2 (LAY t)) (Q := fun e : Int32 × mSG => (∀ y : Int32 × mSG, e = y → ∀ (u0 u2 u3 : Option Value), Ex (Runs (D + 18)) cd_X9_added3 (w, z, LAY t) 66 [u0, some (.int y.1), u2, u3] [] y.2 (LAY t))) (fun x o hx kc kq u2 u3 => T_X9_added3_b5 D t w z  x.1 x.2 u2 u3 o hx kc (fun e he => kq _ he e rfl)) mFU v e h ke0
set_option maxRecDepth 20000 in
theorem T_X9_added3 (D : Nat) (t : mTX) (s : mSG) (o : Int32 × mSG) (h : X9_added3 s = some o) : Runs (D + 19) 163 [.ref 56] s (LAY t) (some (.int o.1), o.2, LAY t) := by
  refine Runs_mk (d := D + 18) rfl ?_
  show Ex (Runs (D + 18)) cd_X9_added3 (some (.int o.1), o.2, LAY t) 0 [some (.ref 56), none, none, none] [] s (LAY t)
  unfold X9_added3 at h
  obtain ⟨r1, hr, h⟩ := m_bind h
  refine Ex_call 2 (fun _ => rfl) (T_X9_term3 D t  s r1 hr) rfl rfl ?_
  refine Ex_sti 1 (fun _ => rfl) ?_
  obtain ⟨e5, hl, h⟩ := m_bind h
  refine T_X9_added3_l5 D t (some (.int o.1)) o.2   (r1.1, r1.2) _ hl (fun y0 hy0 => ?_) _ _
  · obtain ⟨e5, rfl⟩ : ∃ q, q = y0 := ⟨_, rfl⟩
    subst hy0
    intro vu0 vu2 vu3
    obtain rfl := Option.some.inj h
    exact Ex_ret 2 (fun _ => rfl) rfl

set_option maxRecDepth 20000 in
theorem T_X9_not3_j93 (D : Nat) (t : mTX) (x1 : Int32) (p0 : Int32) (s : mSG) (u2 u3 : Option Value) (o : Int32 × mSG) (h : X9_not3_j93 x1 p0 s = some o)  : Ex (Runs (D + 19)) cd_X9_not3 (some (.int o.1), o.2, LAY t) 93 [some (.ref 56), some (.int x1), u2, u3] [.int p0] s (LAY t) := by
  unfold X9_not3_j93 at h
  obtain ⟨r7, hr, h⟩ := m_bind h
  refine Ex_call 3 (fun _ => rfl) (T_X9_next (D + 17) t  s r7 hr) rfl rfl ?_
  obtain ⟨r8, hr, h⟩ := m_bind h
  refine Ex_call 2 (fun _ => rfl) (T_X9_added3 D t  r7 r8 hr) rfl rfl ?_
  refine Ex_br 3 (p0 = 0) (fun _ => rfl) (fun hc9 => ?_) (fun hc9 => ?_)
  · rw [if_pos hc9] at h
    refine Ex_br 3 (x1 = r8.1) (fun _ => rfl) (fun hc10 => ?_) (fun hc10 => ?_)
    · rw [if_pos hc10] at h
      obtain rfl := Option.some.inj h
      exact Ex_ret 3 (fun _ => rfl) rfl
    · rw [if_neg hc10] at h
      obtain rfl := Option.some.inj h
      exact Ex_ret 2 (fun _ => rfl) rfl
  · rw [if_neg hc9] at h
    refine Ex_br 3 (r8.1 ≤ x1) (fun _ => rfl) (fun hc11 => ?_) (fun hc11 => ?_)
    · rw [if_pos hc11] at h
      obtain rfl := Option.some.inj h
      exact Ex_ret 2 (fun _ => rfl) rfl
    · rw [if_neg hc11] at h
      obtain rfl := Option.some.inj h
      exact Ex_ret 4 (fun _ => rfl) rfl

set_option maxRecDepth 20000 in
theorem T_X9_not3_j77 (D : Nat) (t : mTX) (x1 : Int32) (s : mSG) (u2 u3 : Option Value) (o : Int32 × mSG) (h : X9_not3_j77 x1 s = some o)  : Ex (Runs (D + 19)) cd_X9_not3 (some (.int o.1), o.2, LAY t) 77 [some (.ref 56), some (.int x1), u2, u3] [] s (LAY t) := by
  unfold X9_not3_j77 at h
  refine Ex_br 5 ((lg_cmp (s.2.2 56 29) 60) = 0) (fun _ => rfl) (fun hc6 => ?_) (fun hc6 => ?_)
  · rw [if_pos hc6] at h
    refine Ex_sti 2 (fun _ => rfl) ?_
    exact T_X9_not3_j93 D t x1 1 s _ _ _ h
  · rw [if_neg hc6] at h
    refine Ex_sti 1 (fun _ => rfl) ?_
    exact T_X9_not3_j93 D t x1 0 s _ _ _ h

set_option maxRecDepth 20000 in
theorem T_X9_not3 (D : Nat) (t : mTX) (s : mSG) (o : Int32 × mSG) (h : X9_not3 s = some o) : Runs (D + 20) 164 [.ref 56] s (LAY t) (some (.int o.1), o.2, LAY t) := by
  refine Runs_mk (d := D + 19) rfl ?_
  show Ex (Runs (D + 19)) cd_X9_not3 (some (.int o.1), o.2, LAY t) 0 [some (.ref 56), none, none, none] [] s (LAY t)
  unfold X9_not3 at h
  obtain ⟨r1, hr, h⟩ := m_bind h
  refine Ex_call 10 (fun _ => rfl) (T_X9_isWord (D + 16) t 110 111 116 0 0 0 0 0 s r1 hr) rfl rfl ?_
  refine Ex_brZ 1 (r1) (fun _ => rfl) (fun hc => ?_) (fun hc => ?_)
  · rw [if_neg (m_nt hc)] at h
    obtain ⟨r2, hr, h⟩ := m_bind h
    refine Ex_call 2 (fun _ => rfl) (T_X9_added3 D t  s r2 hr) rfl rfl ?_
    refine Ex_call 4 (fun _ => rfl) (T_X9_isSign (D + 18) t 60 r2.2 _ rfl) rfl rfl ?_
    refine Ex_brZ 1 (X9_isSign 60 r2.2) (fun _ => rfl) (fun hc => ?_) (fun hc => ?_)
    · rw [if_neg (m_nt hc)] at h
      refine Ex_call 3 (fun _ => rfl) (T_X9_isSign (D + 18) t 61 r2.2 _ rfl) rfl rfl ?_
      refine Ex_brZ 1 (X9_isSign 61 r2.2) (fun _ => rfl) (fun hc => ?_) (fun hc => ?_)
      · rw [if_neg (m_nt hc)] at h
        obtain rfl := Option.some.inj h
        exact Ex_ret 2 (fun _ => rfl) rfl
      · rw [if_pos hc] at h
        exact T_X9_not3_j77 D t r2.1 r2.2 _ _ _ h
    · rw [if_pos hc] at h
      exact T_X9_not3_j77 D t r2.1 r2.2 _ _ _ h
  · rw [if_pos hc] at h
    obtain ⟨r3, hr, h⟩ := m_bind h
    refine Ex_call 2 (fun _ => rfl) (T_X9_opens (D + 16) t  s r3 hr) rfl rfl ?_
    refine Ex_brZ 1 (r3.1) (fun _ => rfl) (fun hc => ?_) (fun hc => ?_)
    · rw [if_neg (m_nt hc)] at h
      obtain rfl := Option.some.inj h
      exact Ex_ret 2 (fun _ => rfl) rfl
    · rw [if_pos hc] at h
      obtain ⟨r4, hr, h⟩ := m_bind h
      refine Ex_call 2 (fun _ => rfl) (T_X9_not4 (D + 5) t  r3.2 r4 hr) rfl rfl ?_
      refine Ex_br 9 (r4.1 = 0) (fun _ => rfl) (fun hc5 => ?_) (fun hc5 => ?_)
      · rw [if_pos hc5] at h
        obtain rfl := Option.some.inj h
        exact Ex_ret 3 (fun _ => rfl) rfl
      · rw [if_neg hc5] at h
        obtain rfl := Option.some.inj h
        exact Ex_ret 2 (fun _ => rfl) rfl

set_option maxRecDepth 20000 in
theorem T_X9_both3_j45_5 (D : Nat) (t : mTX) (w : Option Value) (z : mSG) (p0 : Int32) (s : mSG) (u1 u2 : Option Value) (o : (Int32 × mSG) ⊕ Int32 × mSG) (h : X9_both3_j45_5 p0 s = some o) (kc : ∀ y : Int32 × mSG, o = .inl y → ∀ (u2 : Option Value), Ex (Runs (D + 20)) cd_X9_both3 (w, z, LAY t) 5 [some (.ref 56), some (.int y.1), u2] [] y.2 (LAY t)) (ke0 : ∀ y : Int32 × mSG, o = .inr y → ∀ (u0 u2 : Option Value), Ex (Runs (D + 20)) cd_X9_both3 (w, z, LAY t) 49 [u0, some (.int y.1), u2] [] y.2 (LAY t)) : Ex (Runs (D + 20)) cd_X9_both3 (w, z, LAY t) 45 [some (.ref 56), u1, u2] [.int p0] s (LAY t) := by
  unfold X9_both3_j45_5 at h
  refine Ex_sti 2 (fun _ => rfl) ?_
  obtain rfl := Option.some.inj h
  exact kc _ rfl _

set_option maxRecDepth 20000 in
theorem T_X9_both3_j44_5 (D : Nat) (t : mTX) (w : Option Value) (z : mSG) (s : mSG) (u1 u2 : Option Value) (o : (Int32 × mSG) ⊕ Int32 × mSG) (h : X9_both3_j44_5 s = some o) (kc : ∀ y : Int32 × mSG, o = .inl y → ∀ (u2 : Option Value), Ex (Runs (D + 20)) cd_X9_both3 (w, z, LAY t) 5 [some (.ref 56), some (.int y.1), u2] [] y.2 (LAY t)) (ke0 : ∀ y : Int32 × mSG, o = .inr y → ∀ (u0 u2 : Option Value), Ex (Runs (D + 20)) cd_X9_both3 (w, z, LAY t) 49 [u0, some (.int y.1), u2] [] y.2 (LAY t)) : Ex (Runs (D + 20)) cd_X9_both3 (w, z, LAY t) 44 [some (.ref 56), u1, u2] [] s (LAY t) := by
  unfold X9_both3_j44_5 at h
  refine Ex_sti 1 (fun _ => rfl) ?_
  exact T_X9_both3_j45_5 D t w z 0 s _ _ _ h kc ke0

set_option maxRecDepth 20000 in
theorem T_X9_both3_b5 (D : Nat) (t : mTX) (w : Option Value) (z : mSG) (x1 : Int32) (s : mSG) (u2 : Option Value) (o : (Int32 × mSG) ⊕ Int32 × mSG) (h : X9_both3_b5 x1 s = some o) (kc : ∀ y : Int32 × mSG, o = .inl y → ∀ (u2 : Option Value), Ex (Runs (D + 20)) cd_X9_both3 (w, z, LAY t) 5 [some (.ref 56), some (.int y.1), u2] [] y.2 (LAY t)) (ke0 : ∀ y : Int32 × mSG, o = .inr y → ∀ (u0 u2 : Option Value), Ex (Runs (D + 20)) cd_X9_both3 (w, z, LAY t) 49 [u0, some (.int y.1), u2] [] y.2 (LAY t)) : Ex (Runs (D + 20)) cd_X9_both3 (w, z, LAY t) 5 [some (.ref 56), some (.int x1), u2] [] s (LAY t) := by
  unfold X9_both3_b5 at h
  obtain ⟨r2, hr, h⟩ := m_bind h
  refine Ex_call 10 (fun _ => rfl) (T_X9_isWord (D + 17) t 97 110 100 0 0 0 0 0 s r2 hr) rfl rfl ?_
  refine Ex_brZ 1 (r2) (fun _ => rfl) (fun hc => ?_) (fun hc => ?_)
  · rw [if_neg (m_nt hc)] at h
    obtain rfl := Option.some.inj h
    exact ke0 _ rfl _ _
  · rw [if_pos hc] at h
    obtain ⟨r3, hr, h⟩ := m_bind h
    refine Ex_call 2 (fun _ => rfl) (T_X9_next (D + 18) t  s r3 hr) rfl rfl ?_
    obtain ⟨r4, hr, h⟩ := m_bind h
    refine Ex_call 2 (fun _ => rfl) (T_X9_not3 D t  r3 r4 hr) rfl rfl ?_
    refine Ex_br 3 (x1 = 0) (fun _ => rfl) (fun hc5 => ?_) (fun hc5 => ?_)
    · rw [if_pos hc5] at h
      exact T_X9_both3_j44_5 D t w z  r4.2 _ _ _ h kc ke0
    · rw [if_neg hc5] at h
      refine Ex_br 2 (r4.1 = 0) (fun _ => rfl) (fun hc6 => ?_) (fun hc6 => ?_)
      · rw [if_pos hc6] at h
        exact T_X9_both3_j44_5 D t w z  r4.2 _ _ _ h kc ke0
      · rw [if_neg hc6] at h
        refine Ex_sti 2 (fun _ => rfl) ?_
        exact T_X9_both3_j45_5 D t w z 1 r4.2 _ _ _ h kc ke0

theorem T_X9_both3_l5 (D : Nat) (t : mTX) (w : Option Value) (z : mSG) (v : Int32 × mSG) (e : Int32 × mSG) (h : X9_both3_l5 v = some e) (ke0 : ∀ y : Int32 × mSG, e = y → ∀ (u0 u2 : Option Value), Ex (Runs (D + 20)) cd_X9_both3 (w, z, LAY t) 49 [u0, some (.int y.1), u2] [] y.2 (LAY t)) : ∀ (u2 : Option Value), Ex (Runs (D + 20)) cd_X9_both3 (w, z, LAY t) 5 [some (.ref 56), some (.int v.1), u2] [] v.2 (LAY t) :=
  m_iter (P := fun v : Int32 × mSG => ∀ (u2 : Option Value), Ex (Runs (D + 20)) cd_X9_both3 (w, z, LAY t) 5 [some (.ref 56), some (.int v.1), u2] [] v.2 (LAY t)) (Q := fun e : Int32 × mSG => (∀ y : Int32 × mSG, e = y → ∀ (u0 u2 : Option Value), Ex (Runs (D + 20)) cd_X9_both3 (w, z, LAY t) 49 [u0, some (.int y.1), u2] [] y.2 (LAY t))) (fun x o hx kc kq u2 => T_X9_both3_b5 D t w z  x.1 x.2 u2 o hx kc (fun e he => kq _ he e rfl)) mFU v e h ke0
set_option maxRecDepth 20000 in
theorem T_X9_both3 (D : Nat) (t : mTX) (s : mSG) (o : Int32 × mSG) (h : X9_both3 s = some o) : Runs (D + 21) 165 [.ref 56] s (LAY t) (some (.int o.1), o.2, LAY t) := by
  refine Runs_mk (d := D + 20) rfl ?_
  show Ex (Runs (D + 20)) cd_X9_both3 (some (.int o.1), o.2, LAY t) 0 [some (.ref 56), none, none] [] s (LAY t)
  unfold X9_both3 at h
  obtain ⟨r1, hr, h⟩ := m_bind h
  refine Ex_call 2 (fun _ => rfl) (T_X9_not3 D t  s r1 hr) rfl rfl ?_
  refine Ex_sti 1 (fun _ => rfl) ?_
  obtain ⟨e5, hl, h⟩ := m_bind h
  refine T_X9_both3_l5 D t (some (.int o.1)) o.2   (r1.1, r1.2) _ hl (fun y0 hy0 => ?_) _
  · obtain ⟨e5, rfl⟩ : ∃ q, q = y0 := ⟨_, rfl⟩
    subst hy0
    intro vu0 vu2
    obtain rfl := Option.some.inj h
    exact Ex_ret 2 (fun _ => rfl) rfl

