set_option maxRecDepth 20000 in
theorem T_X9_either3_j44_5 (D : Nat) (t : mTX) (w : Option Value) (z : mSG) (p0 : Int32) (s : mSG) (u1 u2 : Option Value) (o : (Int32 × mSG) ⊕ Int32 × mSG) (h : X9_either3_j44_5 p0 s = some o) (kc : ∀ y : Int32 × mSG, o = .inl y → ∀ (u2 : Option Value), Ex (Runs (D + 21)) cd_X9_either3 (w, z, LAY t) 5 [some (.ref 56), some (.int y.1), u2] [] y.2 (LAY t)) (ke0 : ∀ y : Int32 × mSG, o = .inr y → ∀ (u0 u2 : Option Value), Ex (Runs (D + 21)) cd_X9_either3 (w, z, LAY t) 48 [u0, some (.int y.1), u2] [] y.2 (LAY t)) : Ex (Runs (D + 21)) cd_X9_either3 (w, z, LAY t) 44 [some (.ref 56), u1, u2] [.int p0] s (LAY t) := by
  unfold X9_either3_j44_5 at h
  refine Ex_sti 2 (fun _ => rfl) ?_
  obtain rfl := Option.some.inj h
  exact kc _ rfl _

set_option maxRecDepth 20000 in
theorem T_X9_either3_j39_5 (D : Nat) (t : mTX) (w : Option Value) (z : mSG) (s : mSG) (u1 u2 : Option Value) (o : (Int32 × mSG) ⊕ Int32 × mSG) (h : X9_either3_j39_5 s = some o) (kc : ∀ y : Int32 × mSG, o = .inl y → ∀ (u2 : Option Value), Ex (Runs (D + 21)) cd_X9_either3 (w, z, LAY t) 5 [some (.ref 56), some (.int y.1), u2] [] y.2 (LAY t)) (ke0 : ∀ y : Int32 × mSG, o = .inr y → ∀ (u0 u2 : Option Value), Ex (Runs (D + 21)) cd_X9_either3 (w, z, LAY t) 48 [u0, some (.int y.1), u2] [] y.2 (LAY t)) : Ex (Runs (D + 21)) cd_X9_either3 (w, z, LAY t) 39 [some (.ref 56), u1, u2] [] s (LAY t) := by
  unfold X9_either3_j39_5 at h
  refine Ex_sti 2 (fun _ => rfl) ?_
  exact T_X9_either3_j44_5 D t w z 1 s _ _ _ h kc ke0

set_option maxRecDepth 20000 in
theorem T_X9_either3_b5 (D : Nat) (t : mTX) (w : Option Value) (z : mSG) (x1 : Int32) (s : mSG) (u2 : Option Value) (o : (Int32 × mSG) ⊕ Int32 × mSG) (h : X9_either3_b5 x1 s = some o) (kc : ∀ y : Int32 × mSG, o = .inl y → ∀ (u2 : Option Value), Ex (Runs (D + 21)) cd_X9_either3 (w, z, LAY t) 5 [some (.ref 56), some (.int y.1), u2] [] y.2 (LAY t)) (ke0 : ∀ y : Int32 × mSG, o = .inr y → ∀ (u0 u2 : Option Value), Ex (Runs (D + 21)) cd_X9_either3 (w, z, LAY t) 48 [u0, some (.int y.1), u2] [] y.2 (LAY t)) : Ex (Runs (D + 21)) cd_X9_either3 (w, z, LAY t) 5 [some (.ref 56), some (.int x1), u2] [] s (LAY t) := by
  unfold X9_either3_b5 at h
  obtain ⟨r2, hr, h⟩ := m_bind h
  refine Ex_call 10 (fun _ => rfl) (T_X9_isWord (D + 18) t 111 114 0 0 0 0 0 0 s r2 hr) rfl rfl ?_
  refine Ex_brZ 1 (r2) (fun _ => rfl) (fun hc => ?_) (fun hc => ?_)
  · rw [if_neg (m_nt hc)] at h
    obtain rfl := Option.some.inj h
    exact ke0 _ rfl _ _
  · rw [if_pos hc] at h
    obtain ⟨r3, hr, h⟩ := m_bind h
    refine Ex_call 2 (fun _ => rfl) (T_X9_next (D + 19) t  s r3 hr) rfl rfl ?_
    obtain ⟨r4, hr, h⟩ := m_bind h
    refine Ex_call 2 (fun _ => rfl) (T_X9_both3 D t  r3 r4 hr) rfl rfl ?_
    refine Ex_br 3 (x1 = 0) (fun _ => rfl) (fun hc5 => ?_) (fun hc5 => ?_)
    · rw [if_pos hc5] at h
      refine Ex_br 2 (r4.1 = 0) (fun _ => rfl) (fun hc6 => ?_) (fun hc6 => ?_)
      · rw [if_pos hc6] at h
        refine Ex_sti 1 (fun _ => rfl) ?_
        exact T_X9_either3_j44_5 D t w z 0 r4.2 _ _ _ h kc ke0
      · rw [if_neg hc6] at h
        exact T_X9_either3_j39_5 D t w z  r4.2 _ _ _ h kc ke0
    · rw [if_neg hc5] at h
      exact T_X9_either3_j39_5 D t w z  r4.2 _ _ _ h kc ke0

theorem T_X9_either3_l5 (D : Nat) (t : mTX) (w : Option Value) (z : mSG) (v : Int32 × mSG) (e : Int32 × mSG) (h : X9_either3_l5 v = some e) (ke0 : ∀ y : Int32 × mSG, e = y → ∀ (u0 u2 : Option Value), Ex (Runs (D + 21)) cd_X9_either3 (w, z, LAY t) 48 [u0, some (.int y.1), u2] [] y.2 (LAY t)) : ∀ (u2 : Option Value), Ex (Runs (D + 21)) cd_X9_either3 (w, z, LAY t) 5 [some (.ref 56), some (.int v.1), u2] [] v.2 (LAY t) :=
  m_iter (P := fun v : Int32 × mSG => ∀ (u2 : Option Value), Ex (Runs (D + 21)) cd_X9_either3 (w, z, LAY t) 5 [some (.ref 56), some (.int v.1), u2] [] v.2 (LAY t)) (Q := fun e : Int32 × mSG => (∀ y : Int32 × mSG, e = y → ∀ (u0 u2 : Option Value), Ex (Runs (D + 21)) cd_X9_either3 (w, z, LAY t) 48 [u0, some (.int y.1), u2] [] y.2 (LAY t))) (fun x o hx kc kq u2 => T_X9_either3_b5 D t w z  x.1 x.2 u2 o hx kc (fun e he => kq _ he e rfl)) mFU v e h ke0
set_option maxRecDepth 20000 in
theorem T_X9_either3 (D : Nat) (t : mTX) (s : mSG) (o : Int32 × mSG) (h : X9_either3 s = some o) : Runs (D + 22) 166 [.ref 56] s (LAY t) (some (.int o.1), o.2, LAY t) := by
  refine Runs_mk (d := D + 21) rfl ?_
  show Ex (Runs (D + 21)) cd_X9_either3 (some (.int o.1), o.2, LAY t) 0 [some (.ref 56), none, none] [] s (LAY t)
  unfold X9_either3 at h
  obtain ⟨r1, hr, h⟩ := m_bind h
  refine Ex_call 2 (fun _ => rfl) (T_X9_both3 D t  s r1 hr) rfl rfl ?_
  refine Ex_sti 1 (fun _ => rfl) ?_
  obtain ⟨e5, hl, h⟩ := m_bind h
  refine T_X9_either3_l5 D t (some (.int o.1)) o.2   (r1.1, r1.2) _ hl (fun y0 hy0 => ?_) _
  · obtain ⟨e5, rfl⟩ : ∃ q, q = y0 := ⟨_, rfl⟩
    subst hy0
    intro vu0 vu2
    obtain rfl := Option.some.inj h
    exact Ex_ret 2 (fun _ => rfl) rfl

set_option maxRecDepth 20000 in
theorem T_X9_atom2_j71 (D : Nat) (t : mTX) (x1 : Int32) (s : mSG) (o : Int32 × mSG) (h : X9_atom2_j71 x1 s = some o)  : Ex (Runs (D + 22)) cd_X9_atom2 (some (.int o.1), o.2, LAY t) 71 [some (.ref 56), some (.int x1)] [] s (LAY t) := by
  unfold X9_atom2_j71 at h
  refine Ex_br 9 ((s.1 56 31) = 0) (fun _ => rfl) (fun hc9 => ?_) (fun hc9 => ?_)
  · rw [if_pos hc9] at h
    obtain ⟨r10, hr, h⟩ := m_bind h
    refine Ex_call 2 (fun _ => rfl) (T_X9_next (D + 20) t  (sI s 56 30 ((s.1 56 30) - 1)) r10 hr) rfl rfl ?_
    obtain rfl := Option.some.inj h
    exact Ex_ret 3 (fun _ => rfl) rfl
  · rw [if_neg hc9] at h
    obtain rfl := Option.some.inj h
    exact Ex_ret 2 (fun _ => rfl) rfl

set_option maxRecDepth 20000 in
theorem T_X9_atom2_j157 (D : Nat) (t : mTX) (x1 : Int32) (s : mSG) (o : Int32 × mSG) (h : X9_atom2_j157 x1 s = some o)  : Ex (Runs (D + 22)) cd_X9_atom2 (some (.int o.1), o.2, LAY t) 157 [some (.ref 56), some (.int x1)] [] s (LAY t) := by
  unfold X9_atom2_j157 at h
  obtain ⟨r16, hr, h⟩ := m_bind h
  refine Ex_call 2 (fun _ => rfl) (T_X9_fail (D + 21) t  s r16 hr) rfl rfl ?_
  obtain rfl := Option.some.inj h
  exact Ex_ret 2 (fun _ => rfl) rfl

set_option maxRecDepth 20000 in
theorem T_X9_atom2_j123 (D : Nat) (t : mTX) (x1 : Int32) (s : mSG) (o : Int32 × mSG) (h : X9_atom2_j123 x1 s = some o)  : Ex (Runs (D + 22)) cd_X9_atom2 (some (.int o.1), o.2, LAY t) 123 [some (.ref 56), some (.int x1)] [] s (LAY t) := by
  unfold X9_atom2_j123 at h
  refine Ex_br 3 ((s.1 56 31) = 0) (fun _ => rfl) (fun hc11 => ?_) (fun hc11 => ?_)
  · rw [if_pos hc11] at h
    refine Ex_br 4 ((s.1 56 27) = 1) (fun _ => rfl) (fun hc12 => ?_) (fun hc12 => ?_)
    · rw [if_pos hc12] at h
      obtain ⟨r13, hr, h⟩ := m_bind h
      refine Ex_call 2 (fun _ => rfl) (T_X9_name (D + 18) t  s r13 hr) rfl rfl ?_
      refine Ex_br 4 ((r13.2.1 56 31) = 0) (fun _ => rfl) (fun hc14 => ?_) (fun hc14 => ?_)
      · rw [if_pos hc14] at h
        obtain ⟨r15, hr, h⟩ := m_bind h
        refine Ex_call 2 (fun _ => rfl) (T_X9_next (D + 20) t  r13.2 r15 hr) rfl rfl ?_
        obtain rfl := Option.some.inj h
        exact Ex_ret 3 (fun _ => rfl) rfl
      · rw [if_neg hc14] at h
        obtain rfl := Option.some.inj h
        exact Ex_ret 2 (fun _ => rfl) rfl
    · rw [if_neg hc12] at h
      exact T_X9_atom2_j157 D t x1 s  _ h
  · rw [if_neg hc11] at h
    exact T_X9_atom2_j157 D t x1 s  _ h

set_option maxRecDepth 20000 in
theorem T_X9_atom2 (D : Nat) (t : mTX) (s : mSG) (o : Int32 × mSG) (h : X9_atom2 s = some o) : Runs (D + 23) 167 [.ref 56] s (LAY t) (some (.int o.1), o.2, LAY t) := by
  refine Runs_mk (d := D + 22) rfl ?_
  show Ex (Runs (D + 22)) cd_X9_atom2 (some (.int o.1), o.2, LAY t) 0 [some (.ref 56), none] [] s (LAY t)
  unfold X9_atom2 at h
  refine Ex_call 5 (fun _ => rfl) (T_X9_isSign (D + 21) t 45 s _ rfl) rfl rfl ?_
  refine Ex_brZ 1 (X9_isSign 45 s) (fun _ => rfl) (fun hc => ?_) (fun hc => ?_)
  · rw [if_neg (m_nt hc)] at h
    refine Ex_call 3 (fun _ => rfl) (T_X9_isSign (D + 21) t 40 s _ rfl) rfl rfl ?_
    refine Ex_brZ 1 (X9_isSign 40 s) (fun _ => rfl) (fun hc => ?_) (fun hc => ?_)
    · rw [if_neg (m_nt hc)] at h
      refine Ex_br 3 ((s.1 56 31) = 0) (fun _ => rfl) (fun hc1 => ?_) (fun hc1 => ?_)
      · rw [if_pos hc1] at h
        refine Ex_br 4 ((s.1 56 27) = 2) (fun _ => rfl) (fun hc2 => ?_) (fun hc2 => ?_)
        · rw [if_pos hc2] at h
          obtain ⟨r3, hr, h⟩ := m_bind h
          refine Ex_call 6 (fun _ => rfl) (T_X9_next (D + 20) t  s r3 hr) rfl rfl ?_
          obtain rfl := Option.some.inj h
          exact Ex_ret 3 (fun _ => rfl) rfl
        · rw [if_neg hc2] at h
          exact T_X9_atom2_j123 D t 0 s  _ h
      · rw [if_neg hc1] at h
        exact T_X9_atom2_j123 D t 0 s  _ h
    · rw [if_pos hc] at h
      obtain ⟨r4, hr, h⟩ := m_bind h
      refine Ex_call 2 (fun _ => rfl) (T_X9_opens (D + 19) t  s r4 hr) rfl rfl ?_
      refine Ex_brZ 1 (r4.1) (fun _ => rfl) (fun hc => ?_) (fun hc => ?_)
      · rw [if_neg (m_nt hc)] at h
        obtain rfl := Option.some.inj h
        exact Ex_ret 2 (fun _ => rfl) rfl
      · rw [if_pos hc] at h
        obtain ⟨r5, hr, h⟩ := m_bind h
        refine Ex_call 2 (fun _ => rfl) (T_X9_either3 D t  r4.2 r5 hr) rfl rfl ?_
        refine Ex_call 4 (fun _ => rfl) (T_X9_isSign (D + 21) t 41 r5.2 _ rfl) rfl rfl ?_
        refine Ex_brZ 1 (X9_isSign 41 r5.2) (fun _ => rfl) (fun hc => ?_) (fun hc => ?_)
        · rw [if_neg (m_nt hc)] at h
          obtain ⟨r6, hr, h⟩ := m_bind h
          refine Ex_call 2 (fun _ => rfl) (T_X9_fail (D + 21) t  r5.2 r6 hr) rfl rfl ?_
          exact T_X9_atom2_j71 D t r5.1 r6  _ h
        · rw [if_pos hc] at h
          exact T_X9_atom2_j71 D t r5.1 r5.2  _ h
  · rw [if_pos hc] at h
    obtain ⟨r7, hr, h⟩ := m_bind h
    refine Ex_call 2 (fun _ => rfl) (T_X9_opens (D + 19) t  s r7 hr) rfl rfl ?_
    refine Ex_brZ 1 (r7.1) (fun _ => rfl) (fun hc => ?_) (fun hc => ?_)
    · rw [if_neg (m_nt hc)] at h
      obtain rfl := Option.some.inj h
      exact Ex_ret 2 (fun _ => rfl) rfl
    · rw [if_pos hc] at h
      obtain ⟨r8, hr, h⟩ := m_bind h
      refine Ex_call 2 (fun _ => rfl) (T_X9_atom3 (D + 5) t  r7.2 r8 hr) rfl rfl ?_
      obtain rfl := Option.some.inj h
      exact Ex_ret 11 (fun _ => rfl) rfl

set_option maxRecDepth 20000 in
theorem T_X9_term2_b5 (D : Nat) (t : mTX) (w : Option Value) (z : mSG) (x1 : Int32) (s : mSG) (o : (Int32 × mSG) ⊕ Int32 × mSG) (h : X9_term2_b5 x1 s = some o) (kc : ∀ y : Int32 × mSG, o = .inl y → Ex (Runs (D + 23)) cd_X9_term2 (w, z, LAY t) 5 [some (.ref 56), some (.int y.1)] [] y.2 (LAY t)) (ke0 : ∀ y : Int32 × mSG, o = .inr y → ∀ (u0 : Option Value), Ex (Runs (D + 23)) cd_X9_term2 (w, z, LAY t) 28 [u0, some (.int y.1)] [] y.2 (LAY t)) : Ex (Runs (D + 23)) cd_X9_term2 (w, z, LAY t) 5 [some (.ref 56), some (.int x1)] [] s (LAY t) := by
  unfold X9_term2_b5 at h
  refine Ex_call 3 (fun _ => rfl) (T_X9_isSign (D + 22) t 42 s _ rfl) rfl rfl ?_
  refine Ex_brZ 1 (X9_isSign 42 s) (fun _ => rfl) (fun hc => ?_) (fun hc => ?_)
  · rw [if_neg (m_nt hc)] at h
    obtain rfl := Option.some.inj h
    exact ke0 _ rfl _
  · rw [if_pos hc] at h
    obtain ⟨r2, hr, h⟩ := m_bind h
    refine Ex_call 2 (fun _ => rfl) (T_X9_next (D + 21) t  s r2 hr) rfl rfl ?_
    obtain ⟨r3, hr, h⟩ := m_bind h
    refine Ex_call 3 (fun _ => rfl) (T_X9_atom2 D t  r2 r3 hr) rfl rfl ?_
    refine Ex_sti 3 (fun _ => rfl) ?_
    obtain rfl := Option.some.inj h
    exact kc _ rfl 

theorem T_X9_term2_l5 (D : Nat) (t : mTX) (w : Option Value) (z : mSG) (v : Int32 × mSG) (e : Int32 × mSG) (h : X9_term2_l5 v = some e) (ke0 : ∀ y : Int32 × mSG, e = y → ∀ (u0 : Option Value), Ex (Runs (D + 23)) cd_X9_term2 (w, z, LAY t) 28 [u0, some (.int y.1)] [] y.2 (LAY t)) : Ex (Runs (D + 23)) cd_X9_term2 (w, z, LAY t) 5 [some (.ref 56), some (.int v.1)] [] v.2 (LAY t) :=
  m_iter (P := fun v : Int32 × mSG => Ex (Runs (D + 23)) cd_X9_term2 (w, z, LAY t) 5 [some (.ref 56), some (.int v.1)] [] v.2 (LAY t)) (Q := fun e : Int32 × mSG => (∀ y : Int32 × mSG, e = y → ∀ (u0 : Option Value), Ex (Runs (D + 23)) cd_X9_term2 (w, z, LAY t) 28 [u0, some (.int y.1)] [] y.2 (LAY t))) (fun x o hx kc kq  => T_X9_term2_b5 D t w z  x.1 x.2  o hx kc (fun e he => kq _ he e rfl)) mFU v e h ke0
set_option maxRecDepth 20000 in
theorem T_X9_term2 (D : Nat) (t : mTX) (s : mSG) (o : Int32 × mSG) (h : X9_term2 s = some o) : Runs (D + 24) 168 [.ref 56] s (LAY t) (some (.int o.1), o.2, LAY t) := by
  refine Runs_mk (d := D + 23) rfl ?_
  show Ex (Runs (D + 23)) cd_X9_term2 (some (.int o.1), o.2, LAY t) 0 [some (.ref 56), none] [] s (LAY t)
  unfold X9_term2 at h
  obtain ⟨r1, hr, h⟩ := m_bind h
  refine Ex_call 2 (fun _ => rfl) (T_X9_atom2 D t  s r1 hr) rfl rfl ?_
  refine Ex_sti 1 (fun _ => rfl) ?_
  obtain ⟨e5, hl, h⟩ := m_bind h
  refine T_X9_term2_l5 D t (some (.int o.1)) o.2   (r1.1, r1.2) _ hl (fun y0 hy0 => ?_) 
  · obtain ⟨e5, rfl⟩ : ∃ q, q = y0 := ⟨_, rfl⟩
    subst hy0
    intro vu0
    obtain rfl := Option.some.inj h
    exact Ex_ret 2 (fun _ => rfl) rfl

set_option maxRecDepth 20000 in
theorem T_X9_added2_j62_5 (D : Nat) (t : mTX) (w : Option Value) (z : mSG) (p0 : Int32) (s : mSG) (u1 u2 u3 : Option Value) (o : (Int32 × mSG) ⊕ Int32 × mSG) (h : X9_added2_j62_5 p0 s = some o) (kc : ∀ y : Int32 × mSG, o = .inl y → ∀ (u2 u3 : Option Value), Ex (Runs (D + 24)) cd_X9_added2 (w, z, LAY t) 5 [some (.ref 56), some (.int y.1), u2, u3] [] y.2 (LAY t)) (ke0 : ∀ y : Int32 × mSG, o = .inr y → ∀ (u0 u2 u3 : Option Value), Ex (Runs (D + 24)) cd_X9_added2 (w, z, LAY t) 66 [u0, some (.int y.1), u2, u3] [] y.2 (LAY t)) : Ex (Runs (D + 24)) cd_X9_added2 (w, z, LAY t) 62 [some (.ref 56), u1, u2, u3] [.int p0] s (LAY t) := by
  unfold X9_added2_j62_5 at h
  refine Ex_sti 2 (fun _ => rfl) ?_
  obtain rfl := Option.some.inj h
  exact kc _ rfl _ _

set_option maxRecDepth 20000 in
theorem T_X9_added2_j39_5 (D : Nat) (t : mTX) (w : Option Value) (z : mSG) (x1 : Int32) (p0 : Int32) (s : mSG) (u2 u3 : Option Value) (o : (Int32 × mSG) ⊕ Int32 × mSG) (h : X9_added2_j39_5 x1 p0 s = some o) (kc : ∀ y : Int32 × mSG, o = .inl y → ∀ (u2 u3 : Option Value), Ex (Runs (D + 24)) cd_X9_added2 (w, z, LAY t) 5 [some (.ref 56), some (.int y.1), u2, u3] [] y.2 (LAY t)) (ke0 : ∀ y : Int32 × mSG, o = .inr y → ∀ (u0 u2 u3 : Option Value), Ex (Runs (D + 24)) cd_X9_added2 (w, z, LAY t) 66 [u0, some (.int y.1), u2, u3] [] y.2 (LAY t)) : Ex (Runs (D + 24)) cd_X9_added2 (w, z, LAY t) 39 [some (.ref 56), some (.int x1), u2, u3] [.int p0] s (LAY t) := by
  unfold X9_added2_j39_5 at h
  obtain ⟨r3, hr, h⟩ := m_bind h
  refine Ex_call 3 (fun _ => rfl) (T_X9_next (D + 22) t  s r3 hr) rfl rfl ?_
  obtain ⟨r4, hr, h⟩ := m_bind h
  refine Ex_call 2 (fun _ => rfl) (T_X9_term2 D t  r3 r4 hr) rfl rfl ?_
  refine Ex_br 3 (p0 = 0) (fun _ => rfl) (fun hc5 => ?_) (fun hc5 => ?_)
  · rw [if_pos hc5] at h
    refine Ex_sti 3 (fun _ => rfl) ?_
    exact T_X9_added2_j62_5 D t w z (x1 - r4.1) r4.2 _ _ _ _ h kc ke0
  · rw [if_neg hc5] at h
    refine Ex_sti 4 (fun _ => rfl) ?_
    exact T_X9_added2_j62_5 D t w z (x1 + r4.1) r4.2 _ _ _ _ h kc ke0

set_option maxRecDepth 20000 in
theorem T_X9_added2_j23_5 (D : Nat) (t : mTX) (w : Option Value) (z : mSG) (x1 : Int32) (s : mSG) (u2 u3 : Option Value) (o : (Int32 × mSG) ⊕ Int32 × mSG) (h : X9_added2_j23_5 x1 s = some o) (kc : ∀ y : Int32 × mSG, o = .inl y → ∀ (u2 u3 : Option Value), Ex (Runs (D + 24)) cd_X9_added2 (w, z, LAY t) 5 [some (.ref 56), some (.int y.1), u2, u3] [] y.2 (LAY t)) (ke0 : ∀ y : Int32 × mSG, o = .inr y → ∀ (u0 u2 u3 : Option Value), Ex (Runs (D + 24)) cd_X9_added2 (w, z, LAY t) 66 [u0, some (.int y.1), u2, u3] [] y.2 (LAY t)) : Ex (Runs (D + 24)) cd_X9_added2 (w, z, LAY t) 23 [some (.ref 56), some (.int x1), u2, u3] [] s (LAY t) := by
  unfold X9_added2_j23_5 at h
  refine Ex_br 5 ((lg_cmp (s.2.2 56 29) 43) = 0) (fun _ => rfl) (fun hc2 => ?_) (fun hc2 => ?_)
  · rw [if_pos hc2] at h
    refine Ex_sti 2 (fun _ => rfl) ?_
    exact T_X9_added2_j39_5 D t w z x1 1 s _ _ _ h kc ke0
  · rw [if_neg hc2] at h
    refine Ex_sti 1 (fun _ => rfl) ?_
    exact T_X9_added2_j39_5 D t w z x1 0 s _ _ _ h kc ke0

set_option maxRecDepth 20000 in
theorem T_X9_added2_b5 (D : Nat) (t : mTX) (w : Option Value) (z : mSG) (x1 : Int32) (s : mSG) (u2 u3 : Option Value) (o : (Int32 × mSG) ⊕ Int32 × mSG) (h : X9_added2_b5 x1 s = some o) (kc : ∀ y : Int32 × mSG, o = .inl y → ∀ (u2 u3 : Option Value), Ex (Runs (D + 24)) cd_X9_added2 (w, z, LAY t) 5 [some (.ref 56), some (.int y.1), u2, u3] [] y.2 (LAY t)) (ke0 : ∀ y : Int32 × mSG, o = .inr y → ∀ (u0 u2 u3 : Option Value), Ex (Runs (D + 24)) cd_X9_added2 (w, z, LAY t) 66 [u0, some (.int y.1), u2, u3] [] y.2 (LAY t)) : Ex (Runs (D + 24)) cd_X9_added2 (w, z, LAY t) 5 [some (.ref 56), some (.int x1), u2, u3] [] s (LAY t) := by
  unfold X9_added2_b5 at h
  refine Ex_call 3 (fun _ => rfl) (T_X9_isSign (D + 23) t 43 s _ rfl) rfl rfl ?_
  refine Ex_brZ 1 (X9_isSign 43 s) (fun _ => rfl) (fun hc => ?_) (fun hc => ?_)
  · rw [if_neg (m_nt hc)] at h
    refine Ex_call 3 (fun _ => rfl) (T_X9_isSign (D + 23) t 45 s _ rfl) rfl rfl ?_
    refine Ex_brZ 1 (X9_isSign 45 s) (fun _ => rfl) (fun hc => ?_) (fun hc => ?_)
    · rw [if_neg (m_nt hc)] at h
      obtain rfl := Option.some.inj h
      exact ke0 _ rfl _ _ _
    · rw [if_pos hc] at h
      exact T_X9_added2_j23_5 D t w z x1 s _ _ _ h kc ke0
  · rw [if_pos hc] at h
    exact T_X9_added2_j23_5 D t w z x1 s _ _ _ h kc ke0

theorem T_X9_added2_l5 (D : Nat) (t : mTX) (w : Option Value) (z : mSG) (v : Int32 × mSG) (e : Int32 × mSG) (h : X9_added2_l5 v = some e) (ke0 : ∀ y : Int32 × mSG, e = y → ∀ (u0 u2 u3 : Option Value), Ex (Runs (D + 24)) cd_X9_added2 (w, z, LAY t) 66 [u0, some (.int y.1), u2, u3] [] y.2 (LAY t)) : ∀ (u2 u3 : Option Value), Ex (Runs (D + 24)) cd_X9_added2 (w, z, LAY t) 5 [some (.ref 56), some (.int v.1), u2, u3] [] v.2 (LAY t) :=
  m_iter (P := fun v : Int32 × mSG => ∀ (u2 u3 : Option Value), Ex (Runs (D + 24)) cd_X9_added2 (w, z, LAY t) 5 [some (.ref 56), some (.int v.1), u2, u3] [] v.2 (LAY t)) (Q := fun e : Int32 × mSG => (∀ y : Int32 × mSG, e = y → ∀ (u0 u2 u3 : Option Value), Ex (Runs (D + 24)) cd_X9_added2 (w, z, LAY t) 66 [u0, some (.int y.1), u2, u3] [] y.2 (LAY t))) (fun x o hx kc kq u2 u3 => T_X9_added2_b5 D t w z  x.1 x.2 u2 u3 o hx kc (fun e he => kq _ he e rfl)) mFU v e h ke0
set_option maxRecDepth 20000 in
theorem T_X9_added2 (D : Nat) (t : mTX) (s : mSG) (o : Int32 × mSG) (h : X9_added2 s = some o) : Runs (D + 25) 169 [.ref 56] s (LAY t) (some (.int o.1), o.2, LAY t) := by
  refine Runs_mk (d := D + 24) rfl ?_
  show Ex (Runs (D + 24)) cd_X9_added2 (some (.int o.1), o.2, LAY t) 0 [some (.ref 56), none, none, none] [] s (LAY t)
  unfold X9_added2 at h
  obtain ⟨r1, hr, h⟩ := m_bind h
  refine Ex_call 2 (fun _ => rfl) (T_X9_term2 D t  s r1 hr) rfl rfl ?_
  refine Ex_sti 1 (fun _ => rfl) ?_
  obtain ⟨e5, hl, h⟩ := m_bind h
  refine T_X9_added2_l5 D t (some (.int o.1)) o.2   (r1.1, r1.2) _ hl (fun y0 hy0 => ?_) _ _
  · obtain ⟨e5, rfl⟩ : ∃ q, q = y0 := ⟨_, rfl⟩
    subst hy0
    intro vu0 vu2 vu3
    obtain rfl := Option.some.inj h
    exact Ex_ret 2 (fun _ => rfl) rfl

set_option maxRecDepth 20000 in
theorem T_X9_not2_j93 (D : Nat) (t : mTX) (x1 : Int32) (p0 : Int32) (s : mSG) (u2 u3 : Option Value) (o : Int32 × mSG) (h : X9_not2_j93 x1 p0 s = some o)  : Ex (Runs (D + 25)) cd_X9_not2 (some (.int o.1), o.2, LAY t) 93 [some (.ref 56), some (.int x1), u2, u3] [.int p0] s (LAY t) := by
  unfold X9_not2_j93 at h
  obtain ⟨r7, hr, h⟩ := m_bind h
  refine Ex_call 3 (fun _ => rfl) (T_X9_next (D + 23) t  s r7 hr) rfl rfl ?_
  obtain ⟨r8, hr, h⟩ := m_bind h
  refine Ex_call 2 (fun _ => rfl) (T_X9_added2 D t  r7 r8 hr) rfl rfl ?_
  refine Ex_br 3 (p0 = 0) (fun _ => rfl) (fun hc9 => ?_) (fun hc9 => ?_)
  · rw [if_pos hc9] at h
    refine Ex_br 3 (x1 = r8.1) (fun _ => rfl) (fun hc10 => ?_) (fun hc10 => ?_)
    · rw [if_pos hc10] at h
      obtain rfl := Option.some.inj h
      exact Ex_ret 3 (fun _ => rfl) rfl
    · rw [if_neg hc10] at h
      obtain rfl := Option.some.inj h
      exact Ex_ret 2 (fun _ => rfl) rfl
  · rw [if_neg hc9] at h
    refine Ex_br 3 (r8.1 ≤ x1) (fun _ => rfl) (fun hc11 => ?_) (fun hc11 => ?_)
    · rw [if_pos hc11] at h
      obtain rfl := Option.some.inj h
      exact Ex_ret 2 (fun _ => rfl) rfl
    · rw [if_neg hc11] at h
      obtain rfl := Option.some.inj h
      exact Ex_ret 4 (fun _ => rfl) rfl

set_option maxRecDepth 20000 in
theorem T_X9_not2_j77 (D : Nat) (t : mTX) (x1 : Int32) (s : mSG) (u2 u3 : Option Value) (o : Int32 × mSG) (h : X9_not2_j77 x1 s = some o)  : Ex (Runs (D + 25)) cd_X9_not2 (some (.int o.1), o.2, LAY t) 77 [some (.ref 56), some (.int x1), u2, u3] [] s (LAY t) := by
  unfold X9_not2_j77 at h
  refine Ex_br 5 ((lg_cmp (s.2.2 56 29) 60) = 0) (fun _ => rfl) (fun hc6 => ?_) (fun hc6 => ?_)
  · rw [if_pos hc6] at h
    refine Ex_sti 2 (fun _ => rfl) ?_
    exact T_X9_not2_j93 D t x1 1 s _ _ _ h
  · rw [if_neg hc6] at h
    refine Ex_sti 1 (fun _ => rfl) ?_
    exact T_X9_not2_j93 D t x1 0 s _ _ _ h

set_option maxRecDepth 20000 in
theorem T_X9_not2 (D : Nat) (t : mTX) (s : mSG) (o : Int32 × mSG) (h : X9_not2 s = some o) : Runs (D + 26) 170 [.ref 56] s (LAY t) (some (.int o.1), o.2, LAY t) := by
  refine Runs_mk (d := D + 25) rfl ?_
  show Ex (Runs (D + 25)) cd_X9_not2 (some (.int o.1), o.2, LAY t) 0 [some (.ref 56), none, none, none] [] s (LAY t)
  unfold X9_not2 at h
  obtain ⟨r1, hr, h⟩ := m_bind h
  refine Ex_call 10 (fun _ => rfl) (T_X9_isWord (D + 22) t 110 111 116 0 0 0 0 0 s r1 hr) rfl rfl ?_
  refine Ex_brZ 1 (r1) (fun _ => rfl) (fun hc => ?_) (fun hc => ?_)
  · rw [if_neg (m_nt hc)] at h
    obtain ⟨r2, hr, h⟩ := m_bind h
    refine Ex_call 2 (fun _ => rfl) (T_X9_added2 D t  s r2 hr) rfl rfl ?_
    refine Ex_call 4 (fun _ => rfl) (T_X9_isSign (D + 24) t 60 r2.2 _ rfl) rfl rfl ?_
    refine Ex_brZ 1 (X9_isSign 60 r2.2) (fun _ => rfl) (fun hc => ?_) (fun hc => ?_)
    · rw [if_neg (m_nt hc)] at h
      refine Ex_call 3 (fun _ => rfl) (T_X9_isSign (D + 24) t 61 r2.2 _ rfl) rfl rfl ?_
      refine Ex_brZ 1 (X9_isSign 61 r2.2) (fun _ => rfl) (fun hc => ?_) (fun hc => ?_)
      · rw [if_neg (m_nt hc)] at h
        obtain rfl := Option.some.inj h
        exact Ex_ret 2 (fun _ => rfl) rfl
      · rw [if_pos hc] at h
        exact T_X9_not2_j77 D t r2.1 r2.2 _ _ _ h
    · rw [if_pos hc] at h
      exact T_X9_not2_j77 D t r2.1 r2.2 _ _ _ h
  · rw [if_pos hc] at h
    obtain ⟨r3, hr, h⟩ := m_bind h
    refine Ex_call 2 (fun _ => rfl) (T_X9_opens (D + 22) t  s r3 hr) rfl rfl ?_
    refine Ex_brZ 1 (r3.1) (fun _ => rfl) (fun hc => ?_) (fun hc => ?_)
    · rw [if_neg (m_nt hc)] at h
      obtain rfl := Option.some.inj h
      exact Ex_ret 2 (fun _ => rfl) rfl
    · rw [if_pos hc] at h
      obtain ⟨r4, hr, h⟩ := m_bind h
      refine Ex_call 2 (fun _ => rfl) (T_X9_not3 (D + 5) t  r3.2 r4 hr) rfl rfl ?_
      refine Ex_br 9 (r4.1 = 0) (fun _ => rfl) (fun hc5 => ?_) (fun hc5 => ?_)
      · rw [if_pos hc5] at h
        obtain rfl := Option.some.inj h
        exact Ex_ret 3 (fun _ => rfl) rfl
      · rw [if_neg hc5] at h
        obtain rfl := Option.some.inj h
        exact Ex_ret 2 (fun _ => rfl) rfl

set_option maxRecDepth 20000 in
theorem T_X9_both2_j45_5 (D : Nat) (t : mTX) (w : Option Value) (z : mSG) (p0 : Int32) (s : mSG) (u1 u2 : Option Value) (o : (Int32 × mSG) ⊕ Int32 × mSG) (h : X9_both2_j45_5 p0 s = some o) (kc : ∀ y : Int32 × mSG, o = .inl y → ∀ (u2 : Option Value), Ex (Runs (D + 26)) cd_X9_both2 (w, z, LAY t) 5 [some (.ref 56), some (.int y.1), u2] [] y.2 (LAY t)) (ke0 : ∀ y : Int32 × mSG, o = .inr y → ∀ (u0 u2 : Option Value), Ex (Runs (D + 26)) cd_X9_both2 (w, z, LAY t) 49 [u0, some (.int y.1), u2] [] y.2 (LAY t)) : Ex (Runs (D + 26)) cd_X9_both2 (w, z, LAY t) 45 [some (.ref 56), u1, u2] [.int p0] s (LAY t) := by
  unfold X9_both2_j45_5 at h
  refine Ex_sti 2 (fun _ => rfl) ?_
  obtain rfl := Option.some.inj h
  exact kc _ rfl _

set_option maxRecDepth 20000 in
theorem T_X9_both2_j44_5 (D : Nat) (t : mTX) (w : Option Value) (z : mSG) (s : mSG) (u1 u2 : Option Value) (o : (Int32 × mSG) ⊕ Int32 × mSG) (h : X9_both2_j44_5 s = some o) (kc : ∀ y : Int32 × mSG, o = .inl y → ∀ (u2 : Option Value), Ex (Runs (D + 26)) cd_X9_both2 (w, z, LAY t) 5 [some (.ref 56), some (.int y.1), u2] [] y.2 (LAY t)) (ke0 : ∀ y : Int32 × mSG, o = .inr y → ∀ (u0 u2 : Option Value), Ex (Runs (D + 26)) cd_X9_both2 (w, z, LAY t) 49 [u0, some (.int y.1), u2] [] y.2 (LAY t)) : Ex (Runs (D + 26)) cd_X9_both2 (w, z, LAY t) 44 [some (.ref 56), u1, u2] [] s (LAY t) := by
  unfold X9_both2_j44_5 at h
  refine Ex_sti 1 (fun _ => rfl) ?_
  exact T_X9_both2_j45_5 D t w z 0 s _ _ _ h kc ke0

set_option maxRecDepth 20000 in
theorem T_X9_both2_b5 (D : Nat) (t : mTX) (w : Option Value) (z : mSG) (x1 : Int32) (s : mSG) (u2 : Option Value) (o : (Int32 × mSG) ⊕ Int32 × mSG) (h : X9_both2_b5 x1 s = some o) (kc : ∀ y : Int32 × mSG, o = .inl y → ∀ (u2 : Option Value), Ex (Runs (D + 26)) cd_X9_both2 (w, z, LAY t) 5 [some (.ref 56), some (.int y.1), u2] [] y.2 (LAY t)) (ke0 : ∀ y : Int32 × mSG, o = .inr y → ∀ (u0 u2 : Option Value), Ex (Runs (D + 26)) cd_X9_both2 (w, z, LAY t) 49 [u0, some (.int y.1), u2] [] y.2 (LAY t)) : Ex (Runs (D + 26)) cd_X9_both2 (w, z, LAY t) 5 [some (.ref 56), some (.int x1), u2] [] s (LAY t) := by
  unfold X9_both2_b5 at h
  obtain ⟨r2, hr, h⟩ := m_bind h
  refine Ex_call 10 (fun _ => rfl) (T_X9_isWord (D + 23) t 97 110 100 0 0 0 0 0 s r2 hr) rfl rfl ?_
  refine Ex_brZ 1 (r2) (fun _ => rfl) (fun hc => ?_) (fun hc => ?_)
  · rw [if_neg (m_nt hc)] at h
    obtain rfl := Option.some.inj h
    exact ke0 _ rfl _ _
  · rw [if_pos hc] at h
    obtain ⟨r3, hr, h⟩ := m_bind h
    refine Ex_call 2 (fun _ => rfl) (T_X9_next (D + 24) t  s r3 hr) rfl rfl ?_
    obtain ⟨r4, hr, h⟩ := m_bind h
    refine Ex_call 2 (fun _ => rfl) (T_X9_not2 D t  r3 r4 hr) rfl rfl ?_
    refine Ex_br 3 (x1 = 0) (fun _ => rfl) (fun hc5 => ?_) (fun hc5 => ?_)
    · rw [if_pos hc5] at h
      exact T_X9_both2_j44_5 D t w z  r4.2 _ _ _ h kc ke0
    · rw [if_neg hc5] at h
      refine Ex_br 2 (r4.1 = 0) (fun _ => rfl) (fun hc6 => ?_) (fun hc6 => ?_)
      · rw [if_pos hc6] at h
        exact T_X9_both2_j44_5 D t w z  r4.2 _ _ _ h kc ke0
      · rw [if_neg hc6] at h
        refine Ex_sti 2 (fun _ => rfl) ?_
        exact T_X9_both2_j45_5 D t w z 1 r4.2 _ _ _ h kc ke0

theorem T_X9_both2_l5 (D : Nat) (t : mTX) (w : Option Value) (z : mSG) (v : Int32 × mSG) (e : Int32 × mSG) (h : X9_both2_l5 v = some e) (ke0 : ∀ y : Int32 × mSG, e = y → ∀ (u0 u2 : Option Value), Ex (Runs (D + 26)) cd_X9_both2 (w, z, LAY t) 49 [u0, some (.int y.1), u2] [] y.2 (LAY t)) : ∀ (u2 : Option Value), Ex (Runs (D + 26)) cd_X9_both2 (w, z, LAY t) 5 [some (.ref 56), some (.int v.1), u2] [] v.2 (LAY t) :=
  m_iter (P := fun v : Int32 × mSG => ∀ (u2 : Option Value), Ex (Runs (D + 26)) cd_X9_both2 (w, z, LAY t) 5 [some (.ref 56), some (.int v.1), u2] [] v.2 (LAY t)) (Q := fun e : Int32 × mSG => (∀ y : Int32 × mSG, e = y → ∀ (u0 u2 : Option Value), Ex (Runs (D + 26)) cd_X9_both2 (w, z, LAY t) 49 [u0, some (.int y.1), u2] [] y.2 (LAY t))) (fun x o hx kc kq u2 => T_X9_both2_b5 D t w z  x.1 x.2 u2 o hx kc (fun e he => kq _ he e rfl)) mFU v e h ke0
set_option maxRecDepth 20000 in
theorem T_X9_both2 (D : Nat) (t : mTX) (s : mSG) (o : Int32 × mSG) (h : X9_both2 s = some o) : Runs (D + 27) 171 [.ref 56] s (LAY t) (some (.int o.1), o.2, LAY t) := by
  refine Runs_mk (d := D + 26) rfl ?_
  show Ex (Runs (D + 26)) cd_X9_both2 (some (.int o.1), o.2, LAY t) 0 [some (.ref 56), none, none] [] s (LAY t)
  unfold X9_both2 at h
  obtain ⟨r1, hr, h⟩ := m_bind h
  refine Ex_call 2 (fun _ => rfl) (T_X9_not2 D t  s r1 hr) rfl rfl ?_
  refine Ex_sti 1 (fun _ => rfl) ?_
  obtain ⟨e5, hl, h⟩ := m_bind h
  refine T_X9_both2_l5 D t (some (.int o.1)) o.2   (r1.1, r1.2) _ hl (fun y0 hy0 => ?_) _
  · obtain ⟨e5, rfl⟩ : ∃ q, q = y0 := ⟨_, rfl⟩
    subst hy0
    intro vu0 vu2
    obtain rfl := Option.some.inj h
    exact Ex_ret 2 (fun _ => rfl) rfl

set_option maxRecDepth 20000 in
theorem T_X9_either2_j44_5 (D : Nat) (t : mTX) (w : Option Value) (z : mSG) (p0 : Int32) (s : mSG) (u1 u2 : Option Value) (o : (Int32 × mSG) ⊕ Int32 × mSG) (h : X9_either2_j44_5 p0 s = some o) (kc : ∀ y : Int32 × mSG, o = .inl y → ∀ (u2 : Option Value), Ex (Runs (D + 27)) cd_X9_either2 (w, z, LAY t) 5 [some (.ref 56), some (.int y.1), u2] [] y.2 (LAY t)) (ke0 : ∀ y : Int32 × mSG, o = .inr y → ∀ (u0 u2 : Option Value), Ex (Runs (D + 27)) cd_X9_either2 (w, z, LAY t) 48 [u0, some (.int y.1), u2] [] y.2 (LAY t)) : Ex (Runs (D + 27)) cd_X9_either2 (w, z, LAY t) 44 [some (.ref 56), u1, u2] [.int p0] s (LAY t) := by
  unfold X9_either2_j44_5 at h
  refine Ex_sti 2 (fun _ => rfl) ?_
  obtain rfl := Option.some.inj h
  exact kc _ rfl _

set_option maxRecDepth 20000 in
theorem T_X9_either2_j39_5 (D : Nat) (t : mTX) (w : Option Value) (z : mSG) (s : mSG) (u1 u2 : Option Value) (o : (Int32 × mSG) ⊕ Int32 × mSG) (h : X9_either2_j39_5 s = some o) (kc : ∀ y : Int32 × mSG, o = .inl y → ∀ (u2 : Option Value), Ex (Runs (D + 27)) cd_X9_either2 (w, z, LAY t) 5 [some (.ref 56), some (.int y.1), u2] [] y.2 (LAY t)) (ke0 : ∀ y : Int32 × mSG, o = .inr y → ∀ (u0 u2 : Option Value), Ex (Runs (D + 27)) cd_X9_either2 (w, z, LAY t) 48 [u0, some (.int y.1), u2] [] y.2 (LAY t)) : Ex (Runs (D + 27)) cd_X9_either2 (w, z, LAY t) 39 [some (.ref 56), u1, u2] [] s (LAY t) := by
  unfold X9_either2_j39_5 at h
  refine Ex_sti 2 (fun _ => rfl) ?_
  exact T_X9_either2_j44_5 D t w z 1 s _ _ _ h kc ke0

set_option maxRecDepth 20000 in
theorem T_X9_either2_b5 (D : Nat) (t : mTX) (w : Option Value) (z : mSG) (x1 : Int32) (s : mSG) (u2 : Option Value) (o : (Int32 × mSG) ⊕ Int32 × mSG) (h : X9_either2_b5 x1 s = some o) (kc : ∀ y : Int32 × mSG, o = .inl y → ∀ (u2 : Option Value), Ex (Runs (D + 27)) cd_X9_either2 (w, z, LAY t) 5 [some (.ref 56), some (.int y.1), u2] [] y.2 (LAY t)) (ke0 : ∀ y : Int32 × mSG, o = .inr y → ∀ (u0 u2 : Option Value), Ex (Runs (D + 27)) cd_X9_either2 (w, z, LAY t) 48 [u0, some (.int y.1), u2] [] y.2 (LAY t)) : Ex (Runs (D + 27)) cd_X9_either2 (w, z, LAY t) 5 [some (.ref 56), some (.int x1), u2] [] s (LAY t) := by
  unfold X9_either2_b5 at h
  obtain ⟨r2, hr, h⟩ := m_bind h
  refine Ex_call 10 (fun _ => rfl) (T_X9_isWord (D + 24) t 111 114 0 0 0 0 0 0 s r2 hr) rfl rfl ?_
  refine Ex_brZ 1 (r2) (fun _ => rfl) (fun hc => ?_) (fun hc => ?_)
  · rw [if_neg (m_nt hc)] at h
    obtain rfl := Option.some.inj h
    exact ke0 _ rfl _ _
  · rw [if_pos hc] at h
    obtain ⟨r3, hr, h⟩ := m_bind h
    refine Ex_call 2 (fun _ => rfl) (T_X9_next (D + 25) t  s r3 hr) rfl rfl ?_
    obtain ⟨r4, hr, h⟩ := m_bind h
    refine Ex_call 2 (fun _ => rfl) (T_X9_both2 D t  r3 r4 hr) rfl rfl ?_
    refine Ex_br 3 (x1 = 0) (fun _ => rfl) (fun hc5 => ?_) (fun hc5 => ?_)
    · rw [if_pos hc5] at h
      refine Ex_br 2 (r4.1 = 0) (fun _ => rfl) (fun hc6 => ?_) (fun hc6 => ?_)
      · rw [if_pos hc6] at h
        refine Ex_sti 1 (fun _ => rfl) ?_
        exact T_X9_either2_j44_5 D t w z 0 r4.2 _ _ _ h kc ke0
      · rw [if_neg hc6] at h
        exact T_X9_either2_j39_5 D t w z  r4.2 _ _ _ h kc ke0
    · rw [if_neg hc5] at h
      exact T_X9_either2_j39_5 D t w z  r4.2 _ _ _ h kc ke0

theorem T_X9_either2_l5 (D : Nat) (t : mTX) (w : Option Value) (z : mSG) (v : Int32 × mSG) (e : Int32 × mSG) (h : X9_either2_l5 v = some e) (ke0 : ∀ y : Int32 × mSG, e = y → ∀ (u0 u2 : Option Value), Ex (Runs (D + 27)) cd_X9_either2 (w, z, LAY t) 48 [u0, some (.int y.1), u2] [] y.2 (LAY t)) : ∀ (u2 : Option Value), Ex (Runs (D + 27)) cd_X9_either2 (w, z, LAY t) 5 [some (.ref 56), some (.int v.1), u2] [] v.2 (LAY t) :=
  m_iter (P := fun v : Int32 × mSG => ∀ (u2 : Option Value), Ex (Runs (D + 27)) cd_X9_either2 (w, z, LAY t) 5 [some (.ref 56), some (.int v.1), u2] [] v.2 (LAY t)) (Q := fun e : Int32 × mSG => (∀ y : Int32 × mSG, e = y → ∀ (u0 u2 : Option Value), Ex (Runs (D + 27)) cd_X9_either2 (w, z, LAY t) 48 [u0, some (.int y.1), u2] [] y.2 (LAY t))) (fun x o hx kc kq u2 => T_X9_either2_b5 D t w z  x.1 x.2 u2 o hx kc (fun e he => kq _ he e rfl)) mFU v e h ke0
set_option maxRecDepth 20000 in
theorem T_X9_either2 (D : Nat) (t : mTX) (s : mSG) (o : Int32 × mSG) (h : X9_either2 s = some o) : Runs (D + 28) 172 [.ref 56] s (LAY t) (some (.int o.1), o.2, LAY t) := by
  refine Runs_mk (d := D + 27) rfl ?_
  show Ex (Runs (D + 27)) cd_X9_either2 (some (.int o.1), o.2, LAY t) 0 [some (.ref 56), none, none] [] s (LAY t)
  unfold X9_either2 at h
  obtain ⟨r1, hr, h⟩ := m_bind h
  refine Ex_call 2 (fun _ => rfl) (T_X9_both2 D t  s r1 hr) rfl rfl ?_
  refine Ex_sti 1 (fun _ => rfl) ?_
  obtain ⟨e5, hl, h⟩ := m_bind h
  refine T_X9_either2_l5 D t (some (.int o.1)) o.2   (r1.1, r1.2) _ hl (fun y0 hy0 => ?_) _
  · obtain ⟨e5, rfl⟩ : ∃ q, q = y0 := ⟨_, rfl⟩
    subst hy0
    intro vu0 vu2
    obtain rfl := Option.some.inj h
    exact Ex_ret 2 (fun _ => rfl) rfl

set_option maxRecDepth 20000 in
theorem T_X9_atom1_j71 (D : Nat) (t : mTX) (x1 : Int32) (s : mSG) (o : Int32 × mSG) (h : X9_atom1_j71 x1 s = some o)  : Ex (Runs (D + 28)) cd_X9_atom1 (some (.int o.1), o.2, LAY t) 71 [some (.ref 56), some (.int x1)] [] s (LAY t) := by
  unfold X9_atom1_j71 at h
  refine Ex_br 9 ((s.1 56 31) = 0) (fun _ => rfl) (fun hc9 => ?_) (fun hc9 => ?_)
  · rw [if_pos hc9] at h
    obtain ⟨r10, hr, h⟩ := m_bind h
    refine Ex_call 2 (fun _ => rfl) (T_X9_next (D + 26) t  (sI s 56 30 ((s.1 56 30) - 1)) r10 hr) rfl rfl ?_
    obtain rfl := Option.some.inj h
    exact Ex_ret 3 (fun _ => rfl) rfl
  · rw [if_neg hc9] at h
    obtain rfl := Option.some.inj h
    exact Ex_ret 2 (fun _ => rfl) rfl

set_option maxRecDepth 20000 in
theorem T_X9_atom1_j157 (D : Nat) (t : mTX) (x1 : Int32) (s : mSG) (o : Int32 × mSG) (h : X9_atom1_j157 x1 s = some o)  : Ex (Runs (D + 28)) cd_X9_atom1 (some (.int o.1), o.2, LAY t) 157 [some (.ref 56), some (.int x1)] [] s (LAY t) := by
  unfold X9_atom1_j157 at h
  obtain ⟨r16, hr, h⟩ := m_bind h
  refine Ex_call 2 (fun _ => rfl) (T_X9_fail (D + 27) t  s r16 hr) rfl rfl ?_
  obtain rfl := Option.some.inj h
  exact Ex_ret 2 (fun _ => rfl) rfl

set_option maxRecDepth 20000 in
theorem T_X9_atom1_j123 (D : Nat) (t : mTX) (x1 : Int32) (s : mSG) (o : Int32 × mSG) (h : X9_atom1_j123 x1 s = some o)  : Ex (Runs (D + 28)) cd_X9_atom1 (some (.int o.1), o.2, LAY t) 123 [some (.ref 56), some (.int x1)] [] s (LAY t) := by
  unfold X9_atom1_j123 at h
  refine Ex_br 3 ((s.1 56 31) = 0) (fun _ => rfl) (fun hc11 => ?_) (fun hc11 => ?_)
  · rw [if_pos hc11] at h
    refine Ex_br 4 ((s.1 56 27) = 1) (fun _ => rfl) (fun hc12 => ?_) (fun hc12 => ?_)
    · rw [if_pos hc12] at h
      obtain ⟨r13, hr, h⟩ := m_bind h
      refine Ex_call 2 (fun _ => rfl) (T_X9_name (D + 24) t  s r13 hr) rfl rfl ?_
      refine Ex_br 4 ((r13.2.1 56 31) = 0) (fun _ => rfl) (fun hc14 => ?_) (fun hc14 => ?_)
      · rw [if_pos hc14] at h
        obtain ⟨r15, hr, h⟩ := m_bind h
        refine Ex_call 2 (fun _ => rfl) (T_X9_next (D + 26) t  r13.2 r15 hr) rfl rfl ?_
        obtain rfl := Option.some.inj h
        exact Ex_ret 3 (fun _ => rfl) rfl
      · rw [if_neg hc14] at h
        obtain rfl := Option.some.inj h
        exact Ex_ret 2 (fun _ => rfl) rfl
    · rw [if_neg hc12] at h
      exact T_X9_atom1_j157 D t x1 s  _ h
  · rw [if_neg hc11] at h
    exact T_X9_atom1_j157 D t x1 s  _ h

set_option maxRecDepth 20000 in
theorem T_X9_atom1 (D : Nat) (t : mTX) (s : mSG) (o : Int32 × mSG) (h : X9_atom1 s = some o) : Runs (D + 29) 173 [.ref 56] s (LAY t) (some (.int o.1), o.2, LAY t) := by
  refine Runs_mk (d := D + 28) rfl ?_
  show Ex (Runs (D + 28)) cd_X9_atom1 (some (.int o.1), o.2, LAY t) 0 [some (.ref 56), none] [] s (LAY t)
  unfold X9_atom1 at h
  refine Ex_call 5 (fun _ => rfl) (T_X9_isSign (D + 27) t 45 s _ rfl) rfl rfl ?_
  refine Ex_brZ 1 (X9_isSign 45 s) (fun _ => rfl) (fun hc => ?_) (fun hc => ?_)
  · rw [if_neg (m_nt hc)] at h
    refine Ex_call 3 (fun _ => rfl) (T_X9_isSign (D + 27) t 40 s _ rfl) rfl rfl ?_
    refine Ex_brZ 1 (X9_isSign 40 s) (fun _ => rfl) (fun hc => ?_) (fun hc => ?_)
    · rw [if_neg (m_nt hc)] at h
      refine Ex_br 3 ((s.1 56 31) = 0) (fun _ => rfl) (fun hc1 => ?_) (fun hc1 => ?_)
      · rw [if_pos hc1] at h
        refine Ex_br 4 ((s.1 56 27) = 2) (fun _ => rfl) (fun hc2 => ?_) (fun hc2 => ?_)
        · rw [if_pos hc2] at h
          obtain ⟨r3, hr, h⟩ := m_bind h
          refine Ex_call 6 (fun _ => rfl) (T_X9_next (D + 26) t  s r3 hr) rfl rfl ?_
          obtain rfl := Option.some.inj h
          exact Ex_ret 3 (fun _ => rfl) rfl
        · rw [if_neg hc2] at h
          exact T_X9_atom1_j123 D t 0 s  _ h
      · rw [if_neg hc1] at h
        exact T_X9_atom1_j123 D t 0 s  _ h
    · rw [if_pos hc] at h
      obtain ⟨r4, hr, h⟩ := m_bind h
      refine Ex_call 2 (fun _ => rfl) (T_X9_opens (D + 25) t  s r4 hr) rfl rfl ?_
      refine Ex_brZ 1 (r4.1) (fun _ => rfl) (fun hc => ?_) (fun hc => ?_)
      · rw [if_neg (m_nt hc)] at h
        obtain rfl := Option.some.inj h
        exact Ex_ret 2 (fun _ => rfl) rfl
      · rw [if_pos hc] at h
        obtain ⟨r5, hr, h⟩ := m_bind h
        refine Ex_call 2 (fun _ => rfl) (T_X9_either2 D t  r4.2 r5 hr) rfl rfl ?_
        refine Ex_call 4 (fun _ => rfl) (T_X9_isSign (D + 27) t 41 r5.2 _ rfl) rfl rfl ?_
        refine Ex_brZ 1 (X9_isSign 41 r5.2) (fun _ => rfl) (fun hc => ?_) (fun hc => ?_)
        · rw [if_neg (m_nt hc)] at h
          obtain ⟨r6, hr, h⟩ := m_bind h
          refine Ex_call 2 (fun _ => rfl) (T_X9_fail (D + 27) t  r5.2 r6 hr) rfl rfl ?_
          exact T_X9_atom1_j71 D t r5.1 r6  _ h
        · rw [if_pos hc] at h
          exact T_X9_atom1_j71 D t r5.1 r5.2  _ h
  · rw [if_pos hc] at h
    obtain ⟨r7, hr, h⟩ := m_bind h
    refine Ex_call 2 (fun _ => rfl) (T_X9_opens (D + 25) t  s r7 hr) rfl rfl ?_
    refine Ex_brZ 1 (r7.1) (fun _ => rfl) (fun hc => ?_) (fun hc => ?_)
    · rw [if_neg (m_nt hc)] at h
      obtain rfl := Option.some.inj h
      exact Ex_ret 2 (fun _ => rfl) rfl
    · rw [if_pos hc] at h
      obtain ⟨r8, hr, h⟩ := m_bind h
      refine Ex_call 2 (fun _ => rfl) (T_X9_atom2 (D + 5) t  r7.2 r8 hr) rfl rfl ?_
      obtain rfl := Option.some.inj h
      exact Ex_ret 11 (fun _ => rfl) rfl

set_option maxRecDepth 20000 in
theorem T_X9_term1_b5 (D : Nat) (t : mTX) (w : Option Value) (z : mSG) (x1 : Int32) (s : mSG) (o : (Int32 × mSG) ⊕ Int32 × mSG) (h : X9_term1_b5 x1 s = some o) (kc : ∀ y : Int32 × mSG, o = .inl y → Ex (Runs (D + 29)) cd_X9_term1 (w, z, LAY t) 5 [some (.ref 56), some (.int y.1)] [] y.2 (LAY t)) (ke0 : ∀ y : Int32 × mSG, o = .inr y → ∀ (u0 : Option Value), Ex (Runs (D + 29)) cd_X9_term1 (w, z, LAY t) 28 [u0, some (.int y.1)] [] y.2 (LAY t)) : Ex (Runs (D + 29)) cd_X9_term1 (w, z, LAY t) 5 [some (.ref 56), some (.int x1)] [] s (LAY t) := by
  unfold X9_term1_b5 at h
  refine Ex_call 3 (fun _ => rfl) (T_X9_isSign (D + 28) t 42 s _ rfl) rfl rfl ?_
  refine Ex_brZ 1 (X9_isSign 42 s) (fun _ => rfl) (fun hc => ?_) (fun hc => ?_)
  · rw [if_neg (m_nt hc)] at h
    obtain rfl := Option.some.inj h
    exact ke0 _ rfl _
  · rw [if_pos hc] at h
    obtain ⟨r2, hr, h⟩ := m_bind h
    refine Ex_call 2 (fun _ => rfl) (T_X9_next (D + 27) t  s r2 hr) rfl rfl ?_
    obtain ⟨r3, hr, h⟩ := m_bind h
    refine Ex_call 3 (fun _ => rfl) (T_X9_atom1 D t  r2 r3 hr) rfl rfl ?_
    refine Ex_sti 3 (fun _ => rfl) ?_
    obtain rfl := Option.some.inj h
    exact kc _ rfl 

theorem T_X9_term1_l5 (D : Nat) (t : mTX) (w : Option Value) (z : mSG) (v : Int32 × mSG) (e : Int32 × mSG) (h : X9_term1_l5 v = some e) (ke0 : ∀ y : Int32 × mSG, e = y → ∀ (u0 : Option Value), Ex (Runs (D + 29)) cd_X9_term1 (w, z, LAY t) 28 [u0, some (.int y.1)] [] y.2 (LAY t)) : Ex (Runs (D + 29)) cd_X9_term1 (w, z, LAY t) 5 [some (.ref 56), some (.int v.1)] [] v.2 (LAY t) :=
  m_iter (P := fun v : Int32 × mSG => Ex (Runs (D + 29)) cd_X9_term1 (w, z, LAY t) 5 [some (.ref 56), some (.int v.1)] [] v.2 (LAY t)) (Q := fun e : Int32 × mSG => (∀ y : Int32 × mSG, e = y → ∀ (u0 : Option Value), Ex (Runs (D + 29)) cd_X9_term1 (w, z, LAY t) 28 [u0, some (.int y.1)] [] y.2 (LAY t))) (fun x o hx kc kq  => T_X9_term1_b5 D t w z  x.1 x.2  o hx kc (fun e he => kq _ he e rfl)) mFU v e h ke0
set_option maxRecDepth 20000 in
theorem T_X9_term1 (D : Nat) (t : mTX) (s : mSG) (o : Int32 × mSG) (h : X9_term1 s = some o) : Runs (D + 30) 174 [.ref 56] s (LAY t) (some (.int o.1), o.2, LAY t) := by
  refine Runs_mk (d := D + 29) rfl ?_
  show Ex (Runs (D + 29)) cd_X9_term1 (some (.int o.1), o.2, LAY t) 0 [some (.ref 56), none] [] s (LAY t)
  unfold X9_term1 at h
  obtain ⟨r1, hr, h⟩ := m_bind h
  refine Ex_call 2 (fun _ => rfl) (T_X9_atom1 D t  s r1 hr) rfl rfl ?_
  refine Ex_sti 1 (fun _ => rfl) ?_
  obtain ⟨e5, hl, h⟩ := m_bind h
  refine T_X9_term1_l5 D t (some (.int o.1)) o.2   (r1.1, r1.2) _ hl (fun y0 hy0 => ?_) 
  · obtain ⟨e5, rfl⟩ : ∃ q, q = y0 := ⟨_, rfl⟩
    subst hy0
    intro vu0
    obtain rfl := Option.some.inj h
    exact Ex_ret 2 (fun _ => rfl) rfl

set_option maxRecDepth 20000 in
theorem T_X9_added1_j62_5 (D : Nat) (t : mTX) (w : Option Value) (z : mSG) (p0 : Int32) (s : mSG) (u1 u2 u3 : Option Value) (o : (Int32 × mSG) ⊕ Int32 × mSG) (h : X9_added1_j62_5 p0 s = some o) (kc : ∀ y : Int32 × mSG, o = .inl y → ∀ (u2 u3 : Option Value), Ex (Runs (D + 30)) cd_X9_added1 (w, z, LAY t) 5 [some (.ref 56), some (.int y.1), u2, u3] [] y.2 (LAY t)) (ke0 : ∀ y : Int32 × mSG, o = .inr y → ∀ (u0 u2 u3 : Option Value), Ex (Runs (D + 30)) cd_X9_added1 (w, z, LAY t) 66 [u0, some (.int y.1), u2, u3] [] y.2 (LAY t)) : Ex (Runs (D + 30)) cd_X9_added1 (w, z, LAY t) 62 [some (.ref 56), u1, u2, u3] [.int p0] s (LAY t) := by
  unfold X9_added1_j62_5 at h
  refine Ex_sti 2 (fun _ => rfl) ?_
  obtain rfl := Option.some.inj h
  exact kc _ rfl _ _

set_option maxRecDepth 20000 in
theorem T_X9_added1_j39_5 (D : Nat) (t : mTX) (w : Option Value) (z : mSG) (x1 : Int32) (p0 : Int32) (s : mSG) (u2 u3 : Option Value) (o : (Int32 × mSG) ⊕ Int32 × mSG) (h : X9_added1_j39_5 x1 p0 s = some o) (kc : ∀ y : Int32 × mSG, o = .inl y → ∀ (u2 u3 : Option Value), Ex (Runs (D + 30)) cd_X9_added1 (w, z, LAY t) 5 [some (.ref 56), some (.int y.1), u2, u3] [] y.2 (LAY t)) (ke0 : ∀ y : Int32 × mSG, o = .inr y → ∀ (u0 u2 u3 : Option Value), Ex (Runs (D + 30)) cd_X9_added1 (w, z, LAY t) 66 [u0, some (.int y.1), u2, u3] [] y.2 (LAY t)) : Ex (Runs (D + 30)) cd_X9_added1 (w, z, LAY t) 39 [some (.ref 56), some (.int x1), u2, u3] [.int p0] s (LAY t) := by
  unfold X9_added1_j39_5 at h
  obtain ⟨r3, hr, h⟩ := m_bind h
  refine Ex_call 3 (fun _ => rfl) (T_X9_next (D + 28) t  s r3 hr) rfl rfl ?_
  obtain ⟨r4, hr, h⟩ := m_bind h
  refine Ex_call 2 (fun _ => rfl) (T_X9_term1 D t  r3 r4 hr) rfl rfl ?_
  refine Ex_br 3 (p0 = 0) (fun _ => rfl) (fun hc5 => ?_) (fun hc5 => ?_)
  · rw [if_pos hc5] at h
    refine Ex_sti 3 (fun _ => rfl) ?_
    exact T_X9_added1_j62_5 D t w z (x1 - r4.1) r4.2 _ _ _ _ h kc ke0
  · rw [if_neg hc5] at h
    refine Ex_sti 4 (fun _ => rfl) ?_
    exact T_X9_added1_j62_5 D t w z (x1 + r4.1) r4.2 _ _ _ _ h kc ke0

set_option maxRecDepth 20000 in
theorem T_X9_added1_j23_5 (D : Nat) (t : mTX) (w : Option Value) (z : mSG) (x1 : Int32) (s : mSG) (u2 u3 : Option Value) (o : (Int32 × mSG) ⊕ Int32 × mSG) (h : X9_added1_j23_5 x1 s = some o) (kc : ∀ y : Int32 × mSG, o = .inl y → ∀ (u2 u3 : Option Value), Ex (Runs (D + 30)) cd_X9_added1 (w, z, LAY t) 5 [some (.ref 56), some (.int y.1), u2, u3] [] y.2 (LAY t)) (ke0 : ∀ y : Int32 × mSG, o = .inr y → ∀ (u0 u2 u3 : Option Value), Ex (Runs (D + 30)) cd_X9_added1 (w, z, LAY t) 66 [u0, some (.int y.1), u2, u3] [] y.2 (LAY t)) : Ex (Runs (D + 30)) cd_X9_added1 (w, z, LAY t) 23 [some (.ref 56), some (.int x1), u2, u3] [] s (LAY t) := by
  unfold X9_added1_j23_5 at h
  refine Ex_br 5 ((lg_cmp (s.2.2 56 29) 43) = 0) (fun _ => rfl) (fun hc2 => ?_) (fun hc2 => ?_)
  · rw [if_pos hc2] at h
    refine Ex_sti 2 (fun _ => rfl) ?_
    exact T_X9_added1_j39_5 D t w z x1 1 s _ _ _ h kc ke0
  · rw [if_neg hc2] at h
    refine Ex_sti 1 (fun _ => rfl) ?_
    exact T_X9_added1_j39_5 D t w z x1 0 s _ _ _ h kc ke0

set_option maxRecDepth 20000 in
theorem T_X9_added1_b5 (D : Nat) (t : mTX) (w : Option Value) (z : mSG) (x1 : Int32) (s : mSG) (u2 u3 : Option Value) (o : (Int32 × mSG) ⊕ Int32 × mSG) (h : X9_added1_b5 x1 s = some o) (kc : ∀ y : Int32 × mSG, o = .inl y → ∀ (u2 u3 : Option Value), Ex (Runs (D + 30)) cd_X9_added1 (w, z, LAY t) 5 [some (.ref 56), some (.int y.1), u2, u3] [] y.2 (LAY t)) (ke0 : ∀ y : Int32 × mSG, o = .inr y → ∀ (u0 u2 u3 : Option Value), Ex (Runs (D + 30)) cd_X9_added1 (w, z, LAY t) 66 [u0, some (.int y.1), u2, u3] [] y.2 (LAY t)) : Ex (Runs (D + 30)) cd_X9_added1 (w, z, LAY t) 5 [some (.ref 56), some (.int x1), u2, u3] [] s (LAY t) := by
  unfold X9_added1_b5 at h
  refine Ex_call 3 (fun _ => rfl) (T_X9_isSign (D + 29) t 43 s _ rfl) rfl rfl ?_
  refine Ex_brZ 1 (X9_isSign 43 s) (fun _ => rfl) (fun hc => ?_) (fun hc => ?_)
  · rw [if_neg (m_nt hc)] at h
    refine Ex_call 3 (fun _ => rfl) (T_X9_isSign (D + 29) t 45 s _ rfl) rfl rfl ?_
    refine Ex_brZ 1 (X9_isSign 45 s) (fun _ => rfl) (fun hc => ?_) (fun hc => ?_)
    · rw [if_neg (m_nt hc)] at h
      obtain rfl := Option.some.inj h
      exact ke0 _ rfl _ _ _
    · rw [if_pos hc] at h
      exact T_X9_added1_j23_5 D t w z x1 s _ _ _ h kc ke0
  · rw [if_pos hc] at h
    exact T_X9_added1_j23_5 D t w z x1 s _ _ _ h kc ke0

theorem T_X9_added1_l5 (D : Nat) (t : mTX) (w : Option Value) (z : mSG) (v : Int32 × mSG) (e : Int32 × mSG) (h : X9_added1_l5 v = some e) (ke0 : ∀ y : Int32 × mSG, e = y → ∀ (u0 u2 u3 : Option Value), Ex (Runs (D + 30)) cd_X9_added1 (w, z, LAY t) 66 [u0, some (.int y.1), u2, u3] [] y.2 (LAY t)) : ∀ (u2 u3 : Option Value), Ex (Runs (D + 30)) cd_X9_added1 (w, z, LAY t) 5 [some (.ref 56), some (.int v.1), u2, u3] [] v.2 (LAY t) :=
  m_iter (P := fun v : Int32 × mSG => ∀ (u2 u3 : Option Value), Ex (Runs (D + 30)) cd_X9_added1 (w, z, LAY t) 5 [some (.ref 56), some (.int v.1), u2, u3] [] v.2 (LAY t)) (Q := fun e : Int32 × mSG => (∀ y : Int32 × mSG, e = y → ∀ (u0 u2 u3 : Option Value), Ex (Runs (D + 30)) cd_X9_added1 (w, z, LAY t) 66 [u0, some (.int y.1), u2, u3] [] y.2 (LAY t))) (fun x o hx kc kq u2 u3 => T_X9_added1_b5 D t w z  x.1 x.2 u2 u3 o hx kc (fun e he => kq _ he e rfl)) mFU v e h ke0
set_option maxRecDepth 20000 in
theorem T_X9_added1 (D : Nat) (t : mTX) (s : mSG) (o : Int32 × mSG) (h : X9_added1 s = some o) : Runs (D + 31) 175 [.ref 56] s (LAY t) (some (.int o.1), o.2, LAY t) := by
  refine Runs_mk (d := D + 30) rfl ?_
  show Ex (Runs (D + 30)) cd_X9_added1 (some (.int o.1), o.2, LAY t) 0 [some (.ref 56), none, none, none] [] s (LAY t)
  unfold X9_added1 at h
  obtain ⟨r1, hr, h⟩ := m_bind h
  refine Ex_call 2 (fun _ => rfl) (T_X9_term1 D t  s r1 hr) rfl rfl ?_
  refine Ex_sti 1 (fun _ => rfl) ?_
  obtain ⟨e5, hl, h⟩ := m_bind h
  refine T_X9_added1_l5 D t (some (.int o.1)) o.2   (r1.1, r1.2) _ hl (fun y0 hy0 => ?_) _ _
  · obtain ⟨e5, rfl⟩ : ∃ q, q = y0 := ⟨_, rfl⟩
    subst hy0
    intro vu0 vu2 vu3
    obtain rfl := Option.some.inj h
    exact Ex_ret 2 (fun _ => rfl) rfl

set_option maxRecDepth 20000 in
theorem T_X9_not1_j93 (D : Nat) (t : mTX) (x1 : Int32) (p0 : Int32) (s : mSG) (u2 u3 : Option Value) (o : Int32 × mSG) (h : X9_not1_j93 x1 p0 s = some o)  : Ex (Runs (D + 31)) cd_X9_not1 (some (.int o.1), o.2, LAY t) 93 [some (.ref 56), some (.int x1), u2, u3] [.int p0] s (LAY t) := by
  unfold X9_not1_j93 at h
  obtain ⟨r7, hr, h⟩ := m_bind h
  refine Ex_call 3 (fun _ => rfl) (T_X9_next (D + 29) t  s r7 hr) rfl rfl ?_
  obtain ⟨r8, hr, h⟩ := m_bind h
  refine Ex_call 2 (fun _ => rfl) (T_X9_added1 D t  r7 r8 hr) rfl rfl ?_
  refine Ex_br 3 (p0 = 0) (fun _ => rfl) (fun hc9 => ?_) (fun hc9 => ?_)
  · rw [if_pos hc9] at h
    refine Ex_br 3 (x1 = r8.1) (fun _ => rfl) (fun hc10 => ?_) (fun hc10 => ?_)
    · rw [if_pos hc10] at h
      obtain rfl := Option.some.inj h
      exact Ex_ret 3 (fun _ => rfl) rfl
    · rw [if_neg hc10] at h
      obtain rfl := Option.some.inj h
      exact Ex_ret 2 (fun _ => rfl) rfl
  · rw [if_neg hc9] at h
    refine Ex_br 3 (r8.1 ≤ x1) (fun _ => rfl) (fun hc11 => ?_) (fun hc11 => ?_)
    · rw [if_pos hc11] at h
      obtain rfl := Option.some.inj h
      exact Ex_ret 2 (fun _ => rfl) rfl
    · rw [if_neg hc11] at h
      obtain rfl := Option.some.inj h
      exact Ex_ret 4 (fun _ => rfl) rfl

set_option maxRecDepth 20000 in
theorem T_X9_not1_j77 (D : Nat) (t : mTX) (x1 : Int32) (s : mSG) (u2 u3 : Option Value) (o : Int32 × mSG) (h : X9_not1_j77 x1 s = some o)  : Ex (Runs (D + 31)) cd_X9_not1 (some (.int o.1), o.2, LAY t) 77 [some (.ref 56), some (.int x1), u2, u3] [] s (LAY t) := by
  unfold X9_not1_j77 at h
  refine Ex_br 5 ((lg_cmp (s.2.2 56 29) 60) = 0) (fun _ => rfl) (fun hc6 => ?_) (fun hc6 => ?_)
  · rw [if_pos hc6] at h
    refine Ex_sti 2 (fun _ => rfl) ?_
    exact T_X9_not1_j93 D t x1 1 s _ _ _ h
  · rw [if_neg hc6] at h
    refine Ex_sti 1 (fun _ => rfl) ?_
    exact T_X9_not1_j93 D t x1 0 s _ _ _ h

set_option maxRecDepth 20000 in
theorem T_X9_not1 (D : Nat) (t : mTX) (s : mSG) (o : Int32 × mSG) (h : X9_not1 s = some o) : Runs (D + 32) 176 [.ref 56] s (LAY t) (some (.int o.1), o.2, LAY t) := by
  refine Runs_mk (d := D + 31) rfl ?_
  show Ex (Runs (D + 31)) cd_X9_not1 (some (.int o.1), o.2, LAY t) 0 [some (.ref 56), none, none, none] [] s (LAY t)
  unfold X9_not1 at h
  obtain ⟨r1, hr, h⟩ := m_bind h
  refine Ex_call 10 (fun _ => rfl) (T_X9_isWord (D + 28) t 110 111 116 0 0 0 0 0 s r1 hr) rfl rfl ?_
  refine Ex_brZ 1 (r1) (fun _ => rfl) (fun hc => ?_) (fun hc => ?_)
  · rw [if_neg (m_nt hc)] at h
    obtain ⟨r2, hr, h⟩ := m_bind h
    refine Ex_call 2 (fun _ => rfl) (T_X9_added1 D t  s r2 hr) rfl rfl ?_
    refine Ex_call 4 (fun _ => rfl) (T_X9_isSign (D + 30) t 60 r2.2 _ rfl) rfl rfl ?_
    refine Ex_brZ 1 (X9_isSign 60 r2.2) (fun _ => rfl) (fun hc => ?_) (fun hc => ?_)
    · rw [if_neg (m_nt hc)] at h
      refine Ex_call 3 (fun _ => rfl) (T_X9_isSign (D + 30) t 61 r2.2 _ rfl) rfl rfl ?_
      refine Ex_brZ 1 (X9_isSign 61 r2.2) (fun _ => rfl) (fun hc => ?_) (fun hc => ?_)
      · rw [if_neg (m_nt hc)] at h
        obtain rfl := Option.some.inj h
        exact Ex_ret 2 (fun _ => rfl) rfl
      · rw [if_pos hc] at h
        exact T_X9_not1_j77 D t r2.1 r2.2 _ _ _ h
    · rw [if_pos hc] at h
      exact T_X9_not1_j77 D t r2.1 r2.2 _ _ _ h
  · rw [if_pos hc] at h
    obtain ⟨r3, hr, h⟩ := m_bind h
    refine Ex_call 2 (fun _ => rfl) (T_X9_opens (D + 28) t  s r3 hr) rfl rfl ?_
    refine Ex_brZ 1 (r3.1) (fun _ => rfl) (fun hc => ?_) (fun hc => ?_)
    · rw [if_neg (m_nt hc)] at h
      obtain rfl := Option.some.inj h
      exact Ex_ret 2 (fun _ => rfl) rfl
    · rw [if_pos hc] at h
      obtain ⟨r4, hr, h⟩ := m_bind h
      refine Ex_call 2 (fun _ => rfl) (T_X9_not2 (D + 5) t  r3.2 r4 hr) rfl rfl ?_
      refine Ex_br 9 (r4.1 = 0) (fun _ => rfl) (fun hc5 => ?_) (fun hc5 => ?_)
      · rw [if_pos hc5] at h
        obtain rfl := Option.some.inj h
        exact Ex_ret 3 (fun _ => rfl) rfl
      · rw [if_neg hc5] at h
        obtain rfl := Option.some.inj h
        exact Ex_ret 2 (fun _ => rfl) rfl

set_option maxRecDepth 20000 in
theorem T_X9_both1_j45_5 (D : Nat) (t : mTX) (w : Option Value) (z : mSG) (p0 : Int32) (s : mSG) (u1 u2 : Option Value) (o : (Int32 × mSG) ⊕ Int32 × mSG) (h : X9_both1_j45_5 p0 s = some o) (kc : ∀ y : Int32 × mSG, o = .inl y → ∀ (u2 : Option Value), Ex (Runs (D + 32)) cd_X9_both1 (w, z, LAY t) 5 [some (.ref 56), some (.int y.1), u2] [] y.2 (LAY t)) (ke0 : ∀ y : Int32 × mSG, o = .inr y → ∀ (u0 u2 : Option Value), Ex (Runs (D + 32)) cd_X9_both1 (w, z, LAY t) 49 [u0, some (.int y.1), u2] [] y.2 (LAY t)) : Ex (Runs (D + 32)) cd_X9_both1 (w, z, LAY t) 45 [some (.ref 56), u1, u2] [.int p0] s (LAY t) := by
  unfold X9_both1_j45_5 at h
  refine Ex_sti 2 (fun _ => rfl) ?_
  obtain rfl := Option.some.inj h
  exact kc _ rfl _

set_option maxRecDepth 20000 in
theorem T_X9_both1_j44_5 (D : Nat) (t : mTX) (w : Option Value) (z : mSG) (s : mSG) (u1 u2 : Option Value) (o : (Int32 × mSG) ⊕ Int32 × mSG) (h : X9_both1_j44_5 s = some o) (kc : ∀ y : Int32 × mSG, o = .inl y → ∀ (u2 : Option Value), Ex (Runs (D + 32)) cd_X9_both1 (w, z, LAY t) 5 [some (.ref 56), some (.int y.1), u2] [] y.2 (LAY t)) (ke0 : ∀ y : Int32 × mSG, o = .inr y → ∀ (u0 u2 : Option Value), Ex (Runs (D + 32)) cd_X9_both1 (w, z, LAY t) 49 [u0, some (.int y.1), u2] [] y.2 (LAY t)) : Ex (Runs (D + 32)) cd_X9_both1 (w, z, LAY t) 44 [some (.ref 56), u1, u2] [] s (LAY t) := by
  unfold X9_both1_j44_5 at h
  refine Ex_sti 1 (fun _ => rfl) ?_
  exact T_X9_both1_j45_5 D t w z 0 s _ _ _ h kc ke0

set_option maxRecDepth 20000 in
theorem T_X9_both1_b5 (D : Nat) (t : mTX) (w : Option Value) (z : mSG) (x1 : Int32) (s : mSG) (u2 : Option Value) (o : (Int32 × mSG) ⊕ Int32 × mSG) (h : X9_both1_b5 x1 s = some o) (kc : ∀ y : Int32 × mSG, o = .inl y → ∀ (u2 : Option Value), Ex (Runs (D + 32)) cd_X9_both1 (w, z, LAY t) 5 [some (.ref 56), some (.int y.1), u2] [] y.2 (LAY t)) (ke0 : ∀ y : Int32 × mSG, o = .inr y → ∀ (u0 u2 : Option Value), Ex (Runs (D + 32)) cd_X9_both1 (w, z, LAY t) 49 [u0, some (.int y.1), u2] [] y.2 (LAY t)) : Ex (Runs (D + 32)) cd_X9_both1 (w, z, LAY t) 5 [some (.ref 56), some (.int x1), u2] [] s (LAY t) := by
  unfold X9_both1_b5 at h
  obtain ⟨r2, hr, h⟩ := m_bind h
  refine Ex_call 10 (fun _ => rfl) (T_X9_isWord (D + 29) t 97 110 100 0 0 0 0 0 s r2 hr) rfl rfl ?_
  refine Ex_brZ 1 (r2) (fun _ => rfl) (fun hc => ?_) (fun hc => ?_)
  · rw [if_neg (m_nt hc)] at h
    obtain rfl := Option.some.inj h
    exact ke0 _ rfl _ _
  · rw [if_pos hc] at h
    obtain ⟨r3, hr, h⟩ := m_bind h
    refine Ex_call 2 (fun _ => rfl) (T_X9_next (D + 30) t  s r3 hr) rfl rfl ?_
    obtain ⟨r4, hr, h⟩ := m_bind h
    refine Ex_call 2 (fun _ => rfl) (T_X9_not1 D t  r3 r4 hr) rfl rfl ?_
    refine Ex_br 3 (x1 = 0) (fun _ => rfl) (fun hc5 => ?_) (fun hc5 => ?_)
    · rw [if_pos hc5] at h
      exact T_X9_both1_j44_5 D t w z  r4.2 _ _ _ h kc ke0
    · rw [if_neg hc5] at h
      refine Ex_br 2 (r4.1 = 0) (fun _ => rfl) (fun hc6 => ?_) (fun hc6 => ?_)
      · rw [if_pos hc6] at h
        exact T_X9_both1_j44_5 D t w z  r4.2 _ _ _ h kc ke0
      · rw [if_neg hc6] at h
        refine Ex_sti 2 (fun _ => rfl) ?_
        exact T_X9_both1_j45_5 D t w z 1 r4.2 _ _ _ h kc ke0

theorem T_X9_both1_l5 (D : Nat) (t : mTX) (w : Option Value) (z : mSG) (v : Int32 × mSG) (e : Int32 × mSG) (h : X9_both1_l5 v = some e) (ke0 : ∀ y : Int32 × mSG, e = y → ∀ (u0 u2 : Option Value), Ex (Runs (D + 32)) cd_X9_both1 (w, z, LAY t) 49 [u0, some (.int y.1), u2] [] y.2 (LAY t)) : ∀ (u2 : Option Value), Ex (Runs (D + 32)) cd_X9_both1 (w, z, LAY t) 5 [some (.ref 56), some (.int v.1), u2] [] v.2 (LAY t) :=
  m_iter (P := fun v : Int32 × mSG => ∀ (u2 : Option Value), Ex (Runs (D + 32)) cd_X9_both1 (w, z, LAY t) 5 [some (.ref 56), some (.int v.1), u2] [] v.2 (LAY t)) (Q := fun e : Int32 × mSG => (∀ y : Int32 × mSG, e = y → ∀ (u0 u2 : Option Value), Ex (Runs (D + 32)) cd_X9_both1 (w, z, LAY t) 49 [u0, some (.int y.1), u2] [] y.2 (LAY t))) (fun x o hx kc kq u2 => T_X9_both1_b5 D t w z  x.1 x.2 u2 o hx kc (fun e he => kq _ he e rfl)) mFU v e h ke0
set_option maxRecDepth 20000 in
theorem T_X9_both1 (D : Nat) (t : mTX) (s : mSG) (o : Int32 × mSG) (h : X9_both1 s = some o) : Runs (D + 33) 177 [.ref 56] s (LAY t) (some (.int o.1), o.2, LAY t) := by
  refine Runs_mk (d := D + 32) rfl ?_
  show Ex (Runs (D + 32)) cd_X9_both1 (some (.int o.1), o.2, LAY t) 0 [some (.ref 56), none, none] [] s (LAY t)
  unfold X9_both1 at h
  obtain ⟨r1, hr, h⟩ := m_bind h
  refine Ex_call 2 (fun _ => rfl) (T_X9_not1 D t  s r1 hr) rfl rfl ?_
  refine Ex_sti 1 (fun _ => rfl) ?_
  obtain ⟨e5, hl, h⟩ := m_bind h
  refine T_X9_both1_l5 D t (some (.int o.1)) o.2   (r1.1, r1.2) _ hl (fun y0 hy0 => ?_) _
  · obtain ⟨e5, rfl⟩ : ∃ q, q = y0 := ⟨_, rfl⟩
    subst hy0
    intro vu0 vu2
    obtain rfl := Option.some.inj h
    exact Ex_ret 2 (fun _ => rfl) rfl

set_option maxRecDepth 20000 in
theorem T_X9_either1_j44_5 (D : Nat) (t : mTX) (w : Option Value) (z : mSG) (p0 : Int32) (s : mSG) (u1 u2 : Option Value) (o : (Int32 × mSG) ⊕ Int32 × mSG) (h : X9_either1_j44_5 p0 s = some o) (kc : ∀ y : Int32 × mSG, o = .inl y → ∀ (u2 : Option Value), Ex (Runs (D + 33)) cd_X9_either1 (w, z, LAY t) 5 [some (.ref 56), some (.int y.1), u2] [] y.2 (LAY t)) (ke0 : ∀ y : Int32 × mSG, o = .inr y → ∀ (u0 u2 : Option Value), Ex (Runs (D + 33)) cd_X9_either1 (w, z, LAY t) 48 [u0, some (.int y.1), u2] [] y.2 (LAY t)) : Ex (Runs (D + 33)) cd_X9_either1 (w, z, LAY t) 44 [some (.ref 56), u1, u2] [.int p0] s (LAY t) := by
  unfold X9_either1_j44_5 at h
  refine Ex_sti 2 (fun _ => rfl) ?_
  obtain rfl := Option.some.inj h
  exact kc _ rfl _

set_option maxRecDepth 20000 in
theorem T_X9_either1_j39_5 (D : Nat) (t : mTX) (w : Option Value) (z : mSG) (s : mSG) (u1 u2 : Option Value) (o : (Int32 × mSG) ⊕ Int32 × mSG) (h : X9_either1_j39_5 s = some o) (kc : ∀ y : Int32 × mSG, o = .inl y → ∀ (u2 : Option Value), Ex (Runs (D + 33)) cd_X9_either1 (w, z, LAY t) 5 [some (.ref 56), some (.int y.1), u2] [] y.2 (LAY t)) (ke0 : ∀ y : Int32 × mSG, o = .inr y → ∀ (u0 u2 : Option Value), Ex (Runs (D + 33)) cd_X9_either1 (w, z, LAY t) 48 [u0, some (.int y.1), u2] [] y.2 (LAY t)) : Ex (Runs (D + 33)) cd_X9_either1 (w, z, LAY t) 39 [some (.ref 56), u1, u2] [] s (LAY t) := by
  unfold X9_either1_j39_5 at h
  refine Ex_sti 2 (fun _ => rfl) ?_
  exact T_X9_either1_j44_5 D t w z 1 s _ _ _ h kc ke0

set_option maxRecDepth 20000 in
theorem T_X9_either1_b5 (D : Nat) (t : mTX) (w : Option Value) (z : mSG) (x1 : Int32) (s : mSG) (u2 : Option Value) (o : (Int32 × mSG) ⊕ Int32 × mSG) (h : X9_either1_b5 x1 s = some o) (kc : ∀ y : Int32 × mSG, o = .inl y → ∀ (u2 : Option Value), Ex (Runs (D + 33)) cd_X9_either1 (w, z, LAY t) 5 [some (.ref 56), some (.int y.1), u2] [] y.2 (LAY t)) (ke0 : ∀ y : Int32 × mSG, o = .inr y → ∀ (u0 u2 : Option Value), Ex (Runs (D + 33)) cd_X9_either1 (w, z, LAY t) 48 [u0, some (.int y.1), u2] [] y.2 (LAY t)) : Ex (Runs (D + 33)) cd_X9_either1 (w, z, LAY t) 5 [some (.ref 56), some (.int x1), u2] [] s (LAY t) := by
  unfold X9_either1_b5 at h
  obtain ⟨r2, hr, h⟩ := m_bind h
  refine Ex_call 10 (fun _ => rfl) (T_X9_isWord (D + 30) t 111 114 0 0 0 0 0 0 s r2 hr) rfl rfl ?_
  refine Ex_brZ 1 (r2) (fun _ => rfl) (fun hc => ?_) (fun hc => ?_)
  · rw [if_neg (m_nt hc)] at h
    obtain rfl := Option.some.inj h
    exact ke0 _ rfl _ _
  · rw [if_pos hc] at h
    obtain ⟨r3, hr, h⟩ := m_bind h
    refine Ex_call 2 (fun _ => rfl) (T_X9_next (D + 31) t  s r3 hr) rfl rfl ?_
    obtain ⟨r4, hr, h⟩ := m_bind h
    refine Ex_call 2 (fun _ => rfl) (T_X9_both1 D t  r3 r4 hr) rfl rfl ?_
    refine Ex_br 3 (x1 = 0) (fun _ => rfl) (fun hc5 => ?_) (fun hc5 => ?_)
    · rw [if_pos hc5] at h
      refine Ex_br 2 (r4.1 = 0) (fun _ => rfl) (fun hc6 => ?_) (fun hc6 => ?_)
      · rw [if_pos hc6] at h
        refine Ex_sti 1 (fun _ => rfl) ?_
        exact T_X9_either1_j44_5 D t w z 0 r4.2 _ _ _ h kc ke0
      · rw [if_neg hc6] at h
        exact T_X9_either1_j39_5 D t w z  r4.2 _ _ _ h kc ke0
    · rw [if_neg hc5] at h
      exact T_X9_either1_j39_5 D t w z  r4.2 _ _ _ h kc ke0

theorem T_X9_either1_l5 (D : Nat) (t : mTX) (w : Option Value) (z : mSG) (v : Int32 × mSG) (e : Int32 × mSG) (h : X9_either1_l5 v = some e) (ke0 : ∀ y : Int32 × mSG, e = y → ∀ (u0 u2 : Option Value), Ex (Runs (D + 33)) cd_X9_either1 (w, z, LAY t) 48 [u0, some (.int y.1), u2] [] y.2 (LAY t)) : ∀ (u2 : Option Value), Ex (Runs (D + 33)) cd_X9_either1 (w, z, LAY t) 5 [some (.ref 56), some (.int v.1), u2] [] v.2 (LAY t) :=
  m_iter (P := fun v : Int32 × mSG => ∀ (u2 : Option Value), Ex (Runs (D + 33)) cd_X9_either1 (w, z, LAY t) 5 [some (.ref 56), some (.int v.1), u2] [] v.2 (LAY t)) (Q := fun e : Int32 × mSG => (∀ y : Int32 × mSG, e = y → ∀ (u0 u2 : Option Value), Ex (Runs (D + 33)) cd_X9_either1 (w, z, LAY t) 48 [u0, some (.int y.1), u2] [] y.2 (LAY t))) (fun x o hx kc kq u2 => T_X9_either1_b5 D t w z  x.1 x.2 u2 o hx kc (fun e he => kq _ he e rfl)) mFU v e h ke0
set_option maxRecDepth 20000 in
theorem T_X9_either1 (D : Nat) (t : mTX) (s : mSG) (o : Int32 × mSG) (h : X9_either1 s = some o) : Runs (D + 34) 178 [.ref 56] s (LAY t) (some (.int o.1), o.2, LAY t) := by
  refine Runs_mk (d := D + 33) rfl ?_
  show Ex (Runs (D + 33)) cd_X9_either1 (some (.int o.1), o.2, LAY t) 0 [some (.ref 56), none, none] [] s (LAY t)
  unfold X9_either1 at h
  obtain ⟨r1, hr, h⟩ := m_bind h
  refine Ex_call 2 (fun _ => rfl) (T_X9_both1 D t  s r1 hr) rfl rfl ?_
  refine Ex_sti 1 (fun _ => rfl) ?_
  obtain ⟨e5, hl, h⟩ := m_bind h
  refine T_X9_either1_l5 D t (some (.int o.1)) o.2   (r1.1, r1.2) _ hl (fun y0 hy0 => ?_) _
  · obtain ⟨e5, rfl⟩ : ∃ q, q = y0 := ⟨_, rfl⟩
    subst hy0
    intro vu0 vu2
    obtain rfl := Option.some.inj h
    exact Ex_ret 2 (fun _ => rfl) rfl

set_option maxRecDepth 20000 in
theorem T_X9_atom0_j71 (D : Nat) (t : mTX) (x1 : Int32) (s : mSG) (o : Int32 × mSG) (h : X9_atom0_j71 x1 s = some o)  : Ex (Runs (D + 34)) cd_X9_atom0 (some (.int o.1), o.2, LAY t) 71 [some (.ref 56), some (.int x1)] [] s (LAY t) := by
  unfold X9_atom0_j71 at h
  refine Ex_br 9 ((s.1 56 31) = 0) (fun _ => rfl) (fun hc9 => ?_) (fun hc9 => ?_)
  · rw [if_pos hc9] at h
    obtain ⟨r10, hr, h⟩ := m_bind h
    refine Ex_call 2 (fun _ => rfl) (T_X9_next (D + 32) t  (sI s 56 30 ((s.1 56 30) - 1)) r10 hr) rfl rfl ?_
    obtain rfl := Option.some.inj h
    exact Ex_ret 3 (fun _ => rfl) rfl
  · rw [if_neg hc9] at h
    obtain rfl := Option.some.inj h
    exact Ex_ret 2 (fun _ => rfl) rfl

set_option maxRecDepth 20000 in
theorem T_X9_atom0_j157 (D : Nat) (t : mTX) (x1 : Int32) (s : mSG) (o : Int32 × mSG) (h : X9_atom0_j157 x1 s = some o)  : Ex (Runs (D + 34)) cd_X9_atom0 (some (.int o.1), o.2, LAY t) 157 [some (.ref 56), some (.int x1)] [] s (LAY t) := by
  unfold X9_atom0_j157 at h
  obtain ⟨r16, hr, h⟩ := m_bind h
  refine Ex_call 2 (fun _ => rfl) (T_X9_fail (D + 33) t  s r16 hr) rfl rfl ?_
  obtain rfl := Option.some.inj h
  exact Ex_ret 2 (fun _ => rfl) rfl

set_option maxRecDepth 20000 in
theorem T_X9_atom0_j123 (D : Nat) (t : mTX) (x1 : Int32) (s : mSG) (o : Int32 × mSG) (h : X9_atom0_j123 x1 s = some o)  : Ex (Runs (D + 34)) cd_X9_atom0 (some (.int o.1), o.2, LAY t) 123 [some (.ref 56), some (.int x1)] [] s (LAY t) := by
  unfold X9_atom0_j123 at h
  refine Ex_br 3 ((s.1 56 31) = 0) (fun _ => rfl) (fun hc11 => ?_) (fun hc11 => ?_)
  · rw [if_pos hc11] at h
    refine Ex_br 4 ((s.1 56 27) = 1) (fun _ => rfl) (fun hc12 => ?_) (fun hc12 => ?_)
    · rw [if_pos hc12] at h
      obtain ⟨r13, hr, h⟩ := m_bind h
      refine Ex_call 2 (fun _ => rfl) (T_X9_name (D + 30) t  s r13 hr) rfl rfl ?_
      refine Ex_br 4 ((r13.2.1 56 31) = 0) (fun _ => rfl) (fun hc14 => ?_) (fun hc14 => ?_)
      · rw [if_pos hc14] at h
        obtain ⟨r15, hr, h⟩ := m_bind h
        refine Ex_call 2 (fun _ => rfl) (T_X9_next (D + 32) t  r13.2 r15 hr) rfl rfl ?_
        obtain rfl := Option.some.inj h
        exact Ex_ret 3 (fun _ => rfl) rfl
      · rw [if_neg hc14] at h
        obtain rfl := Option.some.inj h
        exact Ex_ret 2 (fun _ => rfl) rfl
    · rw [if_neg hc12] at h
      exact T_X9_atom0_j157 D t x1 s  _ h
  · rw [if_neg hc11] at h
    exact T_X9_atom0_j157 D t x1 s  _ h

set_option maxRecDepth 20000 in
theorem T_X9_atom0 (D : Nat) (t : mTX) (s : mSG) (o : Int32 × mSG) (h : X9_atom0 s = some o) : Runs (D + 35) 179 [.ref 56] s (LAY t) (some (.int o.1), o.2, LAY t) := by
  refine Runs_mk (d := D + 34) rfl ?_
  show Ex (Runs (D + 34)) cd_X9_atom0 (some (.int o.1), o.2, LAY t) 0 [some (.ref 56), none] [] s (LAY t)
  unfold X9_atom0 at h
  refine Ex_call 5 (fun _ => rfl) (T_X9_isSign (D + 33) t 45 s _ rfl) rfl rfl ?_
  refine Ex_brZ 1 (X9_isSign 45 s) (fun _ => rfl) (fun hc => ?_) (fun hc => ?_)
  · rw [if_neg (m_nt hc)] at h
    refine Ex_call 3 (fun _ => rfl) (T_X9_isSign (D + 33) t 40 s _ rfl) rfl rfl ?_
    refine Ex_brZ 1 (X9_isSign 40 s) (fun _ => rfl) (fun hc => ?_) (fun hc => ?_)
    · rw [if_neg (m_nt hc)] at h
      refine Ex_br 3 ((s.1 56 31) = 0) (fun _ => rfl) (fun hc1 => ?_) (fun hc1 => ?_)
      · rw [if_pos hc1] at h
        refine Ex_br 4 ((s.1 56 27) = 2) (fun _ => rfl) (fun hc2 => ?_) (fun hc2 => ?_)
        · rw [if_pos hc2] at h
          obtain ⟨r3, hr, h⟩ := m_bind h
          refine Ex_call 6 (fun _ => rfl) (T_X9_next (D + 32) t  s r3 hr) rfl rfl ?_
          obtain rfl := Option.some.inj h
          exact Ex_ret 3 (fun _ => rfl) rfl
        · rw [if_neg hc2] at h
          exact T_X9_atom0_j123 D t 0 s  _ h
      · rw [if_neg hc1] at h
        exact T_X9_atom0_j123 D t 0 s  _ h
    · rw [if_pos hc] at h
      obtain ⟨r4, hr, h⟩ := m_bind h
      refine Ex_call 2 (fun _ => rfl) (T_X9_opens (D + 31) t  s r4 hr) rfl rfl ?_
      refine Ex_brZ 1 (r4.1) (fun _ => rfl) (fun hc => ?_) (fun hc => ?_)
      · rw [if_neg (m_nt hc)] at h
        obtain rfl := Option.some.inj h
        exact Ex_ret 2 (fun _ => rfl) rfl
      · rw [if_pos hc] at h
        obtain ⟨r5, hr, h⟩ := m_bind h
        refine Ex_call 2 (fun _ => rfl) (T_X9_either1 D t  r4.2 r5 hr) rfl rfl ?_
        refine Ex_call 4 (fun _ => rfl) (T_X9_isSign (D + 33) t 41 r5.2 _ rfl) rfl rfl ?_
        refine Ex_brZ 1 (X9_isSign 41 r5.2) (fun _ => rfl) (fun hc => ?_) (fun hc => ?_)
        · rw [if_neg (m_nt hc)] at h
          obtain ⟨r6, hr, h⟩ := m_bind h
          refine Ex_call 2 (fun _ => rfl) (T_X9_fail (D + 33) t  r5.2 r6 hr) rfl rfl ?_
          exact T_X9_atom0_j71 D t r5.1 r6  _ h
        · rw [if_pos hc] at h
          exact T_X9_atom0_j71 D t r5.1 r5.2  _ h
  · rw [if_pos hc] at h
    obtain ⟨r7, hr, h⟩ := m_bind h
    refine Ex_call 2 (fun _ => rfl) (T_X9_opens (D + 31) t  s r7 hr) rfl rfl ?_
    refine Ex_brZ 1 (r7.1) (fun _ => rfl) (fun hc => ?_) (fun hc => ?_)
    · rw [if_neg (m_nt hc)] at h
      obtain rfl := Option.some.inj h
      exact Ex_ret 2 (fun _ => rfl) rfl
    · rw [if_pos hc] at h
      obtain ⟨r8, hr, h⟩ := m_bind h
      refine Ex_call 2 (fun _ => rfl) (T_X9_atom1 (D + 5) t  r7.2 r8 hr) rfl rfl ?_
      obtain rfl := Option.some.inj h
      exact Ex_ret 11 (fun _ => rfl) rfl

set_option maxRecDepth 20000 in
theorem T_X9_term0_b5 (D : Nat) (t : mTX) (w : Option Value) (z : mSG) (x1 : Int32) (s : mSG) (o : (Int32 × mSG) ⊕ Int32 × mSG) (h : X9_term0_b5 x1 s = some o) (kc : ∀ y : Int32 × mSG, o = .inl y → Ex (Runs (D + 35)) cd_X9_term0 (w, z, LAY t) 5 [some (.ref 56), some (.int y.1)] [] y.2 (LAY t)) (ke0 : ∀ y : Int32 × mSG, o = .inr y → ∀ (u0 : Option Value), Ex (Runs (D + 35)) cd_X9_term0 (w, z, LAY t) 28 [u0, some (.int y.1)] [] y.2 (LAY t)) : Ex (Runs (D + 35)) cd_X9_term0 (w, z, LAY t) 5 [some (.ref 56), some (.int x1)] [] s (LAY t) := by
  unfold X9_term0_b5 at h
  refine Ex_call 3 (fun _ => rfl) (T_X9_isSign (D + 34) t 42 s _ rfl) rfl rfl ?_
  refine Ex_brZ 1 (X9_isSign 42 s) (fun _ => rfl) (fun hc => ?_) (fun hc => ?_)
  · rw [if_neg (m_nt hc)] at h
    obtain rfl := Option.some.inj h
    exact ke0 _ rfl _
  · rw [if_pos hc] at h
    obtain ⟨r2, hr, h⟩ := m_bind h
    refine Ex_call 2 (fun _ => rfl) (T_X9_next (D + 33) t  s r2 hr) rfl rfl ?_
    obtain ⟨r3, hr, h⟩ := m_bind h
    refine Ex_call 3 (fun _ => rfl) (T_X9_atom0 D t  r2 r3 hr) rfl rfl ?_
    refine Ex_sti 3 (fun _ => rfl) ?_
    obtain rfl := Option.some.inj h
    exact kc _ rfl 

theorem T_X9_term0_l5 (D : Nat) (t : mTX) (w : Option Value) (z : mSG) (v : Int32 × mSG) (e : Int32 × mSG) (h : X9_term0_l5 v = some e) (ke0 : ∀ y : Int32 × mSG, e = y → ∀ (u0 : Option Value), Ex (Runs (D + 35)) cd_X9_term0 (w, z, LAY t) 28 [u0, some (.int y.1)] [] y.2 (LAY t)) : Ex (Runs (D + 35)) cd_X9_term0 (w, z, LAY t) 5 [some (.ref 56), some (.int v.1)] [] v.2 (LAY t) :=
  m_iter (P := fun v : Int32 × mSG => Ex (Runs (D + 35)) cd_X9_term0 (w, z, LAY t) 5 [some (.ref 56), some (.int v.1)] [] v.2 (LAY t)) (Q := fun e : Int32 × mSG => (∀ y : Int32 × mSG, e = y → ∀ (u0 : Option Value), Ex (Runs (D + 35)) cd_X9_term0 (w, z, LAY t) 28 [u0, some (.int y.1)] [] y.2 (LAY t))) (fun x o hx kc kq  => T_X9_term0_b5 D t w z  x.1 x.2  o hx kc (fun e he => kq _ he e rfl)) mFU v e h ke0
set_option maxRecDepth 20000 in
theorem T_X9_term0 (D : Nat) (t : mTX) (s : mSG) (o : Int32 × mSG) (h : X9_term0 s = some o) : Runs (D + 36) 180 [.ref 56] s (LAY t) (some (.int o.1), o.2, LAY t) := by
  refine Runs_mk (d := D + 35) rfl ?_
  show Ex (Runs (D + 35)) cd_X9_term0 (some (.int o.1), o.2, LAY t) 0 [some (.ref 56), none] [] s (LAY t)
  unfold X9_term0 at h
  obtain ⟨r1, hr, h⟩ := m_bind h
  refine Ex_call 2 (fun _ => rfl) (T_X9_atom0 D t  s r1 hr) rfl rfl ?_
  refine Ex_sti 1 (fun _ => rfl) ?_
  obtain ⟨e5, hl, h⟩ := m_bind h
  refine T_X9_term0_l5 D t (some (.int o.1)) o.2   (r1.1, r1.2) _ hl (fun y0 hy0 => ?_) 
  · obtain ⟨e5, rfl⟩ : ∃ q, q = y0 := ⟨_, rfl⟩
    subst hy0
    intro vu0
    obtain rfl := Option.some.inj h
    exact Ex_ret 2 (fun _ => rfl) rfl

set_option maxRecDepth 20000 in
theorem T_X9_added0_j62_5 (D : Nat) (t : mTX) (w : Option Value) (z : mSG) (p0 : Int32) (s : mSG) (u1 u2 u3 : Option Value) (o : (Int32 × mSG) ⊕ Int32 × mSG) (h : X9_added0_j62_5 p0 s = some o) (kc : ∀ y : Int32 × mSG, o = .inl y → ∀ (u2 u3 : Option Value), Ex (Runs (D + 36)) cd_X9_added0 (w, z, LAY t) 5 [some (.ref 56), some (.int y.1), u2, u3] [] y.2 (LAY t)) (ke0 : ∀ y : Int32 × mSG, o = .inr y → ∀ (u0 u2 u3 : Option Value), Ex (Runs (D + 36)) cd_X9_added0 (w, z, LAY t) 66 [u0, some (.int y.1), u2, u3] [] y.2 (LAY t)) : Ex (Runs (D + 36)) cd_X9_added0 (w, z, LAY t) 62 [some (.ref 56), u1, u2, u3] [.int p0] s (LAY t) := by
  unfold X9_added0_j62_5 at h
  refine Ex_sti 2 (fun _ => rfl) ?_
  obtain rfl := Option.some.inj h
  exact kc _ rfl _ _

set_option maxRecDepth 20000 in
theorem T_X9_added0_j39_5 (D : Nat) (t : mTX) (w : Option Value) (z : mSG) (x1 : Int32) (p0 : Int32) (s : mSG) (u2 u3 : Option Value) (o : (Int32 × mSG) ⊕ Int32 × mSG) (h : X9_added0_j39_5 x1 p0 s = some o) (kc : ∀ y : Int32 × mSG, o = .inl y → ∀ (u2 u3 : Option Value), Ex (Runs (D + 36)) cd_X9_added0 (w, z, LAY t) 5 [some (.ref 56), some (.int y.1), u2, u3] [] y.2 (LAY t)) (ke0 : ∀ y : Int32 × mSG, o = .inr y → ∀ (u0 u2 u3 : Option Value), Ex (Runs (D + 36)) cd_X9_added0 (w, z, LAY t) 66 [u0, some (.int y.1), u2, u3] [] y.2 (LAY t)) : Ex (Runs (D + 36)) cd_X9_added0 (w, z, LAY t) 39 [some (.ref 56), some (.int x1), u2, u3] [.int p0] s (LAY t) := by
  unfold X9_added0_j39_5 at h
  obtain ⟨r3, hr, h⟩ := m_bind h
  refine Ex_call 3 (fun _ => rfl) (T_X9_next (D + 34) t  s r3 hr) rfl rfl ?_
  obtain ⟨r4, hr, h⟩ := m_bind h
  refine Ex_call 2 (fun _ => rfl) (T_X9_term0 D t  r3 r4 hr) rfl rfl ?_
  refine Ex_br 3 (p0 = 0) (fun _ => rfl) (fun hc5 => ?_) (fun hc5 => ?_)
  · rw [if_pos hc5] at h
    refine Ex_sti 3 (fun _ => rfl) ?_
    exact T_X9_added0_j62_5 D t w z (x1 - r4.1) r4.2 _ _ _ _ h kc ke0
  · rw [if_neg hc5] at h
    refine Ex_sti 4 (fun _ => rfl) ?_
    exact T_X9_added0_j62_5 D t w z (x1 + r4.1) r4.2 _ _ _ _ h kc ke0

set_option maxRecDepth 20000 in
theorem T_X9_added0_j23_5 (D : Nat) (t : mTX) (w : Option Value) (z : mSG) (x1 : Int32) (s : mSG) (u2 u3 : Option Value) (o : (Int32 × mSG) ⊕ Int32 × mSG) (h : X9_added0_j23_5 x1 s = some o) (kc : ∀ y : Int32 × mSG, o = .inl y → ∀ (u2 u3 : Option Value), Ex (Runs (D + 36)) cd_X9_added0 (w, z, LAY t) 5 [some (.ref 56), some (.int y.1), u2, u3] [] y.2 (LAY t)) (ke0 : ∀ y : Int32 × mSG, o = .inr y → ∀ (u0 u2 u3 : Option Value), Ex (Runs (D + 36)) cd_X9_added0 (w, z, LAY t) 66 [u0, some (.int y.1), u2, u3] [] y.2 (LAY t)) : Ex (Runs (D + 36)) cd_X9_added0 (w, z, LAY t) 23 [some (.ref 56), some (.int x1), u2, u3] [] s (LAY t) := by
  unfold X9_added0_j23_5 at h
  refine Ex_br 5 ((lg_cmp (s.2.2 56 29) 43) = 0) (fun _ => rfl) (fun hc2 => ?_) (fun hc2 => ?_)
  · rw [if_pos hc2] at h
    refine Ex_sti 2 (fun _ => rfl) ?_
    exact T_X9_added0_j39_5 D t w z x1 1 s _ _ _ h kc ke0
  · rw [if_neg hc2] at h
    refine Ex_sti 1 (fun _ => rfl) ?_
    exact T_X9_added0_j39_5 D t w z x1 0 s _ _ _ h kc ke0

set_option maxRecDepth 20000 in
theorem T_X9_added0_b5 (D : Nat) (t : mTX) (w : Option Value) (z : mSG) (x1 : Int32) (s : mSG) (u2 u3 : Option Value) (o : (Int32 × mSG) ⊕ Int32 × mSG) (h : X9_added0_b5 x1 s = some o) (kc : ∀ y : Int32 × mSG, o = .inl y → ∀ (u2 u3 : Option Value), Ex (Runs (D + 36)) cd_X9_added0 (w, z, LAY t) 5 [some (.ref 56), some (.int y.1), u2, u3] [] y.2 (LAY t)) (ke0 : ∀ y : Int32 × mSG, o = .inr y → ∀ (u0 u2 u3 : Option Value), Ex (Runs (D + 36)) cd_X9_added0 (w, z, LAY t) 66 [u0, some (.int y.1), u2, u3] [] y.2 (LAY t)) : Ex (Runs (D + 36)) cd_X9_added0 (w, z, LAY t) 5 [some (.ref 56), some (.int x1), u2, u3] [] s (LAY t) := by
  unfold X9_added0_b5 at h
  refine Ex_call 3 (fun _ => rfl) (T_X9_isSign (D + 35) t 43 s _ rfl) rfl rfl ?_
  refine Ex_brZ 1 (X9_isSign 43 s) (fun _ => rfl) (fun hc => ?_) (fun hc => ?_)
  · rw [if_neg (m_nt hc)] at h
    refine Ex_call 3 (fun _ => rfl) (T_X9_isSign (D + 35) t 45 s _ rfl) rfl rfl ?_
    refine Ex_brZ 1 (X9_isSign 45 s) (fun _ => rfl) (fun hc => ?_) (fun hc => ?_)
    · rw [if_neg (m_nt hc)] at h
      obtain rfl := Option.some.inj h
      exact ke0 _ rfl _ _ _
    · rw [if_pos hc] at h
      exact T_X9_added0_j23_5 D t w z x1 s _ _ _ h kc ke0
  · rw [if_pos hc] at h
    exact T_X9_added0_j23_5 D t w z x1 s _ _ _ h kc ke0

theorem T_X9_added0_l5 (D : Nat) (t : mTX) (w : Option Value) (z : mSG) (v : Int32 × mSG) (e : Int32 × mSG) (h : X9_added0_l5 v = some e) (ke0 : ∀ y : Int32 × mSG, e = y → ∀ (u0 u2 u3 : Option Value), Ex (Runs (D + 36)) cd_X9_added0 (w, z, LAY t) 66 [u0, some (.int y.1), u2, u3] [] y.2 (LAY t)) : ∀ (u2 u3 : Option Value), Ex (Runs (D + 36)) cd_X9_added0 (w, z, LAY t) 5 [some (.ref 56), some (.int v.1), u2, u3] [] v.2 (LAY t) :=
  m_iter (P := fun v : Int32 × mSG => ∀ (u2 u3 : Option Value), Ex (Runs (D + 36)) cd_X9_added0 (w, z, LAY t) 5 [some (.ref 56), some (.int v.1), u2, u3] [] v.2 (LAY t)) (Q := fun e : Int32 × mSG => (∀ y : Int32 × mSG, e = y → ∀ (u0 u2 u3 : Option Value), Ex (Runs (D + 36)) cd_X9_added0 (w, z, LAY t) 66 [u0, some (.int y.1), u2, u3] [] y.2 (LAY t))) (fun x o hx kc kq u2 u3 => T_X9_added0_b5 D t w z  x.1 x.2 u2 u3 o hx kc (fun e he => kq _ he e rfl)) mFU v e h ke0
set_option maxRecDepth 20000 in
theorem T_X9_added0 (D : Nat) (t : mTX) (s : mSG) (o : Int32 × mSG) (h : X9_added0 s = some o) : Runs (D + 37) 181 [.ref 56] s (LAY t) (some (.int o.1), o.2, LAY t) := by
  refine Runs_mk (d := D + 36) rfl ?_
  show Ex (Runs (D + 36)) cd_X9_added0 (some (.int o.1), o.2, LAY t) 0 [some (.ref 56), none, none, none] [] s (LAY t)
  unfold X9_added0 at h
  obtain ⟨r1, hr, h⟩ := m_bind h
  refine Ex_call 2 (fun _ => rfl) (T_X9_term0 D t  s r1 hr) rfl rfl ?_
  refine Ex_sti 1 (fun _ => rfl) ?_
  obtain ⟨e5, hl, h⟩ := m_bind h
  refine T_X9_added0_l5 D t (some (.int o.1)) o.2   (r1.1, r1.2) _ hl (fun y0 hy0 => ?_) _ _
  · obtain ⟨e5, rfl⟩ : ∃ q, q = y0 := ⟨_, rfl⟩
    subst hy0
    intro vu0 vu2 vu3
    obtain rfl := Option.some.inj h
    exact Ex_ret 2 (fun _ => rfl) rfl

set_option maxRecDepth 20000 in
theorem T_X9_not0_j93 (D : Nat) (t : mTX) (x1 : Int32) (p0 : Int32) (s : mSG) (u2 u3 : Option Value) (o : Int32 × mSG) (h : X9_not0_j93 x1 p0 s = some o)  : Ex (Runs (D + 37)) cd_X9_not0 (some (.int o.1), o.2, LAY t) 93 [some (.ref 56), some (.int x1), u2, u3] [.int p0] s (LAY t) := by
  unfold X9_not0_j93 at h
  obtain ⟨r7, hr, h⟩ := m_bind h
  refine Ex_call 3 (fun _ => rfl) (T_X9_next (D + 35) t  s r7 hr) rfl rfl ?_
  obtain ⟨r8, hr, h⟩ := m_bind h
  refine Ex_call 2 (fun _ => rfl) (T_X9_added0 D t  r7 r8 hr) rfl rfl ?_
  refine Ex_br 3 (p0 = 0) (fun _ => rfl) (fun hc9 => ?_) (fun hc9 => ?_)
  · rw [if_pos hc9] at h
    refine Ex_br 3 (x1 = r8.1) (fun _ => rfl) (fun hc10 => ?_) (fun hc10 => ?_)
    · rw [if_pos hc10] at h
      obtain rfl := Option.some.inj h
      exact Ex_ret 3 (fun _ => rfl) rfl
    · rw [if_neg hc10] at h
      obtain rfl := Option.some.inj h
      exact Ex_ret 2 (fun _ => rfl) rfl
  · rw [if_neg hc9] at h
    refine Ex_br 3 (r8.1 ≤ x1) (fun _ => rfl) (fun hc11 => ?_) (fun hc11 => ?_)
    · rw [if_pos hc11] at h
      obtain rfl := Option.some.inj h
      exact Ex_ret 2 (fun _ => rfl) rfl
    · rw [if_neg hc11] at h
      obtain rfl := Option.some.inj h
      exact Ex_ret 4 (fun _ => rfl) rfl

set_option maxRecDepth 20000 in
theorem T_X9_not0_j77 (D : Nat) (t : mTX) (x1 : Int32) (s : mSG) (u2 u3 : Option Value) (o : Int32 × mSG) (h : X9_not0_j77 x1 s = some o)  : Ex (Runs (D + 37)) cd_X9_not0 (some (.int o.1), o.2, LAY t) 77 [some (.ref 56), some (.int x1), u2, u3] [] s (LAY t) := by
  unfold X9_not0_j77 at h
  refine Ex_br 5 ((lg_cmp (s.2.2 56 29) 60) = 0) (fun _ => rfl) (fun hc6 => ?_) (fun hc6 => ?_)
  · rw [if_pos hc6] at h
    refine Ex_sti 2 (fun _ => rfl) ?_
    exact T_X9_not0_j93 D t x1 1 s _ _ _ h
  · rw [if_neg hc6] at h
    refine Ex_sti 1 (fun _ => rfl) ?_
    exact T_X9_not0_j93 D t x1 0 s _ _ _ h

set_option maxRecDepth 20000 in
theorem T_X9_not0 (D : Nat) (t : mTX) (s : mSG) (o : Int32 × mSG) (h : X9_not0 s = some o) : Runs (D + 38) 182 [.ref 56] s (LAY t) (some (.int o.1), o.2, LAY t) := by
  refine Runs_mk (d := D + 37) rfl ?_
  show Ex (Runs (D + 37)) cd_X9_not0 (some (.int o.1), o.2, LAY t) 0 [some (.ref 56), none, none, none] [] s (LAY t)
  unfold X9_not0 at h
  obtain ⟨r1, hr, h⟩ := m_bind h
  refine Ex_call 10 (fun _ => rfl) (T_X9_isWord (D + 34) t 110 111 116 0 0 0 0 0 s r1 hr) rfl rfl ?_
  refine Ex_brZ 1 (r1) (fun _ => rfl) (fun hc => ?_) (fun hc => ?_)
  · rw [if_neg (m_nt hc)] at h
    obtain ⟨r2, hr, h⟩ := m_bind h
    refine Ex_call 2 (fun _ => rfl) (T_X9_added0 D t  s r2 hr) rfl rfl ?_
    refine Ex_call 4 (fun _ => rfl) (T_X9_isSign (D + 36) t 60 r2.2 _ rfl) rfl rfl ?_
    refine Ex_brZ 1 (X9_isSign 60 r2.2) (fun _ => rfl) (fun hc => ?_) (fun hc => ?_)
    · rw [if_neg (m_nt hc)] at h
      refine Ex_call 3 (fun _ => rfl) (T_X9_isSign (D + 36) t 61 r2.2 _ rfl) rfl rfl ?_
      refine Ex_brZ 1 (X9_isSign 61 r2.2) (fun _ => rfl) (fun hc => ?_) (fun hc => ?_)
      · rw [if_neg (m_nt hc)] at h
        obtain rfl := Option.some.inj h
        exact Ex_ret 2 (fun _ => rfl) rfl
      · rw [if_pos hc] at h
        exact T_X9_not0_j77 D t r2.1 r2.2 _ _ _ h
    · rw [if_pos hc] at h
      exact T_X9_not0_j77 D t r2.1 r2.2 _ _ _ h
  · rw [if_pos hc] at h
    obtain ⟨r3, hr, h⟩ := m_bind h
    refine Ex_call 2 (fun _ => rfl) (T_X9_opens (D + 34) t  s r3 hr) rfl rfl ?_
    refine Ex_brZ 1 (r3.1) (fun _ => rfl) (fun hc => ?_) (fun hc => ?_)
    · rw [if_neg (m_nt hc)] at h
      obtain rfl := Option.some.inj h
      exact Ex_ret 2 (fun _ => rfl) rfl
    · rw [if_pos hc] at h
      obtain ⟨r4, hr, h⟩ := m_bind h
      refine Ex_call 2 (fun _ => rfl) (T_X9_not1 (D + 5) t  r3.2 r4 hr) rfl rfl ?_
      refine Ex_br 9 (r4.1 = 0) (fun _ => rfl) (fun hc5 => ?_) (fun hc5 => ?_)
      · rw [if_pos hc5] at h
        obtain rfl := Option.some.inj h
        exact Ex_ret 3 (fun _ => rfl) rfl
      · rw [if_neg hc5] at h
        obtain rfl := Option.some.inj h
        exact Ex_ret 2 (fun _ => rfl) rfl

set_option maxRecDepth 20000 in
theorem T_X9_both0_j45_5 (D : Nat) (t : mTX) (w : Option Value) (z : mSG) (p0 : Int32) (s : mSG) (u1 u2 : Option Value) (o : (Int32 × mSG) ⊕ Int32 × mSG) (h : X9_both0_j45_5 p0 s = some o) (kc : ∀ y : Int32 × mSG, o = .inl y → ∀ (u2 : Option Value), Ex (Runs (D + 38)) cd_X9_both0 (w, z, LAY t) 5 [some (.ref 56), some (.int y.1), u2] [] y.2 (LAY t)) (ke0 : ∀ y : Int32 × mSG, o = .inr y → ∀ (u0 u2 : Option Value), Ex (Runs (D + 38)) cd_X9_both0 (w, z, LAY t) 49 [u0, some (.int y.1), u2] [] y.2 (LAY t)) : Ex (Runs (D + 38)) cd_X9_both0 (w, z, LAY t) 45 [some (.ref 56), u1, u2] [.int p0] s (LAY t) := by
  unfold X9_both0_j45_5 at h
  refine Ex_sti 2 (fun _ => rfl) ?_
  obtain rfl := Option.some.inj h
  exact kc _ rfl _

set_option maxRecDepth 20000 in
theorem T_X9_both0_j44_5 (D : Nat) (t : mTX) (w : Option Value) (z : mSG) (s : mSG) (u1 u2 : Option Value) (o : (Int32 × mSG) ⊕ Int32 × mSG) (h : X9_both0_j44_5 s = some o) (kc : ∀ y : Int32 × mSG, o = .inl y → ∀ (u2 : Option Value), Ex (Runs (D + 38)) cd_X9_both0 (w, z, LAY t) 5 [some (.ref 56), some (.int y.1), u2] [] y.2 (LAY t)) (ke0 : ∀ y : Int32 × mSG, o = .inr y → ∀ (u0 u2 : Option Value), Ex (Runs (D + 38)) cd_X9_both0 (w, z, LAY t) 49 [u0, some (.int y.1), u2] [] y.2 (LAY t)) : Ex (Runs (D + 38)) cd_X9_both0 (w, z, LAY t) 44 [some (.ref 56), u1, u2] [] s (LAY t) := by
  unfold X9_both0_j44_5 at h
  refine Ex_sti 1 (fun _ => rfl) ?_
  exact T_X9_both0_j45_5 D t w z 0 s _ _ _ h kc ke0

set_option maxRecDepth 20000 in
theorem T_X9_both0_b5 (D : Nat) (t : mTX) (w : Option Value) (z : mSG) (x1 : Int32) (s : mSG) (u2 : Option Value) (o : (Int32 × mSG) ⊕ Int32 × mSG) (h : X9_both0_b5 x1 s = some o) (kc : ∀ y : Int32 × mSG, o = .inl y → ∀ (u2 : Option Value), Ex (Runs (D + 38)) cd_X9_both0 (w, z, LAY t) 5 [some (.ref 56), some (.int y.1), u2] [] y.2 (LAY t)) (ke0 : ∀ y : Int32 × mSG, o = .inr y → ∀ (u0 u2 : Option Value), Ex (Runs (D + 38)) cd_X9_both0 (w, z, LAY t) 49 [u0, some (.int y.1), u2] [] y.2 (LAY t)) : Ex (Runs (D + 38)) cd_X9_both0 (w, z, LAY t) 5 [some (.ref 56), some (.int x1), u2] [] s (LAY t) := by
  unfold X9_both0_b5 at h
  obtain ⟨r2, hr, h⟩ := m_bind h
  refine Ex_call 10 (fun _ => rfl) (T_X9_isWord (D + 35) t 97 110 100 0 0 0 0 0 s r2 hr) rfl rfl ?_
  refine Ex_brZ 1 (r2) (fun _ => rfl) (fun hc => ?_) (fun hc => ?_)
  · rw [if_neg (m_nt hc)] at h
    obtain rfl := Option.some.inj h
    exact ke0 _ rfl _ _
  · rw [if_pos hc] at h
    obtain ⟨r3, hr, h⟩ := m_bind h
    refine Ex_call 2 (fun _ => rfl) (T_X9_next (D + 36) t  s r3 hr) rfl rfl ?_
    obtain ⟨r4, hr, h⟩ := m_bind h
    refine Ex_call 2 (fun _ => rfl) (T_X9_not0 D t  r3 r4 hr) rfl rfl ?_
    refine Ex_br 3 (x1 = 0) (fun _ => rfl) (fun hc5 => ?_) (fun hc5 => ?_)
    · rw [if_pos hc5] at h
      exact T_X9_both0_j44_5 D t w z  r4.2 _ _ _ h kc ke0
    · rw [if_neg hc5] at h
      refine Ex_br 2 (r4.1 = 0) (fun _ => rfl) (fun hc6 => ?_) (fun hc6 => ?_)
      · rw [if_pos hc6] at h
        exact T_X9_both0_j44_5 D t w z  r4.2 _ _ _ h kc ke0
      · rw [if_neg hc6] at h
        refine Ex_sti 2 (fun _ => rfl) ?_
        exact T_X9_both0_j45_5 D t w z 1 r4.2 _ _ _ h kc ke0

theorem T_X9_both0_l5 (D : Nat) (t : mTX) (w : Option Value) (z : mSG) (v : Int32 × mSG) (e : Int32 × mSG) (h : X9_both0_l5 v = some e) (ke0 : ∀ y : Int32 × mSG, e = y → ∀ (u0 u2 : Option Value), Ex (Runs (D + 38)) cd_X9_both0 (w, z, LAY t) 49 [u0, some (.int y.1), u2] [] y.2 (LAY t)) : ∀ (u2 : Option Value), Ex (Runs (D + 38)) cd_X9_both0 (w, z, LAY t) 5 [some (.ref 56), some (.int v.1), u2] [] v.2 (LAY t) :=
  m_iter (P := fun v : Int32 × mSG => ∀ (u2 : Option Value), Ex (Runs (D + 38)) cd_X9_both0 (w, z, LAY t) 5 [some (.ref 56), some (.int v.1), u2] [] v.2 (LAY t)) (Q := fun e : Int32 × mSG => (∀ y : Int32 × mSG, e = y → ∀ (u0 u2 : Option Value), Ex (Runs (D + 38)) cd_X9_both0 (w, z, LAY t) 49 [u0, some (.int y.1), u2] [] y.2 (LAY t))) (fun x o hx kc kq u2 => T_X9_both0_b5 D t w z  x.1 x.2 u2 o hx kc (fun e he => kq _ he e rfl)) mFU v e h ke0
set_option maxRecDepth 20000 in
theorem T_X9_both0 (D : Nat) (t : mTX) (s : mSG) (o : Int32 × mSG) (h : X9_both0 s = some o) : Runs (D + 39) 183 [.ref 56] s (LAY t) (some (.int o.1), o.2, LAY t) := by
  refine Runs_mk (d := D + 38) rfl ?_
  show Ex (Runs (D + 38)) cd_X9_both0 (some (.int o.1), o.2, LAY t) 0 [some (.ref 56), none, none] [] s (LAY t)
  unfold X9_both0 at h
  obtain ⟨r1, hr, h⟩ := m_bind h
  refine Ex_call 2 (fun _ => rfl) (T_X9_not0 D t  s r1 hr) rfl rfl ?_
  refine Ex_sti 1 (fun _ => rfl) ?_
  obtain ⟨e5, hl, h⟩ := m_bind h
  refine T_X9_both0_l5 D t (some (.int o.1)) o.2   (r1.1, r1.2) _ hl (fun y0 hy0 => ?_) _
  · obtain ⟨e5, rfl⟩ : ∃ q, q = y0 := ⟨_, rfl⟩
    subst hy0
    intro vu0 vu2
    obtain rfl := Option.some.inj h
    exact Ex_ret 2 (fun _ => rfl) rfl

set_option maxRecDepth 20000 in
theorem T_X9_either0_j44_5 (D : Nat) (t : mTX) (w : Option Value) (z : mSG) (p0 : Int32) (s : mSG) (u1 u2 : Option Value) (o : (Int32 × mSG) ⊕ Int32 × mSG) (h : X9_either0_j44_5 p0 s = some o) (kc : ∀ y : Int32 × mSG, o = .inl y → ∀ (u2 : Option Value), Ex (Runs (D + 39)) cd_X9_either0 (w, z, LAY t) 5 [some (.ref 56), some (.int y.1), u2] [] y.2 (LAY t)) (ke0 : ∀ y : Int32 × mSG, o = .inr y → ∀ (u0 u2 : Option Value), Ex (Runs (D + 39)) cd_X9_either0 (w, z, LAY t) 48 [u0, some (.int y.1), u2] [] y.2 (LAY t)) : Ex (Runs (D + 39)) cd_X9_either0 (w, z, LAY t) 44 [some (.ref 56), u1, u2] [.int p0] s (LAY t) := by
  unfold X9_either0_j44_5 at h
  refine Ex_sti 2 (fun _ => rfl) ?_
  obtain rfl := Option.some.inj h
  exact kc _ rfl _

set_option maxRecDepth 20000 in
theorem T_X9_either0_j39_5 (D : Nat) (t : mTX) (w : Option Value) (z : mSG) (s : mSG) (u1 u2 : Option Value) (o : (Int32 × mSG) ⊕ Int32 × mSG) (h : X9_either0_j39_5 s = some o) (kc : ∀ y : Int32 × mSG, o = .inl y → ∀ (u2 : Option Value), Ex (Runs (D + 39)) cd_X9_either0 (w, z, LAY t) 5 [some (.ref 56), some (.int y.1), u2] [] y.2 (LAY t)) (ke0 : ∀ y : Int32 × mSG, o = .inr y → ∀ (u0 u2 : Option Value), Ex (Runs (D + 39)) cd_X9_either0 (w, z, LAY t) 48 [u0, some (.int y.1), u2] [] y.2 (LAY t)) : Ex (Runs (D + 39)) cd_X9_either0 (w, z, LAY t) 39 [some (.ref 56), u1, u2] [] s (LAY t) := by
  unfold X9_either0_j39_5 at h
  refine Ex_sti 2 (fun _ => rfl) ?_
  exact T_X9_either0_j44_5 D t w z 1 s _ _ _ h kc ke0

set_option maxRecDepth 20000 in
theorem T_X9_either0_b5 (D : Nat) (t : mTX) (w : Option Value) (z : mSG) (x1 : Int32) (s : mSG) (u2 : Option Value) (o : (Int32 × mSG) ⊕ Int32 × mSG) (h : X9_either0_b5 x1 s = some o) (kc : ∀ y : Int32 × mSG, o = .inl y → ∀ (u2 : Option Value), Ex (Runs (D + 39)) cd_X9_either0 (w, z, LAY t) 5 [some (.ref 56), some (.int y.1), u2] [] y.2 (LAY t)) (ke0 : ∀ y : Int32 × mSG, o = .inr y → ∀ (u0 u2 : Option Value), Ex (Runs (D + 39)) cd_X9_either0 (w, z, LAY t) 48 [u0, some (.int y.1), u2] [] y.2 (LAY t)) : Ex (Runs (D + 39)) cd_X9_either0 (w, z, LAY t) 5 [some (.ref 56), some (.int x1), u2] [] s (LAY t) := by
  unfold X9_either0_b5 at h
  obtain ⟨r2, hr, h⟩ := m_bind h
  refine Ex_call 10 (fun _ => rfl) (T_X9_isWord (D + 36) t 111 114 0 0 0 0 0 0 s r2 hr) rfl rfl ?_
  refine Ex_brZ 1 (r2) (fun _ => rfl) (fun hc => ?_) (fun hc => ?_)
  · rw [if_neg (m_nt hc)] at h
    obtain rfl := Option.some.inj h
    exact ke0 _ rfl _ _
  · rw [if_pos hc] at h
    obtain ⟨r3, hr, h⟩ := m_bind h
    refine Ex_call 2 (fun _ => rfl) (T_X9_next (D + 37) t  s r3 hr) rfl rfl ?_
    obtain ⟨r4, hr, h⟩ := m_bind h
    refine Ex_call 2 (fun _ => rfl) (T_X9_both0 D t  r3 r4 hr) rfl rfl ?_
    refine Ex_br 3 (x1 = 0) (fun _ => rfl) (fun hc5 => ?_) (fun hc5 => ?_)
    · rw [if_pos hc5] at h
      refine Ex_br 2 (r4.1 = 0) (fun _ => rfl) (fun hc6 => ?_) (fun hc6 => ?_)
      · rw [if_pos hc6] at h
        refine Ex_sti 1 (fun _ => rfl) ?_
        exact T_X9_either0_j44_5 D t w z 0 r4.2 _ _ _ h kc ke0
      · rw [if_neg hc6] at h
        exact T_X9_either0_j39_5 D t w z  r4.2 _ _ _ h kc ke0
    · rw [if_neg hc5] at h
      exact T_X9_either0_j39_5 D t w z  r4.2 _ _ _ h kc ke0

theorem T_X9_either0_l5 (D : Nat) (t : mTX) (w : Option Value) (z : mSG) (v : Int32 × mSG) (e : Int32 × mSG) (h : X9_either0_l5 v = some e) (ke0 : ∀ y : Int32 × mSG, e = y → ∀ (u0 u2 : Option Value), Ex (Runs (D + 39)) cd_X9_either0 (w, z, LAY t) 48 [u0, some (.int y.1), u2] [] y.2 (LAY t)) : ∀ (u2 : Option Value), Ex (Runs (D + 39)) cd_X9_either0 (w, z, LAY t) 5 [some (.ref 56), some (.int v.1), u2] [] v.2 (LAY t) :=
  m_iter (P := fun v : Int32 × mSG => ∀ (u2 : Option Value), Ex (Runs (D + 39)) cd_X9_either0 (w, z, LAY t) 5 [some (.ref 56), some (.int v.1), u2] [] v.2 (LAY t)) (Q := fun e : Int32 × mSG => (∀ y : Int32 × mSG, e = y → ∀ (u0 u2 : Option Value), Ex (Runs (D + 39)) cd_X9_either0 (w, z, LAY t) 48 [u0, some (.int y.1), u2] [] y.2 (LAY t))) (fun x o hx kc kq u2 => T_X9_either0_b5 D t w z  x.1 x.2 u2 o hx kc (fun e he => kq _ he e rfl)) mFU v e h ke0
set_option maxRecDepth 20000 in
theorem T_X9_either0 (D : Nat) (t : mTX) (s : mSG) (o : Int32 × mSG) (h : X9_either0 s = some o) : Runs (D + 40) 184 [.ref 56] s (LAY t) (some (.int o.1), o.2, LAY t) := by
  refine Runs_mk (d := D + 39) rfl ?_
  show Ex (Runs (D + 39)) cd_X9_either0 (some (.int o.1), o.2, LAY t) 0 [some (.ref 56), none, none] [] s (LAY t)
  unfold X9_either0 at h
  obtain ⟨r1, hr, h⟩ := m_bind h
  refine Ex_call 2 (fun _ => rfl) (T_X9_both0 D t  s r1 hr) rfl rfl ?_
  refine Ex_sti 1 (fun _ => rfl) ?_
  obtain ⟨e5, hl, h⟩ := m_bind h
  refine T_X9_either0_l5 D t (some (.int o.1)) o.2   (r1.1, r1.2) _ hl (fun y0 hy0 => ?_) _
  · obtain ⟨e5, rfl⟩ : ∃ q, q = y0 := ⟨_, rfl⟩
    subst hy0
    intro vu0 vu2
    obtain rfl := Option.some.inj h
    exact Ex_ret 2 (fun _ => rfl) rfl

set_option maxRecDepth 20000 in
theorem T_X9_part_j48 (D : Nat) (t : mTX) (x2 : Int32) (s : mSG) (u1 : Option Value) (o : Int32 × mSG) (h : X9_part_j48 x2 s = some o)  : Ex (Runs (D + 40)) cd_X9_part (some (.int o.1), o.2, LAY t) 48 [some (.ref 56), u1, some (.int x2)] [] s (LAY t) := by
  unfold X9_part_j48 at h
  refine Ex_br 3 ((s.1 56 31) = 0) (fun _ => rfl) (fun hc8 => ?_) (fun hc8 => ?_)
  · rw [if_pos hc8] at h
    obtain ⟨r9, hr, h⟩ := m_bind h
    refine Ex_call 2 (fun _ => rfl) (T_X9_next (D + 38) t  s r9 hr) rfl rfl ?_
    obtain rfl := Option.some.inj h
    exact Ex_ret 2 (fun _ => rfl) rfl
  · rw [if_neg hc8] at h
    obtain rfl := Option.some.inj h
    exact Ex_ret 2 (fun _ => rfl) rfl

set_option maxRecDepth 20000 in
theorem T_X9_part_j34 (D : Nat) (t : mTX) (p0 : Int32) (s : mSG) (u1 u2 : Option Value) (o : Int32 × mSG) (h : X9_part_j34 p0 s = some o)  : Ex (Runs (D + 40)) cd_X9_part (some (.int o.1), o.2, LAY t) 34 [some (.ref 56), u1, u2] [.int p0] s (LAY t) := by
  unfold X9_part_j34 at h
  refine Ex_call 4 (fun _ => rfl) (T_X9_isSign (D + 39) t 59 s _ rfl) rfl rfl ?_
  refine Ex_brZ 1 (X9_isSign 59 s) (fun _ => rfl) (fun hc => ?_) (fun hc => ?_)
  · rw [if_neg (m_nt hc)] at h
    obtain ⟨r7, hr, h⟩ := m_bind h
    refine Ex_call 2 (fun _ => rfl) (T_X9_fail (D + 39) t  s r7 hr) rfl rfl ?_
    exact T_X9_part_j48 D t p0 r7 _ _ h
  · rw [if_pos hc] at h
    exact T_X9_part_j48 D t p0 s _ _ h

set_option maxRecDepth 20000 in
theorem T_X9_part_j19 (D : Nat) (t : mTX) (s : mSG) (u1 u2 : Option Value) (o : Int32 × mSG) (h : X9_part_j19 s = some o)  : Ex (Runs (D + 40)) cd_X9_part (some (.int o.1), o.2, LAY t) 19 [some (.ref 56), u1, u2] [] s (LAY t) := by
  unfold X9_part_j19 at h
  refine Ex_br 3 ((s.1 56 31) = 0) (fun _ => rfl) (fun hc5 => ?_) (fun hc5 => ?_)
  · rw [if_pos hc5] at h
    obtain ⟨r6, hr, h⟩ := m_bind h
    refine Ex_call 2 (fun _ => rfl) (T_X9_either0 D t  s r6 hr) rfl rfl ?_
    exact T_X9_part_j34 D t r6.1 r6.2 _ _ _ h
  · rw [if_neg hc5] at h
    refine Ex_sti 2 (fun _ => rfl) ?_
    exact T_X9_part_j34 D t 0 s _ _ _ h

set_option maxRecDepth 20000 in
theorem T_X9_part_j8 (D : Nat) (t : mTX) (s : mSG) (u1 u2 : Option Value) (o : Int32 × mSG) (h : X9_part_j8 s = some o)  : Ex (Runs (D + 40)) cd_X9_part (some (.int o.1), o.2, LAY t) 8 [some (.ref 56), u1, u2] [] s (LAY t) := by
  unfold X9_part_j8 at h
  refine Ex_br 3 ((s.1 56 31) = 0) (fun _ => rfl) (fun hc3 => ?_) (fun hc3 => ?_)
  · rw [if_pos hc3] at h
    obtain ⟨r4, hr, h⟩ := m_bind h
    refine Ex_call 2 (fun _ => rfl) (T_X9_next (D + 38) t  s r4 hr) rfl rfl ?_
    exact T_X9_part_j19 D t  r4 _ _ _ h
  · rw [if_neg hc3] at h
    exact T_X9_part_j19 D t  s _ _ _ h

set_option maxRecDepth 20000 in
theorem T_X9_part (D : Nat) (t : mTX) (x1 : Int32) (s : mSG) (o : Int32 × mSG) (h : X9_part x1 s = some o) : Runs (D + 41) 185 [.ref 56, .int x1] s (LAY t) (some (.int o.1), o.2, LAY t) := by
  refine Runs_mk (d := D + 40) rfl ?_
  show Ex (Runs (D + 40)) cd_X9_part (some (.int o.1), o.2, LAY t) 0 [some (.ref 56), some (.int x1), none] [] s (LAY t)
  unfold X9_part at h
  refine Ex_br 2 (x1 = 0) (fun _ => rfl) (fun hc1 => ?_) (fun hc1 => ?_)
  · rw [if_pos hc1] at h
    obtain ⟨r2, hr, h⟩ := m_bind h
    refine Ex_call 2 (fun _ => rfl) (T_X9_fail (D + 39) t  s r2 hr) rfl rfl ?_
    exact T_X9_part_j8 D t  r2 _ _ _ h
  · rw [if_neg hc1] at h
    exact T_X9_part_j8 D t  s _ _ _ h

set_option maxRecDepth 20000 in
theorem T_X9_read_j146 (D : Nat) (t : mTX) (x2 : Int32) (x3 : Int32) (x4 : Int32) (x5 : Int32) (s : mSG) (u0 u1 : Option Value) (o : Int32 × mSG) (h : X9_read_j146 x2 x3 x4 x5 s = some o)  : Ex (Runs (D + 41)) cd_X9_read (some (.int o.1), o.2, LAY t) 146 [u0, u1, some (.int x2), some (.int x3), some (.int x4), some (.int x5)] [] s (LAY t) := by
  unfold X9_read_j146 at h
  refine Ex_br 2 (x2 = 0) (fun _ => rfl) (fun hc14 => ?_) (fun hc14 => ?_)
  · rw [if_pos hc14] at h
    obtain rfl := Option.some.inj h
    exact Ex_ret 3 (fun _ => rfl) rfl
  · rw [if_neg hc14] at h
    refine Ex_br 3 (x2 = 1) (fun _ => rfl) (fun hc15 => ?_) (fun hc15 => ?_)
    · rw [if_pos hc15] at h
      obtain rfl := Option.some.inj h
      exact Ex_ret 3 (fun _ => rfl) rfl
    · rw [if_neg hc15] at h
      obtain rfl := Option.some.inj h
      exact Ex_ret 2 (fun _ => rfl) rfl

set_option maxRecDepth 20000 in
theorem T_X9_read_j126 (D : Nat) (t : mTX) (x2 : Int32) (x3 : Int32) (x4 : Int32) (p0 : Int32) (s : mSG) (u1 u5 : Option Value) (o : Int32 × mSG) (h : X9_read_j126 x2 x3 x4 p0 s = some o)  : Ex (Runs (D + 41)) cd_X9_read (some (.int o.1), o.2, LAY t) 126 [some (.ref 56), u1, some (.int x2), some (.int x3), some (.int x4), u5] [.int p0] s (LAY t) := by
  unfold X9_read_j126 at h
  refine Ex_br 4 ((s.1 56 31) = 0) (fun _ => rfl) (fun hc11 => ?_) (fun hc11 => ?_)
  · rw [if_pos hc11] at h
    refine Ex_br 3 ((s.1 56 27) = 0) (fun _ => rfl) (fun hc12 => ?_) (fun hc12 => ?_)
    · rw [if_pos hc12] at h
      exact T_X9_read_j146 D t x2 x3 x4 p0 s _ _ _ h
    · rw [if_neg hc12] at h
      obtain ⟨r13, hr, h⟩ := m_bind h
      refine Ex_call 2 (fun _ => rfl) (T_X9_fail (D + 40) t  s r13 hr) rfl rfl ?_
      exact T_X9_read_j146 D t x2 x3 x4 p0 r13 _ _ _ h
  · rw [if_neg hc11] at h
    exact T_X9_read_j146 D t x2 x3 x4 p0 s _ _ _ h

set_option maxRecDepth 20000 in
theorem T_X9_read_j92 (D : Nat) (t : mTX) (x2 : Int32) (x3 : Int32) (p0 : Int32) (s : mSG) (u1 u4 u5 : Option Value) (o : Int32 × mSG) (h : X9_read_j92 x2 x3 p0 s = some o)  : Ex (Runs (D + 41)) cd_X9_read (some (.int o.1), o.2, LAY t) 92 [some (.ref 56), u1, some (.int x2), some (.int x3), u4, u5] [.int p0] s (LAY t) := by
  unfold X9_read_j92 at h
  refine Ex_br 4 ((s.1 56 31) = 0) (fun _ => rfl) (fun hc8 => ?_) (fun hc8 => ?_)
  · rw [if_pos hc8] at h
    obtain ⟨r9, hr, h⟩ := m_bind h
    refine Ex_call 11 (fun _ => rfl) (T_X9_isWord (D + 38) t 108 101 110 100 115 0 0 0 s r9 hr) rfl rfl ?_
    obtain ⟨r10, hr, h⟩ := m_bind h
    refine Ex_call 1 (fun _ => rfl) (T_X9_part D t (b2i r9) s r10 hr) rfl rfl ?_
    exact T_X9_read_j126 D t x2 x3 p0 r10.1 r10.2 _ _ _ h
  · rw [if_neg hc8] at h
    refine Ex_sti 2 (fun _ => rfl) ?_
    exact T_X9_read_j126 D t x2 x3 p0 0 s _ _ _ h

set_option maxRecDepth 20000 in
theorem T_X9_read (D : Nat) (t : mTX) (x1 : Int32) (x2 : Int32) (s : mSG) (o : Int32 × mSG) (h : X9_read x1 x2 s = some o) : Runs (D + 42) 186 [.ref 56, .int x1, .int x2] s (LAY t) (some (.int o.1), o.2, LAY t) := by
  refine Runs_mk (d := D + 41) rfl ?_
  show Ex (Runs (D + 41)) cd_X9_read (some (.int o.1), o.2, LAY t) 0 [some (.ref 56), some (.int x1), some (.int x2), none, none, none] [] s (LAY t)
  unfold X9_read at h
  obtain ⟨hg1, h⟩ := m_ite h
  refine Ex_gd 10 (fun _ => rfl) hg1 ?_
  refine Ex_gd 10 (fun _ => rfl) (Or.inl rfl) ?_
  obtain ⟨r2, hr, h⟩ := m_bind h
  refine Ex_call 2 (fun _ => rfl) (T_X9_next (D + 39) t  (sI (sI (sI (sI (sI s 56 24 (160 * x1)) 56 25 (s.1 58 x1.toNatClampNeg)) 56 26 0) 56 30 0) 56 31 0) r2 hr) rfl rfl ?_
  obtain ⟨r3, hr, h⟩ := m_bind h
  refine Ex_call 11 (fun _ => rfl) (T_X9_isWord (D + 38) t 119 97 110 116 115 0 0 0 r2 r3 hr) rfl rfl ?_
  obtain ⟨r4, hr, h⟩ := m_bind h
  refine Ex_call 1 (fun _ => rfl) (T_X9_part D t (b2i r3) r2 r4 hr) rfl rfl ?_
  refine Ex_br 4 ((r4.2.1 56 31) = 0) (fun _ => rfl) (fun hc5 => ?_) (fun hc5 => ?_)
  · rw [if_pos hc5] at h
    obtain ⟨r6, hr, h⟩ := m_bind h
    refine Ex_call 11 (fun _ => rfl) (T_X9_isWord (D + 38) t 116 97 107 101 115 0 0 0 r4.2 r6 hr) rfl rfl ?_
    obtain ⟨r7, hr, h⟩ := m_bind h
    refine Ex_call 1 (fun _ => rfl) (T_X9_part D t (b2i r6) r4.2 r7 hr) rfl rfl ?_
    exact T_X9_read_j92 D t x2 r4.1 r7.1 r7.2 _ _ _ _ h
  · rw [if_neg hc5] at h
    refine Ex_sti 2 (fun _ => rfl) ?_
    exact T_X9_read_j92 D t x2 r4.1 0 r4.2 _ _ _ _ h

set_option maxRecDepth 20000 in
theorem T_X9_text_b14 (D : Nat) (t : mTX) (w : Option Value) (z : mSG) (x1 : Int32) (s : mSG) (o : (Int32 × mSG) ⊕ mSG) (h : X9_text_b14 x1 s = some o) (kc : ∀ y : Int32 × mSG, o = .inl y → Ex (Runs (D + 42)) cd_X9_text (w, z, LAY t) 14 [some (.ref 56), some (.int y.1)] [] y.2 (LAY t)) (ke0 : ∀ y : mSG, o = .inr y → ∀ (u1 : Option Value), Ex (Runs (D + 42)) cd_X9_text (w, z, LAY t) 49 [some (.ref 56), u1] [] y (LAY t)) : Ex (Runs (D + 42)) cd_X9_text (w, z, LAY t) 14 [some (.ref 56), some (.int x1)] [] s (LAY t) := by
  unfold X9_text_b14 at h
  refine Ex_br 4 ((s.1 56 6) ≤ x1) (fun _ => rfl) (fun hc2 => ?_) (fun hc2 => ?_)
  · rw [if_pos hc2] at h
    obtain rfl := Option.some.inj h
    exact ke0 _ rfl _
  · rw [if_neg hc2] at h
    obtain ⟨hg3, h⟩ := m_ite h
    refine Ex_gd 12 (fun _ => rfl) hg3 ?_
    obtain ⟨hg4, h⟩ := m_ite h
    refine Ex_gd 1 (fun _ => rfl) hg4 ?_
    refine Ex_sti 2 (fun _ => rfl) ?_
    obtain rfl := Option.some.inj h
    exact kc _ rfl 

theorem T_X9_text_l14 (D : Nat) (t : mTX) (w : Option Value) (z : mSG) (v : Int32 × mSG) (e : mSG) (h : X9_text_l14 v = some e) (ke0 : ∀ y : mSG, e = y → ∀ (u1 : Option Value), Ex (Runs (D + 42)) cd_X9_text (w, z, LAY t) 49 [some (.ref 56), u1] [] y (LAY t)) : Ex (Runs (D + 42)) cd_X9_text (w, z, LAY t) 14 [some (.ref 56), some (.int v.1)] [] v.2 (LAY t) :=
  m_iter (P := fun v : Int32 × mSG => Ex (Runs (D + 42)) cd_X9_text (w, z, LAY t) 14 [some (.ref 56), some (.int v.1)] [] v.2 (LAY t)) (Q := fun e : mSG => (∀ y : mSG, e = y → ∀ (u1 : Option Value), Ex (Runs (D + 42)) cd_X9_text (w, z, LAY t) 49 [some (.ref 56), u1] [] y (LAY t))) (fun x o hx kc kq  => T_X9_text_b14 D t w z  x.1 x.2  o hx kc (fun e he => kq _ he e rfl)) mFU v e h ke0
set_option maxRecDepth 20000 in
theorem T_X9_text (D : Nat) (t : mTX) (s : mSG) (o : Int32 × mSG) (h : X9_text s = some o) : Runs (D + 43) 187 [.ref 56] s (LAY t) (some (.int o.1), o.2, LAY t) := by
  refine Runs_mk (d := D + 42) rfl ?_
  show Ex (Runs (D + 42)) cd_X9_text (some (.int o.1), o.2, LAY t) 0 [some (.ref 56), none] [] s (LAY t)
  unfold X9_text at h
  refine Ex_br 4 ((s.1 56 3) = 6) (fun _ => rfl) (fun hc1 => ?_) (fun hc1 => ?_)
  · rw [if_pos hc1] at h
    obtain rfl := Option.some.inj h
    exact Ex_ret 2 (fun _ => rfl) rfl
  · rw [if_neg hc1] at h
    refine Ex_sti 2 (fun _ => rfl) ?_
    obtain ⟨e14, hl, h⟩ := m_bind h
    refine T_X9_text_l14 D t (some (.int o.1)) o.2   (0, s) _ hl (fun y0 hy0 => ?_) 
    · obtain ⟨e14, rfl⟩ : ∃ q, q = y0 := ⟨_, rfl⟩
      subst hy0
      intro vu1
      obtain ⟨hg8, h⟩ := m_ite h
      refine Ex_gd 7 (fun _ => rfl) hg8 ?_
      obtain ⟨r9, hr, h⟩ := m_bind h
      refine Ex_call 8 (fun _ => rfl) (T_X9_read D t (e14.1 56 3) 0 (sI (sI e14 58 (e14.1 56 3).toNatClampNeg (e14.1 56 6)) 56 6 0) r9 hr) rfl rfl ?_
      refine Ex_br 4 ((r9.2.1 56 31) = 0) (fun _ => rfl) (fun hc10 => ?_) (fun hc10 => ?_)
      · rw [if_pos hc10] at h
        obtain rfl := Option.some.inj h
        exact Ex_ret 11 (fun _ => rfl) rfl
      · rw [if_neg hc10] at h
        obtain rfl := Option.some.inj h
        exact Ex_ret 5 (fun _ => rfl) rfl

set_option maxRecDepth 20000 in
theorem T_X9_force (D : Nat) (t : mTX) (x1 : Int32) (s : mSG) (o : Int32 × mSG) (h : X9_force x1 s = some o) : Runs (D + 2) 188 [.ref 56, .int x1] s (LAY t) (some (.int o.1), o.2, LAY t) := by
  refine Runs_mk (d := D + 1) rfl ?_
  show Ex (Runs (D + 1)) cd_X9_force (some (.int o.1), o.2, LAY t) 0 [some (.ref 56), some (.int x1), none] [] s (LAY t)
  unfold X9_force at h
  refine Ex_call 9 (fun _ => rfl) (T_X9_in D t x1.toInt64 0 (((s.1 56 3) - 1).toInt64) s _ rfl) rfl rfl ?_
  refine Ex_brZ 1 (X9_in x1.toInt64 0 (((s.1 56 3) - 1).toInt64)) (fun _ => rfl) (fun hc => ?_) (fun hc => ?_)
  · rw [if_neg (m_nt hc)] at h
    obtain rfl := Option.some.inj h
    exact Ex_ret 2 (fun _ => rfl) rfl
  · rw [if_pos hc] at h
    obtain rfl := Option.some.inj h
    exact Ex_ret 8 (fun _ => rfl) rfl

set_option maxRecDepth 20000 in
theorem T_X9_says_j23 (D : Nat) (t : mTX) (x1 : Int32) (x2 : Int32) (x3 : Int32) (x4 : Int32) (x5 : Int32) (x6 : Int32) (p1 : Int32) (s : mSG) (o : Int32 × mSG) (h : X9_says_j23 x1 x2 x3 x4 x5 x6 p1 s = some o)  : Ex (Runs (D + 42)) cd_X9_says (some (.int o.1), o.2, LAY t) 23 [some (.ref 56), some (.int x1), some (.int x2), some (.int x3), some (.int x4), some (.int x5), some (.int x6)] [.int p1, .ref 56] s (LAY t) := by
  unfold X9_says_j23 at h
  obtain ⟨hg3, h⟩ := m_ite h
  refine Ex_gd 9 (fun _ => rfl) hg3 ?_
  obtain ⟨r4, hr, h⟩ := m_bind h
  refine Ex_call 15 (fun _ => rfl) (T_X9_read D t (s.1 56 4) x1 (sI (sI (sI (sI (sI (sI s 56 18 p1) 56 19 x3) 56 20 (s.1 64 x2.toNatClampNeg)) 56 21 x4) 56 22 x5) 56 23 x6) r4 hr) rfl rfl ?_
  refine Ex_call 3 (fun _ => rfl) (T_X9_within (D + 41) t r4.1 0 99 r4.2 _ rfl) rfl rfl ?_
  obtain rfl := Option.some.inj h
  exact Ex_ret 1 (fun _ => rfl) rfl

set_option maxRecDepth 20000 in
theorem T_X9_says (D : Nat) (t : mTX) (x1 : Int32) (x2 : Int32) (x3 : Int32) (x4 : Int32) (x5 : Int32) (x6 : Int32) (s : mSG) (o : Int32 × mSG) (h : X9_says x1 x2 x3 x4 x5 x6 s = some o) : Runs (D + 43) 189 [.ref 56, .int x1, .int x2, .int x3, .int x4, .int x5, .int x6] s (LAY t) (some (.int o.1), o.2, LAY t) := by
  refine Runs_mk (d := D + 42) rfl ?_
  show Ex (Runs (D + 42)) cd_X9_says (some (.int o.1), o.2, LAY t) 0 [some (.ref 56), some (.int x1), some (.int x2), some (.int x3), some (.int x4), some (.int x5), some (.int x6)] [] s (LAY t)
  unfold X9_says at h
  refine Ex_br 4 (x1 = 2) (fun _ => rfl) (fun hc1 => ?_) (fun hc1 => ?_)
  · rw [if_pos hc1] at h
    refine Ex_sti 2 (fun _ => rfl) ?_
    exact T_X9_says_j23 D t x1 x2 x3 x4 x5 x6 0 s  _ h
  · rw [if_neg hc1] at h
    obtain ⟨hg2, h⟩ := m_ite h
    refine Ex_gd 8 (fun _ => rfl) hg2 ?_
    exact T_X9_says_j23 D t x1 x2 x3 x4 x5 x6 (s.1 60 ((8 * x5) + x6).toNatClampNeg) s  _ h

set_option maxRecDepth 20000 in
theorem T_X9_rainAt (D : Nat) (t : mTX) (x1 : Int32) (s : mSG) (o : Int32) (h : X9_rainAt x1 s = some o) : Runs (D + 1) 190 [.ref 56, .int x1] s (LAY t) (some (.int o), s, LAY t) := by
  refine Runs_mk (d := D) rfl ?_
  show Ex (Runs (D)) cd_X9_rainAt (some (.int o), s, LAY t) 0 [some (.ref 56), some (.int x1)] [] s (LAY t)
  unfold X9_rainAt at h
  refine Ex_gd 5 (fun _ => rfl) (by decide) ?_
  obtain ⟨hg1, h⟩ := m_ite h
  refine Ex_gd 1 (fun _ => rfl) hg1 ?_
  obtain rfl := Option.some.inj h
  exact Ex_ret 1 (fun _ => rfl) rfl

set_option maxRecDepth 20000 in
theorem T_X9_canGo (D : Nat) (t : mTX) (x1 : Int32) (x2 : Int32) (x3 : Int32) (x4 : Int32) (x5 : Int32) (s : mSG) (o : Bool × mSG) (h : X9_canGo x1 x2 x3 x4 x5 s = some o) : Runs (D + 44) 191 [.ref 56, .int x1, .int x2, .int x3, .int x4, .int x5] s (LAY t) (some (.int (b2i o.1)), o.2, LAY t) := by
  refine Runs_mk (d := D + 43) rfl ?_
  show Ex (Runs (D + 43)) cd_X9_canGo (some (.int (b2i o.1)), o.2, LAY t) 0 [some (.ref 56), some (.int x1), some (.int x2), some (.int x3), some (.int x4), some (.int x5), none] [] s (LAY t)
  unfold X9_canGo at h
  obtain ⟨hg1, h⟩ := m_ite h
  refine Ex_gd 8 (fun _ => rfl) hg1 ?_
  refine Ex_br 4 (x4 = x5) (fun _ => rfl) (fun hc2 => ?_) (fun hc2 => ?_)
  · rw [if_pos hc2] at h
    obtain rfl := Option.some.inj h
    exact Ex_retZ 2 (fun _ => rfl) (Or.inl rfl) rfl
  · rw [if_neg hc2] at h
    refine Ex_br 2 ((s.1 60 ((8 * x4) + x5).toNatClampNeg) ≤ 0) (fun _ => rfl) (fun hc3 => ?_) (fun hc3 => ?_)
    · rw [if_pos hc3] at h
      obtain rfl := Option.some.inj h
      exact Ex_retZ 2 (fun _ => rfl) (Or.inl rfl) rfl
    · rw [if_neg hc3] at h
      obtain ⟨r4, hr, h⟩ := m_bind h
      refine Ex_call 4 (fun _ => rfl) (T_X9_reaches (D + 42) t x1 x2 s r4 hr) rfl rfl ?_
      obtain ⟨r5, hr, h⟩ := m_bind h
      refine Ex_call 9 (fun _ => rfl) (T_X9_says D t 0 x1 x2 x3 x4 x5 s r5 hr) rfl rfl ?_
      refine Ex_br 2 (r4 < ((s.1 60 ((8 * x4) + x5).toNatClampNeg) + r5.1)) (fun _ => rfl) (fun hc6 => ?_) (fun hc6 => ?_)
      · rw [if_pos hc6] at h
        obtain rfl := Option.some.inj h
        exact Ex_retZ 2 (fun _ => rfl) (Or.inl rfl) rfl
      · rw [if_neg hc6] at h
        obtain rfl := Option.some.inj h
        exact Ex_retZ 3 (fun _ => rfl) (Or.inr rfl) rfl

set_option maxRecDepth 20000 in
theorem T_X9_hoursOf (D : Nat) (t : mTX) (x1 : Int32) (x2 : Int32) (x3 : Int32) (x4 : Int32) (x5 : Int32) (s : mSG) (o : Int32 × mSG) (h : X9_hoursOf x1 x2 x3 x4 x5 s = some o) : Runs (D + 44) 192 [.ref 56, .int x1, .int x2, .int x3, .int x4, .int x5] s (LAY t) (some (.int o.1), o.2, LAY t) := by
  refine Runs_mk (d := D + 43) rfl ?_
  show Ex (Runs (D + 43)) cd_X9_hoursOf (some (.int o.1), o.2, LAY t) 0 [some (.ref 56), some (.int x1), some (.int x2), some (.int x3), some (.int x4), some (.int x5)] [] s (LAY t)
  unfold X9_hoursOf at h
  obtain ⟨hg1, h⟩ := m_ite h
  refine Ex_gd 10 (fun _ => rfl) hg1 ?_
  obtain ⟨r2, hr, h⟩ := m_bind h
  refine Ex_call 1 (fun _ => rfl) (T_X9_lasts (D + 42) t x1 (s.1 60 ((8 * x4) + x5).toNatClampNeg) s r2 hr) rfl rfl ?_
  obtain ⟨r3, hr, h⟩ := m_bind h
  refine Ex_call 8 (fun _ => rfl) (T_X9_says D t 1 x1 x2 x3 x4 x5 s r3 hr) rfl rfl ?_
  obtain rfl := Option.some.inj h
  exact Ex_ret 2 (fun _ => rfl) rfl

set_option maxRecDepth 20000 in
theorem T_X9_can (D : Nat) (t : mTX) (x1 : Int32) (x2 : Int32) (x3 : Int32) (s : mSG) (o : Int32 × mSG) (h : X9_can x1 x2 x3 s = some o) : Runs (D + 45) 193 [.ref 56, .int x1, .int x2, .int x3] s (LAY t) (some (.int o.1), o.2, LAY t) := by
  refine Runs_mk (d := D + 44) rfl ?_
  show Ex (Runs (D + 44)) cd_X9_can (some (.int o.1), o.2, LAY t) 0 [some (.ref 56), some (.int x1), some (.int x2), some (.int x3), none] [] s (LAY t)
  unfold X9_can at h
  refine Ex_call 3 (fun _ => rfl) (T_X9_isOne (D + 42) t x1 s _ rfl) rfl rfl ?_
  refine Ex_brZ 1 (X9_isOne x1 s) (fun _ => rfl) (fun hc => ?_) (fun hc => ?_)
  · rw [if_neg (m_nt hc)] at h
    obtain rfl := Option.some.inj h
    exact Ex_ret 2 (fun _ => rfl) rfl
  · rw [if_pos hc] at h
    refine Ex_call 2 (fun _ => rfl) (T_X9_isStone (D + 42) t x2 s _ rfl) rfl rfl ?_
    refine Ex_brZ 1 (X9_isStone x2) (fun _ => rfl) (fun hc => ?_) (fun hc => ?_)
    · rw [if_neg (m_nt hc)] at h
      obtain rfl := Option.some.inj h
      exact Ex_ret 2 (fun _ => rfl) rfl
    · rw [if_pos hc] at h
      refine Ex_call 5 (fun _ => rfl) (T_X9_in (D + 43) t x3.toInt64 0 1 s _ rfl) rfl rfl ?_
      refine Ex_brZ 1 (X9_in x3.toInt64 0 1) (fun _ => rfl) (fun hc => ?_) (fun hc => ?_)
      · rw [if_neg (m_nt hc)] at h
        obtain rfl := Option.some.inj h
        exact Ex_ret 2 (fun _ => rfl) rfl
      · rw [if_pos hc] at h
        obtain ⟨hg1, h⟩ := m_ite h
        refine Ex_gd 6 (fun _ => rfl) hg1 ?_
        obtain ⟨r2, hr, h⟩ := m_bind h
        refine Ex_call 4 (fun _ => rfl) (T_X9_rainAt (D + 43) t (s.1 56 16) s r2 hr) rfl rfl ?_
        refine Ex_gd 4 (fun _ => rfl) hg1 ?_
        obtain ⟨r3, hr, h⟩ := m_bind h
        refine Ex_call 2 (fun _ => rfl) (T_X9_canGo D t x1 (s.1 66 x1.toNatClampNeg) r2 (s.1 65 x1.toNatClampNeg) x2 s r3 hr) rfl rfl ?_
        refine Ex_br 3 (x3 = 0) (fun _ => rfl) (fun hc4 => ?_) (fun hc4 => ?_)
        · rw [if_pos hc4] at h
          refine Ex_br 2 ((b2i r3.1) = 0) (fun _ => rfl) (fun hc5 => ?_) (fun hc5 => ?_)
          · rw [if_pos hc5] at h
            obtain rfl := Option.some.inj h
            exact Ex_ret 2 (fun _ => rfl) rfl
          · rw [if_neg hc5] at h
            obtain rfl := Option.some.inj h
            exact Ex_ret 3 (fun _ => rfl) rfl
        · rw [if_neg hc4] at h
          refine Ex_br 2 ((b2i r3.1) = 0) (fun _ => rfl) (fun hc6 => ?_) (fun hc6 => ?_)
          · rw [if_pos hc6] at h
            obtain rfl := Option.some.inj h
            exact Ex_ret 2 (fun _ => rfl) rfl
          · rw [if_neg hc6] at h
            refine Ex_gd 6 (fun _ => rfl) hg1 ?_
            obtain ⟨r7, hr, h⟩ := m_bind h
            refine Ex_call 4 (fun _ => rfl) (T_X9_rainAt (D + 43) t (r3.2.1 56 16) r3.2 r7 hr) rfl rfl ?_
            refine Ex_gd 4 (fun _ => rfl) hg1 ?_
            obtain ⟨r8, hr, h⟩ := m_bind h
            refine Ex_call 2 (fun _ => rfl) (T_X9_hoursOf D t x1 (r3.2.1 66 x1.toNatClampNeg) r7 (r3.2.1 65 x1.toNatClampNeg) x2 r3.2 r8 hr) rfl rfl ?_
            obtain rfl := Option.some.inj h
            exact Ex_ret 2 (fun _ => rfl) rfl

set_option maxRecDepth 20000 in
theorem T_X9_goes (D : Nat) (t : mTX) (x1 : Int32) (x2 : Int32) (s : mSG) (o : Bool × mSG) (h : X9_goes x1 x2 s = some o) : Runs (D + 45) 194 [.ref 56, .int x1, .int x2] s (LAY t) (some (.int (b2i o.1)), o.2, LAY t) := by
  refine Runs_mk (d := D + 44) rfl ?_
  show Ex (Runs (D + 44)) cd_X9_goes (some (.int (b2i o.1)), o.2, LAY t) 0 [some (.ref 56), some (.int x1), some (.int x2), none, none] [] s (LAY t)
  unfold X9_goes at h
  obtain ⟨r1, hr, h⟩ := m_bind h
  refine Ex_call 4 (fun _ => rfl) (T_X9_rainAt (D + 43) t (s.1 56 16) s r1 hr) rfl rfl ?_
  obtain ⟨hg2, h⟩ := m_ite h
  refine Ex_gd 7 (fun _ => rfl) hg2 ?_
  refine Ex_gd 5 (fun _ => rfl) hg2 ?_
  obtain ⟨r3, hr, h⟩ := m_bind h
  refine Ex_call 2 (fun _ => rfl) (T_X9_canGo D t x1 (s.1 66 x1.toNatClampNeg) r1 (s.1 65 x1.toNatClampNeg) x2 s r3 hr) rfl rfl ?_
  refine Ex_brZ 1 (r3.1) (fun _ => rfl) (fun hc => ?_) (fun hc => ?_)
  · rw [if_neg (m_nt hc)] at h
    obtain rfl := Option.some.inj h
    exact Ex_retZ 2 (fun _ => rfl) (Or.inl rfl) rfl
  · rw [if_pos hc] at h
    refine Ex_gd 8 (fun _ => rfl) hg2 ?_
    refine Ex_gd 5 (fun _ => rfl) hg2 ?_
    obtain ⟨r4, hr, h⟩ := m_bind h
    refine Ex_call 2 (fun _ => rfl) (T_X9_hoursOf D t x1 (r3.2.1 66 x1.toNatClampNeg) r1 (r3.2.1 65 x1.toNatClampNeg) x2 r3.2 r4 hr) rfl rfl ?_
    refine Ex_gd 11 (fun _ => rfl) hg2 ?_
    obtain ⟨r5, hr, h⟩ := m_bind h
    refine Ex_call 2 (fun _ => rfl) (T_X9_soaks (D + 42) t x1 (r4.2.1 66 x1.toNatClampNeg) r1 r4.2 r5 hr) rfl rfl ?_
    refine Ex_gd 1 (fun _ => rfl) hg2 ?_
    refine Ex_gd 5 (fun _ => rfl) hg2 ?_
    refine Ex_br 4 (9999 ≤ ((r3.2.1 56 16) + r4.1)) (fun _ => rfl) (fun hc6 => ?_) (fun hc6 => ?_)
    · rw [if_pos hc6] at h
      obtain rfl := Option.some.inj h
      exact Ex_retZ 4 (fun _ => rfl) (Or.inr rfl) rfl
    · rw [if_neg hc6] at h
      obtain rfl := Option.some.inj h
      exact Ex_retZ 5 (fun _ => rfl) (Or.inr rfl) rfl

