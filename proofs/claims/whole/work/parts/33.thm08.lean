set_option maxRecDepth 20000 in
theorem T_X9_over (D : Nat) (t : mTX) (x0 : Int32) (s : mSG) (o : Int32) (h : X9_over x0 = o) : Runs (D + 1) 222 [.int x0] s (LAY t) (some (.int o), s, LAY t) := by
  refine Runs_mk (d := D) rfl ?_
  show Ex (Runs (D)) cd_X9_over (some (.int o), s, LAY t) 0 [some (.int x0)] [] s (LAY t)
  unfold X9_over at h
  refine Ex_br 2 (x0 = 0) (fun _ => rfl) (fun hc1 => ?_) (fun hc1 => ?_)
  · rw [if_pos hc1] at h
    subst h
    exact Ex_ret 3 (fun _ => rfl) rfl
  · rw [if_neg hc1] at h
    refine Ex_br 3 (x0 = 4) (fun _ => rfl) (fun hc2 => ?_) (fun hc2 => ?_)
    · rw [if_pos hc2] at h
      subst h
      exact Ex_ret 3 (fun _ => rfl) rfl
    · rw [if_neg hc2] at h
      refine Ex_br 3 (x0 = 3) (fun _ => rfl) (fun hc3 => ?_) (fun hc3 => ?_)
      · rw [if_pos hc3] at h
        subst h
        exact Ex_ret 3 (fun _ => rfl) rfl
      · rw [if_neg hc3] at h
        refine Ex_br 3 (x0 = 5) (fun _ => rfl) (fun hc4 => ?_) (fun hc4 => ?_)
        · rw [if_pos hc4] at h
          subst h
          exact Ex_ret 3 (fun _ => rfl) rfl
        · rw [if_neg hc4] at h
          subst h
          exact Ex_ret 2 (fun _ => rfl) rfl

set_option maxRecDepth 20000 in
theorem T_X9_taken_b33 (D : Nat) (t : mTX) (w : Option Value) (z : mSG) (x1 : Int32) (x2 : Int32) (x3 : Int32) (s : mSG) (o : Int32 ⊕ Int32) (h : X9_taken_b33 x1 x2 x3 s = some o) (kc : ∀ y : Int32, o = .inl y → Ex (Runs (D + 2)) cd_X9_taken (w, z, LAY t) 33 [some (.ref 56), some (.int x1), some (.int x2), some (.int y)] [] s (LAY t)) (ke0 : ∀ y : Int32, o = .inr y → Ex (Runs (D + 2)) cd_X9_taken (w, z, LAY t) 51 [some (.ref 56), some (.int x1), some (.int x2), some (.int y)] [] s (LAY t)) : Ex (Runs (D + 2)) cd_X9_taken (w, z, LAY t) 33 [some (.ref 56), some (.int x1), some (.int x2), some (.int x3)] [] s (LAY t) := by
  unfold X9_taken_b33 at h
  refine Ex_br 3 (x3 = (-1)) (fun _ => rfl) (fun hc2 => ?_) (fun hc2 => ?_)
  · rw [if_pos hc2] at h
    obtain rfl := Option.some.inj h
    exact ke0 _ rfl 
  · rw [if_neg hc2] at h
    refine Ex_br 3 (x3 = x2) (fun _ => rfl) (fun hc3 => ?_) (fun hc3 => ?_)
    · rw [if_pos hc3] at h
      obtain rfl := Option.some.inj h
      exact ke0 _ rfl 
    · rw [if_neg hc3] at h
      refine Ex_call 2 (fun _ => rfl) (T_X9_over (D + 1) t x3 s _ rfl) rfl rfl ?_
      refine Ex_sti 2 (fun _ => rfl) ?_
      obtain rfl := Option.some.inj h
      exact kc _ rfl 

theorem T_X9_taken_l33 (D : Nat) (t : mTX) (w : Option Value) (z : mSG) (x1 : Int32) (x2 : Int32) (s : mSG) (v : Int32) (e : Int32) (h : X9_taken_l33 x1 x2 s v = some e) (ke0 : ∀ y : Int32, e = y → Ex (Runs (D + 2)) cd_X9_taken (w, z, LAY t) 51 [some (.ref 56), some (.int x1), some (.int x2), some (.int y)] [] s (LAY t)) : Ex (Runs (D + 2)) cd_X9_taken (w, z, LAY t) 33 [some (.ref 56), some (.int x1), some (.int x2), some (.int v)] [] s (LAY t) :=
  m_iter (P := fun v : Int32 => Ex (Runs (D + 2)) cd_X9_taken (w, z, LAY t) 33 [some (.ref 56), some (.int x1), some (.int x2), some (.int v)] [] s (LAY t)) (Q := fun e : Int32 => (∀ y : Int32, e = y → Ex (Runs (D + 2)) cd_X9_taken (w, z, LAY t) 51 [some (.ref 56), some (.int x1), some (.int x2), some (.int y)] [] s (LAY t))) (fun x o hx kc kq  => T_X9_taken_b33 D t w z x1 x2 x s  o hx kc (fun e he => kq _ he e rfl)) mFU v e h ke0
set_option maxRecDepth 20000 in
theorem T_X9_taken_j51 (D : Nat) (t : mTX) (x1 : Int32) (x2 : Int32) (x3 : Int32) (s : mSG) (o : Int32) (h : X9_taken_j51 x1 x2 x3 s = some o)  : Ex (Runs (D + 2)) cd_X9_taken (some (.int o), s, LAY t) 51 [some (.ref 56), some (.int x1), some (.int x2), some (.int x3)] [] s (LAY t) := by
  unfold X9_taken_j51 at h
  refine Ex_br 3 (x3 = x2) (fun _ => rfl) (fun hc4 => ?_) (fun hc4 => ?_)
  · rw [if_pos hc4] at h
    obtain ⟨hg5, h⟩ := m_ite h
    refine Ex_gd 4 (fun _ => rfl) hg5 ?_
    obtain rfl := Option.some.inj h
    exact Ex_ret 2 (fun _ => rfl) rfl
  · rw [if_neg hc4] at h
    obtain rfl := Option.some.inj h
    exact Ex_ret 2 (fun _ => rfl) rfl

set_option maxRecDepth 20000 in
theorem T_X9_taken (D : Nat) (t : mTX) (x1 : Int32) (x2 : Int32) (s : mSG) (o : Int32) (h : X9_taken x1 x2 s = some o) : Runs (D + 3) 223 [.ref 56, .int x1, .int x2] s (LAY t) (some (.int o), s, LAY t) := by
  refine Runs_mk (d := D + 2) rfl ?_
  show Ex (Runs (D + 2)) cd_X9_taken (some (.int o), s, LAY t) 0 [some (.ref 56), some (.int x1), some (.int x2), none] [] s (LAY t)
  unfold X9_taken at h
  refine Ex_call 5 (fun _ => rfl) (T_X9_in (D + 1) t x2.toInt64 0 5 s _ rfl) rfl rfl ?_
  refine Ex_brZ 1 (X9_in x2.toInt64 0 5) (fun _ => rfl) (fun hc => ?_) (fun hc => ?_)
  · rw [if_neg (m_nt hc)] at h
    obtain rfl := Option.some.inj h
    exact Ex_ret 2 (fun _ => rfl) rfl
  · rw [if_pos hc] at h
    refine Ex_call 3 (fun _ => rfl) (T_X9_isOne D t x1 s _ rfl) rfl rfl ?_
    refine Ex_brZ 1 (X9_isOne x1 s) (fun _ => rfl) (fun hc => ?_) (fun hc => ?_)
    · rw [if_neg (m_nt hc)] at h
      obtain rfl := Option.some.inj h
      exact Ex_ret 2 (fun _ => rfl) rfl
    · rw [if_pos hc] at h
      obtain ⟨hg1, h⟩ := m_ite h
      refine Ex_gd 4 (fun _ => rfl) hg1 ?_
      refine Ex_sti 1 (fun _ => rfl) ?_
      obtain ⟨e33, hl, h⟩ := m_bind h
      refine T_X9_taken_l33 D t (some (.int o)) s x1 x2 s (s.1 61 x1.toNatClampNeg) _ hl (fun y0 hy0 => ?_) 
      · obtain ⟨e33, rfl⟩ : ∃ q, q = y0 := ⟨_, rfl⟩
        subst hy0
        exact T_X9_taken_j51 D t x1 x2 e33 s  _ h

