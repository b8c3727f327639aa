/-! ITS RUNS -/
set_option maxRecDepth 20000 in
theorem Z_T_J9_min (D : Nat) (t : mTX) (x0 : Int32) (x1 : Int32) (s : mSG) (o : Int32) (h : J9_min x0 x1 = o) : Runs (D + 1) 226 [.int x0, .int x1] s (LYC t) (some (.int o), s, LYC t) := by
  refine Runs_mk (d := D) rfl ?_
  show Ex (Runs (D)) cd_J9_min_7cf53 (some (.int o), s, LYC t) 0 [some (.int x0), some (.int x1)] [] s (LYC t)
  unfold J9_min at h
  refine Ex_br 3 (x1 < x0) (fun _ => rfl) (fun hc1 => ?_) (fun hc1 => ?_)
  · rw [if_pos hc1] at h
    subst h
    exact Ex_ret 2 (fun _ => rfl) rfl
  · rw [if_neg hc1] at h
    subst h
    exact Ex_ret 3 (fun _ => rfl) rfl
set_option maxRecDepth 20000 in
theorem Z_T_J9_max (D : Nat) (t : mTX) (x0 : Int32) (x1 : Int32) (s : mSG) (o : Int32) (h : J9_max x0 x1 = o) : Runs (D + 1) 225 [.int x0, .int x1] s (LYC t) (some (.int o), s, LYC t) := by
  refine Runs_mk (d := D) rfl ?_
  show Ex (Runs (D)) cd_J9_max_7cf53 (some (.int o), s, LYC t) 0 [some (.int x0), some (.int x1)] [] s (LYC t)
  unfold J9_max at h
  refine Ex_br 3 (x0 < x1) (fun _ => rfl) (fun hc1 => ?_) (fun hc1 => ?_)
  · rw [if_pos hc1] at h
    subst h
    exact Ex_ret 2 (fun _ => rfl) rfl
  · rw [if_neg hc1] at h
    subst h
    exact Ex_ret 3 (fun _ => rfl) rfl
set_option maxRecDepth 20000 in
theorem Z_T_X8_bounded (D : Nat) (t : mTX) (x0 : Int32) (x1 : Int32) (x2 : Int32) (s : mSG) (o : Int32) (h : X8_bounded x0 x1 x2 = o) : Runs (D + 2) 109 [.int x0, .int x1, .int x2] s (LYC t) (some (.int o), s, LYC t) := by
  refine Runs_mk (d := D + 1) rfl ?_
  show Ex (Runs (D + 1)) cd_X8_bounded (some (.int o), s, LYC t) 0 [some (.int x0), some (.int x1), some (.int x2)] [] s (LYC t)
  unfold X8_bounded at h
  refine Ex_call 4 (fun _ => rfl) (Z_T_J9_min D t x2 x0 s _ rfl) rfl rfl ?_
  refine Ex_call 1 (fun _ => rfl) (Z_T_J9_max D t x1 (J9_min x2 x0) s _ rfl) rfl rfl ?_
  subst h
  exact Ex_ret 1 (fun _ => rfl) rfl
set_option maxRecDepth 20000 in
theorem Z_T_X1_isLetter (D : Nat) (t : mTX) (x0 : Int32) (s : mSG) (o : Bool) (h : X1_isLetter x0 = o) : Runs (D + 1) 25 [.int x0] s (LYC t) (some (.int (b2i o)), s, LYC t) := by
  refine Runs_mk (d := D) rfl ?_
  show Ex (Runs (D)) cd_X1_isLetter (some (.int (b2i o)), s, LYC t) 0 [some (.int x0)] [] s (LYC t)
  unfold X1_isLetter at h
  refine Ex_br 3 (x0 < 97) (fun _ => rfl) (fun hc1 => ?_) (fun hc1 => ?_)
  · rw [if_pos hc1] at h
    subst h
    exact Ex_retZ 2 (fun _ => rfl) (Or.inl rfl) rfl
  · rw [if_neg hc1] at h
    refine Ex_br 3 (122 < x0) (fun _ => rfl) (fun hc2 => ?_) (fun hc2 => ?_)
    · rw [if_pos hc2] at h
      subst h
      exact Ex_retZ 2 (fun _ => rfl) (Or.inl rfl) rfl
    · rw [if_neg hc2] at h
      subst h
      exact Ex_retZ 3 (fun _ => rfl) (Or.inr rfl) rfl
set_option maxRecDepth 20000 in
theorem Z_T_X1_isDigit (D : Nat) (t : mTX) (x0 : Int32) (s : mSG) (o : Bool) (h : X1_isDigit x0 = o) : Runs (D + 1) 26 [.int x0] s (LYC t) (some (.int (b2i o)), s, LYC t) := by
  refine Runs_mk (d := D) rfl ?_
  show Ex (Runs (D)) cd_X1_isDigit (some (.int (b2i o)), s, LYC t) 0 [some (.int x0)] [] s (LYC t)
  unfold X1_isDigit at h
  refine Ex_br 3 (x0 < 48) (fun _ => rfl) (fun hc1 => ?_) (fun hc1 => ?_)
  · rw [if_pos hc1] at h
    subst h
    exact Ex_retZ 2 (fun _ => rfl) (Or.inl rfl) rfl
  · rw [if_neg hc1] at h
    refine Ex_br 3 (57 < x0) (fun _ => rfl) (fun hc2 => ?_) (fun hc2 => ?_)
    · rw [if_pos hc2] at h
      subst h
      exact Ex_retZ 2 (fun _ => rfl) (Or.inl rfl) rfl
    · rw [if_neg hc2] at h
      subst h
      exact Ex_retZ 3 (fun _ => rfl) (Or.inr rfl) rfl
set_option maxRecDepth 20000 in
theorem Z_T_X1_isSign (D : Nat) (t : mTX) (x0 : Int32) (s : mSG) (o : Bool) (h : X1_isSign x0 = o) : Runs (D + 1) 27 [.int x0] s (LYC t) (some (.int (b2i o)), s, LYC t) := by
  refine Runs_mk (d := D) rfl ?_
  show Ex (Runs (D)) cd_X1_isSign (some (.int (b2i o)), s, LYC t) 0 [some (.int x0)] [] s (LYC t)
  unfold X1_isSign at h
  refine Ex_sw 2 (fun _ => rfl) ?_
  refine mSwE_cons (fun hc => ?_) (fun hc => ?_)
  · rw [if_pos hc] at h
    subst h
    exact Ex_retZ 2 (fun _ => rfl) (Or.inr rfl) rfl
  · rw [if_neg hc] at h
    refine mSwE_cons (fun hc => ?_) (fun hc => ?_)
    · rw [if_pos hc] at h
      subst h
      exact Ex_retZ 2 (fun _ => rfl) (Or.inr rfl) rfl
    · rw [if_neg hc] at h
      refine mSwE_cons (fun hc => ?_) (fun hc => ?_)
      · rw [if_pos hc] at h
        subst h
        exact Ex_retZ 2 (fun _ => rfl) (Or.inr rfl) rfl
      · rw [if_neg hc] at h
        refine mSwE_cons (fun hc => ?_) (fun hc => ?_)
        · rw [if_pos hc] at h
          subst h
          exact Ex_retZ 2 (fun _ => rfl) (Or.inr rfl) rfl
        · rw [if_neg hc] at h
          refine mSwE_cons (fun hc => ?_) (fun hc => ?_)
          · rw [if_pos hc] at h
            subst h
            exact Ex_retZ 2 (fun _ => rfl) (Or.inl rfl) rfl
          · rw [if_neg hc] at h
            refine mSwE_cons (fun hc => ?_) (fun hc => ?_)
            · rw [if_pos hc] at h
              subst h
              exact Ex_retZ 2 (fun _ => rfl) (Or.inr rfl) rfl
            · rw [if_neg hc] at h
              refine mSwE_cons (fun hc => ?_) (fun hc => ?_)
              · rw [if_pos hc] at h
                subst h
                exact Ex_retZ 2 (fun _ => rfl) (Or.inl rfl) rfl
              · rw [if_neg hc] at h
                refine mSwE_cons (fun hc => ?_) (fun hc => ?_)
                · rw [if_pos hc] at h
                  subst h
                  exact Ex_retZ 2 (fun _ => rfl) (Or.inl rfl) rfl
                · rw [if_neg hc] at h
                  refine mSwE_cons (fun hc => ?_) (fun hc => ?_)
                  · rw [if_pos hc] at h
                    subst h
                    exact Ex_retZ 2 (fun _ => rfl) (Or.inl rfl) rfl
                  · rw [if_neg hc] at h
                    refine mSwE_cons (fun hc => ?_) (fun hc => ?_)
                    · rw [if_pos hc] at h
                      subst h
                      exact Ex_retZ 2 (fun _ => rfl) (Or.inl rfl) rfl
                    · rw [if_neg hc] at h
                      refine mSwE_cons (fun hc => ?_) (fun hc => ?_)
                      · rw [if_pos hc] at h
                        subst h
                        exact Ex_retZ 2 (fun _ => rfl) (Or.inl rfl) rfl
                      · rw [if_neg hc] at h
                        refine mSwE_cons (fun hc => ?_) (fun hc => ?_)
                        · rw [if_pos hc] at h
                          subst h
                          exact Ex_retZ 2 (fun _ => rfl) (Or.inl rfl) rfl
                        · rw [if_neg hc] at h
                          refine mSwE_cons (fun hc => ?_) (fun hc => ?_)
                          · rw [if_pos hc] at h
                            subst h
                            exact Ex_retZ 2 (fun _ => rfl) (Or.inl rfl) rfl
                          · rw [if_neg hc] at h
                            refine mSwE_cons (fun hc => ?_) (fun hc => ?_)
                            · rw [if_pos hc] at h
                              subst h
                              exact Ex_retZ 2 (fun _ => rfl) (Or.inl rfl) rfl
                            · rw [if_neg hc] at h
                              refine mSwE_cons (fun hc => ?_) (fun hc => ?_)
                              · rw [if_pos hc] at h
                                subst h
                                exact Ex_retZ 2 (fun _ => rfl) (Or.inl rfl) rfl
                              · rw [if_neg hc] at h
                                refine mSwE_cons (fun hc => ?_) (fun hc => ?_)
                                · rw [if_pos hc] at h
                                  subst h
                                  exact Ex_retZ 2 (fun _ => rfl) (Or.inl rfl) rfl
                                · rw [if_neg hc] at h
                                  refine mSwE_cons (fun hc => ?_) (fun hc => ?_)
                                  · rw [if_pos hc] at h
                                    subst h
                                    exact Ex_retZ 2 (fun _ => rfl) (Or.inl rfl) rfl
                                  · rw [if_neg hc] at h
                                    refine mSwE_cons (fun hc => ?_) (fun hc => ?_)
                                    · rw [if_pos hc] at h
                                      subst h
                                      exact Ex_retZ 2 (fun _ => rfl) (Or.inl rfl) rfl
                                    · rw [if_neg hc] at h
                                      refine mSwE_cons (fun hc => ?_) (fun hc => ?_)
                                      · rw [if_pos hc] at h
                                        subst h
                                        exact Ex_retZ 2 (fun _ => rfl) (Or.inl rfl) rfl
                                      · rw [if_neg hc] at h
                                        refine mSwE_cons (fun hc => ?_) (fun hc => ?_)
                                        · rw [if_pos hc] at h
                                          subst h
                                          exact Ex_retZ 2 (fun _ => rfl) (Or.inr rfl) rfl
                                        · rw [if_neg hc] at h
                                          refine mSwE_cons (fun hc => ?_) (fun hc => ?_)
                                          · rw [if_pos hc] at h
                                            subst h
                                            exact Ex_retZ 2 (fun _ => rfl) (Or.inr rfl) rfl
                                          · rw [if_neg hc] at h
                                            refine mSwE_cons (fun hc => ?_) (fun hc => ?_)
                                            · rw [if_pos hc] at h
                                              subst h
                                              exact Ex_retZ 2 (fun _ => rfl) (Or.inr rfl) rfl
                                            · rw [if_neg hc] at h
                                              refine mSwE_nil ?_
                                              subst h
                                              exact Ex_retZ 2 (fun _ => rfl) (Or.inl rfl) rfl
set_option maxRecDepth 20000 in
theorem Z_T_X1_readNumber_b5 (D : Nat) (t : mTX) (w : Option Value) (z : mSG) (s : mSG) (o : mSG ⊕ mSG) (h : Z1_readNumber_b5 t s = some o) (kc : ∀ y : mSG, o = .inl y → Ex (Runs (D + 1)) cd_X1_readNumber (w, z, LYC t) 5 [some (.ref 25)] [] y (LYC t)) (ke0 : ∀ y : mSG, o = .inr y → Ex (Runs (D + 1)) cd_X1_readNumber (w, z, LYC t) 68 [some (.ref 25)] [] y (LYC t)) : Ex (Runs (D + 1)) cd_X1_readNumber (w, z, LYC t) 5 [some (.ref 25)] [] s (LYC t) := by
  unfold Z1_readNumber_b5 at h
  refine Ex_br 5 ((s.1 25 4) ≤ (s.1 25 8)) (fun _ => rfl) (fun hc1 => ?_) (fun hc1 => ?_)
  · rw [if_pos hc1] at h
    obtain rfl := Option.some.inj h
    exact ke0 _ rfl 
  · rw [if_neg hc1] at h
    obtain ⟨a2, hq, h⟩ := m_bind h
    refine Ex_getQ 2 (fun _ => rfl) hq ?_
    obtain ⟨hg, h⟩ := m_ite h
    refine Ex_ifg 3 (fun _ => rfl) hg.1 hg.2 ?_
    refine Ex_call 1 (fun _ => rfl) (Z_T_X1_isDigit D t (s.1 a2 (s.1 25 8).toNatClampNeg) s _ rfl) rfl rfl ?_
    refine Ex_brZ 1 (X1_isDigit (s.1 a2 (s.1 25 8).toNatClampNeg)) (fun _ => rfl) (fun hc => ?_) (fun hc => ?_)
    · rw [if_neg (m_nt hc)] at h
      obtain rfl := Option.some.inj h
      exact ke0 _ rfl 
    · rw [if_pos hc] at h
      obtain ⟨a3, hq, h⟩ := m_bind h
      refine Ex_getQ 7 (fun _ => rfl) hq ?_
      obtain ⟨hg, h⟩ := m_ite h
      refine Ex_ifg 3 (fun _ => rfl) hg.1 hg.2 ?_
      refine Ex_sti 11 (fun _ => rfl) ?_
      obtain rfl := Option.some.inj h
      exact kc _ rfl
theorem Z_T_X1_readNumber_l5 (D : Nat) (t : mTX) (w : Option Value) (z : mSG) (v : mSG) (e : mSG) (h : Z1_readNumber_l5 t v = some e) (ke0 : ∀ y : mSG, e = y → Ex (Runs (D + 1)) cd_X1_readNumber (w, z, LYC t) 68 [some (.ref 25)] [] y (LYC t)) : Ex (Runs (D + 1)) cd_X1_readNumber (w, z, LYC t) 5 [some (.ref 25)] [] v (LYC t) :=
  m_iter (P := fun v : mSG => Ex (Runs (D + 1)) cd_X1_readNumber (w, z, LYC t) 5 [some (.ref 25)] [] v (LYC t)) (Q := fun e : mSG => (∀ y : mSG, e = y → Ex (Runs (D + 1)) cd_X1_readNumber (w, z, LYC t) 68 [some (.ref 25)] [] y (LYC t))) (fun x o hx kc kq  => Z_T_X1_readNumber_b5 D t w z   x  o hx kc (fun e he => kq _ he e rfl)) mFU v e h ke0
set_option maxRecDepth 20000 in
theorem Z_T_X1_readNumber_j68 (D : Nat) (t : mTX) (s : mSG) (o : mSG) (h : Z1_readNumber_j68 t s = some o)  : Ex (Runs (D + 1)) cd_X1_readNumber (none, o, LYC t) 68 [some (.ref 25)] [] s (LYC t) := by
  unfold Z1_readNumber_j68 at h
  refine Ex_br 8 (((s.1 25 8) - (s.1 25 7)) ≤ 4) (fun _ => rfl) (fun hc4 => ?_) (fun hc4 => ?_)
  · rw [if_pos hc4] at h
    obtain rfl := Option.some.inj h
    exact Ex_ret 3 (fun _ => rfl) rfl
  · rw [if_neg hc4] at h
    obtain rfl := Option.some.inj h
    exact Ex_ret 4 (fun _ => rfl) rfl
set_option maxRecDepth 20000 in
theorem Z_T_X1_readNumber (D : Nat) (t : mTX) (s : mSG) (o : mSG) (h : Z1_readNumber t s = some o) : Runs (D + 2) 24 [.ref 25] s (LYC t) (none, o, LYC t) := by
  refine Runs_mk (d := D + 1) rfl ?_
  show Ex (Runs (D + 1)) cd_X1_readNumber (none, o, LYC t) 0 [some (.ref 25)] [] s (LYC t)
  unfold Z1_readNumber at h
  refine Ex_sti 3 (fun _ => rfl) ?_
  obtain ⟨e5, hl, h⟩ := m_bind h
  refine Z_T_X1_readNumber_l5 D t none o   (sI s 25 6 0) _ hl (fun y0 hy0 => ?_) 
  · obtain ⟨e5, rfl⟩ : ∃ q, q = y0 := ⟨_, rfl⟩
    subst hy0
    exact Z_T_X1_readNumber_j68 D t  e5  _ h
set_option maxRecDepth 20000 in
theorem Z_T_X1_isSpelled_b19 (D : Nat) (t : mTX) (w : Option Value) (z : mSG) (x1 : Int32) (x2 : Int32) (x3 : Int32) (s : mSG) (o : Int32 ⊕ (Unit ⊕ Unit)) (h : Z1_isSpelled_b19 t x1 x2 x3 s = some o) (kc : ∀ y : Int32, o = .inl y → Ex (Runs (D + 4)) cd_X1_isSpelled (w, z, LYC t) 19 [some (.ref 25), some (.int x1), some (.int x2), some (.int y)] [] s (LYC t)) (ke0 : ∀ y : Unit, o = .inr (.inl y) → ∀ (u0 u1 u2 u3 : Option Value), Ex (Runs (D + 4)) cd_X1_isSpelled (w, z, LYC t) 46 [u0, u1, u2, u3] [] s (LYC t)) (ke1 : ∀ y : Unit, o = .inr (.inr y) → ∀ (u0 u1 u2 u3 : Option Value), Ex (Runs (D + 4)) cd_X1_isSpelled (w, z, LYC t) 54 [u0, u1, u2, u3] [] s (LYC t)) : Ex (Runs (D + 4)) cd_X1_isSpelled (w, z, LYC t) 19 [some (.ref 25), some (.int x1), some (.int x2), some (.int x3)] [] s (LYC t) := by
  unfold Z1_isSpelled_b19 at h
  refine Ex_br 3 (x2 ≤ x3) (fun _ => rfl) (fun hc2 => ?_) (fun hc2 => ?_)
  · rw [if_pos hc2] at h
    obtain rfl := Option.some.inj h
    exact ke1 _ rfl _ _ _ _
  · rw [if_neg hc2] at h
    obtain ⟨hg, h⟩ := m_ite h
    refine Ex_call 3 (fun _ => rfl) (T_charAt3 D (LYC t) x3 s rfl hg) rfl rfl ?_
    obtain ⟨a3, hq, h⟩ := m_bind h
    refine Ex_getQ 2 (fun _ => rfl) hq ?_
    obtain ⟨hg, h⟩ := m_ite h
    refine Ex_ifg 7 (fun _ => rfl) hg.1 hg.2 ?_
    refine Ex_br 1 ((mChr 3 x3 s) = (s.1 a3 (((s.1 25 7) + x3) - x1).toNatClampNeg)) (fun _ => rfl) (fun hc4 => ?_) (fun hc4 => ?_)
    · rw [if_pos hc4] at h
      refine Ex_sti 2 (fun _ => rfl) ?_
      obtain rfl := Option.some.inj h
      exact kc _ rfl 
    · rw [if_neg hc4] at h
      obtain rfl := Option.some.inj h
      exact ke0 _ rfl _ _ _ _
theorem Z_T_X1_isSpelled_l19 (D : Nat) (t : mTX) (w : Option Value) (z : mSG) (x1 : Int32) (x2 : Int32) (s : mSG) (v : Int32) (e : (Unit ⊕ Unit)) (h : Z1_isSpelled_l19 t x1 x2 s v = some e) (ke0 : ∀ y : Unit, e = (.inl y) → ∀ (u0 u1 u2 u3 : Option Value), Ex (Runs (D + 4)) cd_X1_isSpelled (w, z, LYC t) 46 [u0, u1, u2, u3] [] s (LYC t)) (ke1 : ∀ y : Unit, e = (.inr y) → ∀ (u0 u1 u2 u3 : Option Value), Ex (Runs (D + 4)) cd_X1_isSpelled (w, z, LYC t) 54 [u0, u1, u2, u3] [] s (LYC t)) : Ex (Runs (D + 4)) cd_X1_isSpelled (w, z, LYC t) 19 [some (.ref 25), some (.int x1), some (.int x2), some (.int v)] [] s (LYC t) :=
  m_iter (P := fun v : Int32 => Ex (Runs (D + 4)) cd_X1_isSpelled (w, z, LYC t) 19 [some (.ref 25), some (.int x1), some (.int x2), some (.int v)] [] s (LYC t)) (Q := fun e : (Unit ⊕ Unit) => (∀ y : Unit, e = (.inl y) → ∀ (u0 u1 u2 u3 : Option Value), Ex (Runs (D + 4)) cd_X1_isSpelled (w, z, LYC t) 46 [u0, u1, u2, u3] [] s (LYC t)) ∧ (∀ y : Unit, e = (.inr y) → ∀ (u0 u1 u2 u3 : Option Value), Ex (Runs (D + 4)) cd_X1_isSpelled (w, z, LYC t) 54 [u0, u1, u2, u3] [] s (LYC t))) (fun x o hx kc kq  => Z_T_X1_isSpelled_b19 D t w z x1 x2 x s  o hx kc (fun e he => (kq _ (by rw [he])).1 e rfl) (fun e he => (kq _ (by rw [he])).2 e rfl)) mFU v e h ⟨ke0, ke1⟩
set_option maxRecDepth 20000 in
theorem Z_T_X1_isSpelled (D : Nat) (t : mTX) (x1 : Int32) (x2 : Int32) (s : mSG) (o : Bool) (h : Z1_isSpelled t x1 x2 s = some o) : Runs (D + 5) 23 [.ref 25, .int x1, .int x2] s (LYC t) (some (.int (b2i o)), s, LYC t) := by
  refine Runs_mk (d := D + 4) rfl ?_
  show Ex (Runs (D + 4)) cd_X1_isSpelled (some (.int (b2i o)), s, LYC t) 0 [some (.ref 25), some (.int x1), some (.int x2), none] [] s (LYC t)
  unfold Z1_isSpelled at h
  refine Ex_br 9 ((x2 - x1) = ((s.1 25 8) - (s.1 25 7))) (fun _ => rfl) (fun hc1 => ?_) (fun hc1 => ?_)
  · rw [if_pos hc1] at h
    refine Ex_sti 2 (fun _ => rfl) ?_
    obtain ⟨e19, hl, h⟩ := m_bind h
    refine Z_T_X1_isSpelled_l19 D t (some (.int (b2i o))) s x1 x2 s x1 _ hl (fun y0 hy0 => ?_) (fun y1 hy1 => ?_) 
    · obtain ⟨e19_0, rfl⟩ : ∃ q, q = y0 := ⟨_, rfl⟩
      subst hy0
      simp only [Sum.elim_inl, Sum.elim_inr] at h
      intro vu0 vu1 vu2 vu3
      obtain rfl := Option.some.inj h
      exact Ex_retZ 2 (fun _ => rfl) (Or.inl rfl) rfl
    · obtain ⟨e19_1, rfl⟩ : ∃ q, q = y1 := ⟨_, rfl⟩
      subst hy1
      simp only [Sum.elim_inl, Sum.elim_inr] at h
      intro vu0 vu1 vu2 vu3
      obtain rfl := Option.some.inj h
      exact Ex_retZ 2 (fun _ => rfl) (Or.inr rfl) rfl
  · rw [if_neg hc1] at h
    obtain rfl := Option.some.inj h
    exact Ex_retZ 2 (fun _ => rfl) (Or.inl rfl) rfl
set_option maxRecDepth 20000 in
theorem Z_T_X1_readWord_b0 (D : Nat) (t : mTX) (w : Option Value) (z : mSG) (s : mSG) (u1 u2 u3 : Option Value) (o : mSG ⊕ mSG) (h : Z1_readWord_b0 t s = some o) (kc : ∀ y : mSG, o = .inl y → ∀ (u1 u2 u3 : Option Value), Ex (Runs (D + 5)) cd_X1_readWord (w, z, LYC t) 0 [some (.ref 25), u1, u2, u3] [] y (LYC t)) (ke0 : ∀ y : mSG, o = .inr y → ∀ (u1 u2 u3 : Option Value), Ex (Runs (D + 5)) cd_X1_readWord (w, z, LYC t) 39 [some (.ref 25), u1, u2, u3] [] y (LYC t)) : Ex (Runs (D + 5)) cd_X1_readWord (w, z, LYC t) 0 [some (.ref 25), u1, u2, u3] [] s (LYC t) := by
  unfold Z1_readWord_b0 at h
  refine Ex_br 5 ((s.1 25 4) ≤ (s.1 25 8)) (fun _ => rfl) (fun hc1 => ?_) (fun hc1 => ?_)
  · rw [if_pos hc1] at h
    obtain rfl := Option.some.inj h
    exact ke0 _ rfl _ _ _
  · rw [if_neg hc1] at h
    obtain ⟨a2, hq, h⟩ := m_bind h
    refine Ex_getQ 2 (fun _ => rfl) hq ?_
    obtain ⟨hg, h⟩ := m_ite h
    refine Ex_ifg 3 (fun _ => rfl) hg.1 hg.2 ?_
    refine Ex_call 1 (fun _ => rfl) (Z_T_X1_isLetter (D + 4) t (s.1 a2 (s.1 25 8).toNatClampNeg) s _ rfl) rfl rfl ?_
    refine Ex_brZ 1 (X1_isLetter (s.1 a2 (s.1 25 8).toNatClampNeg)) (fun _ => rfl) (fun hc => ?_) (fun hc => ?_)
    · rw [if_neg (m_nt hc)] at h
      obtain rfl := Option.some.inj h
      exact ke0 _ rfl _ _ _
    · rw [if_pos hc] at h
      refine Ex_sti 7 (fun _ => rfl) ?_
      obtain rfl := Option.some.inj h
      exact kc _ rfl _ _ _
theorem Z_T_X1_readWord_l0 (D : Nat) (t : mTX) (w : Option Value) (z : mSG) (v : mSG) (e : mSG) (h : Z1_readWord_l0 t v = some e) (ke0 : ∀ y : mSG, e = y → ∀ (u1 u2 u3 : Option Value), Ex (Runs (D + 5)) cd_X1_readWord (w, z, LYC t) 39 [some (.ref 25), u1, u2, u3] [] y (LYC t)) : ∀ (u1 u2 u3 : Option Value), Ex (Runs (D + 5)) cd_X1_readWord (w, z, LYC t) 0 [some (.ref 25), u1, u2, u3] [] v (LYC t) :=
  m_iter (P := fun v : mSG => ∀ (u1 u2 u3 : Option Value), Ex (Runs (D + 5)) cd_X1_readWord (w, z, LYC t) 0 [some (.ref 25), u1, u2, u3] [] v (LYC t)) (Q := fun e : mSG => (∀ y : mSG, e = y → ∀ (u1 u2 u3 : Option Value), Ex (Runs (D + 5)) cd_X1_readWord (w, z, LYC t) 39 [some (.ref 25), u1, u2, u3] [] y (LYC t))) (fun x o hx kc kq u1 u2 u3 => Z_T_X1_readWord_b0 D t w z   x u1 u2 u3 o hx kc (fun e he => kq _ he e rfl)) mFU v e h ke0
set_option maxRecDepth 20000 in
theorem Z_T_X1_readWord_j93_52 (D : Nat) (t : mTX) (w : Option Value) (z : mSG) (x1 : Int32) (x2 : Int32) (x3 : Int32) (s : mSG) (o : (Int32 × Int32 × Int32 × mSG) ⊕ mSG) (h : Z1_readWord_j93_52 t x1 x2 x3 s = some o) (kc : ∀ y : Int32 × Int32 × Int32 × mSG, o = .inl y → Ex (Runs (D + 5)) cd_X1_readWord (w, z, LYC t) 52 [some (.ref 25), some (.int y.1), some (.int y.2.1), some (.int y.2.2.1)] [] y.2.2.2 (LYC t)) (ke0 : ∀ y : mSG, o = .inr y → ∀ (u0 u1 u2 u3 : Option Value), Ex (Runs (D + 5)) cd_X1_readWord (w, z, LYC t) 99 [u0, u1, u2, u3] [] y (LYC t)) : Ex (Runs (D + 5)) cd_X1_readWord (w, z, LYC t) 93 [some (.ref 25), some (.int x1), some (.int x2), some (.int x3)] [] s (LYC t) := by
  unfold Z1_readWord_j93_52 at h
  refine Ex_sti 2 (fun _ => rfl) ?_
  obtain rfl := Option.some.inj h
  exact kc _ rfl
set_option maxRecDepth 20000 in
theorem Z_T_X1_readWord_j86_52 (D : Nat) (t : mTX) (w : Option Value) (z : mSG) (x1 : Int32) (x3 : Int32) (s : mSG) (u2 : Option Value) (o : (Int32 × Int32 × Int32 × mSG) ⊕ mSG) (h : Z1_readWord_j86_52 t x1 x3 s = some o) (kc : ∀ y : Int32 × Int32 × Int32 × mSG, o = .inl y → Ex (Runs (D + 5)) cd_X1_readWord (w, z, LYC t) 52 [some (.ref 25), some (.int y.1), some (.int y.2.1), some (.int y.2.2.1)] [] y.2.2.2 (LYC t)) (ke0 : ∀ y : mSG, o = .inr y → ∀ (u0 u1 u2 u3 : Option Value), Ex (Runs (D + 5)) cd_X1_readWord (w, z, LYC t) 99 [u0, u1, u2, u3] [] y (LYC t)) : Ex (Runs (D + 5)) cd_X1_readWord (w, z, LYC t) 86 [some (.ref 25), some (.int x1), u2, some (.int x3)] [] s (LYC t) := by
  unfold Z1_readWord_j86_52 at h
  refine Ex_sti 5 (fun _ => rfl) ?_
  exact Z_T_X1_readWord_j93_52 D t w z (x1 + 1) (x3 + 1) x3 s  _ h kc ke0
set_option maxRecDepth 20000 in
theorem Z_T_X1_readWord_b52 (D : Nat) (t : mTX) (w : Option Value) (z : mSG) (x1 : Int32) (x2 : Int32) (x3 : Int32) (s : mSG) (o : (Int32 × Int32 × Int32 × mSG) ⊕ mSG) (h : Z1_readWord_b52 t x1 x2 x3 s = some o) (kc : ∀ y : Int32 × Int32 × Int32 × mSG, o = .inl y → Ex (Runs (D + 5)) cd_X1_readWord (w, z, LYC t) 52 [some (.ref 25), some (.int y.1), some (.int y.2.1), some (.int y.2.2.1)] [] y.2.2.2 (LYC t)) (ke0 : ∀ y : mSG, o = .inr y → ∀ (u0 u1 u2 u3 : Option Value), Ex (Runs (D + 5)) cd_X1_readWord (w, z, LYC t) 99 [u0, u1, u2, u3] [] y (LYC t)) : Ex (Runs (D + 5)) cd_X1_readWord (w, z, LYC t) 52 [some (.ref 25), some (.int x1), some (.int x2), some (.int x3)] [] s (LYC t) := by
  unfold Z1_readWord_b52 at h
  refine Ex_call 3 (fun _ => rfl) (T_length3 (D + 3) (LYC t) s rfl) rfl rfl ?_
  refine Ex_br 1 (55 ≤ x3) (fun _ => rfl) (fun hc3 => ?_) (fun hc3 => ?_)
  · rw [if_pos hc3] at h
    obtain rfl := Option.some.inj h
    exact ke0 _ rfl _ _ _ _
  · rw [if_neg hc3] at h
    obtain ⟨hg, h⟩ := m_ite h
    refine Ex_call 3 (fun _ => rfl) (T_charAt3 (D + 1) (LYC t) x3 s rfl hg) rfl rfl ?_
    refine Ex_br 2 ((mChr 3 x3 s) = 32) (fun _ => rfl) (fun hc4 => ?_) (fun hc4 => ?_)
    · rw [if_pos hc4] at h
      obtain ⟨r5, hr, h⟩ := m_bind h
      refine Ex_call 4 (fun _ => rfl) (Z_T_X1_isSpelled D t x2 x3 s r5 hr) rfl rfl ?_
      refine Ex_brZ 1 (r5) (fun _ => rfl) (fun hc => ?_) (fun hc => ?_)
      · rw [if_neg (m_nt hc)] at h
        exact Z_T_X1_readWord_j86_52 D t w z x1 x3 s _ _ h kc ke0
      · rw [if_pos hc] at h
        refine Ex_sti 3 (fun _ => rfl) ?_
        exact Z_T_X1_readWord_j86_52 D t w z x1 x3 (sI s 25 5 x1) _ _ h kc ke0
    · rw [if_neg hc4] at h
      exact Z_T_X1_readWord_j93_52 D t w z x1 x2 x3 s  _ h kc ke0
theorem Z_T_X1_readWord_l52 (D : Nat) (t : mTX) (w : Option Value) (z : mSG) (v : Int32 × Int32 × Int32 × mSG) (e : mSG) (h : Z1_readWord_l52 t v = some e) (ke0 : ∀ y : mSG, e = y → ∀ (u0 u1 u2 u3 : Option Value), Ex (Runs (D + 5)) cd_X1_readWord (w, z, LYC t) 99 [u0, u1, u2, u3] [] y (LYC t)) : Ex (Runs (D + 5)) cd_X1_readWord (w, z, LYC t) 52 [some (.ref 25), some (.int v.1), some (.int v.2.1), some (.int v.2.2.1)] [] v.2.2.2 (LYC t) :=
  m_iter (P := fun v : Int32 × Int32 × Int32 × mSG => Ex (Runs (D + 5)) cd_X1_readWord (w, z, LYC t) 52 [some (.ref 25), some (.int v.1), some (.int v.2.1), some (.int v.2.2.1)] [] v.2.2.2 (LYC t)) (Q := fun e : mSG => (∀ y : mSG, e = y → ∀ (u0 u1 u2 u3 : Option Value), Ex (Runs (D + 5)) cd_X1_readWord (w, z, LYC t) 99 [u0, u1, u2, u3] [] y (LYC t))) (fun x o hx kc kq  => Z_T_X1_readWord_b52 D t w z  x.1 x.2.1 x.2.2.1 x.2.2.2  o hx kc (fun e he => kq _ he e rfl)) mFU v e h ke0
set_option maxRecDepth 20000 in
theorem Z_T_X1_readWord_j39 (D : Nat) (t : mTX) (s : mSG) (u1 u2 u3 : Option Value) (o : mSG) (h : Z1_readWord_j39 t s = some o)  : Ex (Runs (D + 5)) cd_X1_readWord (none, o, LYC t) 39 [some (.ref 25), u1, u2, u3] [] s (LYC t) := by
  unfold Z1_readWord_j39 at h
  refine Ex_sti 9 (fun _ => rfl) ?_
  obtain ⟨e52, hl, h⟩ := m_bind h
  refine Z_T_X1_readWord_l52 D t none o   (256, 0, 0, sI s 25 5 1) _ hl (fun y0 hy0 => ?_) 
  · obtain ⟨e52, rfl⟩ : ∃ q, q = y0 := ⟨_, rfl⟩
    subst hy0
    intro vu0 vu1 vu2 vu3
    obtain rfl := Option.some.inj h
    exact Ex_ret 1 (fun _ => rfl) rfl
set_option maxRecDepth 20000 in
theorem Z_T_X1_readWord (D : Nat) (t : mTX) (s : mSG) (o : mSG) (h : Z1_readWord t s = some o) : Runs (D + 6) 22 [.ref 25] s (LYC t) (none, o, LYC t) := by
  refine Runs_mk (d := D + 5) rfl ?_
  show Ex (Runs (D + 5)) cd_X1_readWord (none, o, LYC t) 0 [some (.ref 25), none, none, none] [] s (LYC t)
  unfold Z1_readWord at h
  obtain ⟨e0, hl, h⟩ := m_bind h
  refine Z_T_X1_readWord_l0 D t none o   s _ hl (fun y0 hy0 => ?_) _ _ _
  · obtain ⟨e0, rfl⟩ : ∃ q, q = y0 := ⟨_, rfl⟩
    subst hy0
    intro vu1 vu2 vu3
    exact Z_T_X1_readWord_j39 D t  e0 _ _ _ _ h
set_option maxRecDepth 20000 in
theorem Z_T_X1_advance_j47_8 (D : Nat) (t : mTX) (w : Option Value) (z : mSG) (s : mSG) (u1 : Option Value) (o : mSG ⊕ mSG) (h : Z1_advance_j47_8 t s = some o) (kc : ∀ y : mSG, o = .inl y → ∀ (u1 : Option Value), Ex (Runs (D + 6)) cd_X1_advance (w, z, LYC t) 8 [some (.ref 25), u1] [] y (LYC t)) (ke0 : ∀ y : mSG, o = .inr y → ∀ (u1 : Option Value), Ex (Runs (D + 6)) cd_X1_advance (w, z, LYC t) 60 [some (.ref 25), u1] [] y (LYC t)) : Ex (Runs (D + 6)) cd_X1_advance (w, z, LYC t) 47 [some (.ref 25), u1] [] s (LYC t) := by
  unfold Z1_advance_j47_8 at h
  refine Ex_sti 7 (fun _ => rfl) ?_
  obtain rfl := Option.some.inj h
  exact kc _ rfl _
set_option maxRecDepth 20000 in
theorem Z_T_X1_advance_b8 (D : Nat) (t : mTX) (w : Option Value) (z : mSG) (s : mSG) (u1 : Option Value) (o : mSG ⊕ mSG) (h : Z1_advance_b8 t s = some o) (kc : ∀ y : mSG, o = .inl y → ∀ (u1 : Option Value), Ex (Runs (D + 6)) cd_X1_advance (w, z, LYC t) 8 [some (.ref 25), u1] [] y (LYC t)) (ke0 : ∀ y : mSG, o = .inr y → ∀ (u1 : Option Value), Ex (Runs (D + 6)) cd_X1_advance (w, z, LYC t) 60 [some (.ref 25), u1] [] y (LYC t)) : Ex (Runs (D + 6)) cd_X1_advance (w, z, LYC t) 8 [some (.ref 25), u1] [] s (LYC t) := by
  unfold Z1_advance_b8 at h
  refine Ex_br 5 ((s.1 25 4) ≤ (s.1 25 7)) (fun _ => rfl) (fun hc1 => ?_) (fun hc1 => ?_)
  · rw [if_pos hc1] at h
    obtain rfl := Option.some.inj h
    exact ke0 _ rfl _
  · rw [if_neg hc1] at h
    obtain ⟨a2, hq, h⟩ := m_bind h
    refine Ex_getQ 2 (fun _ => rfl) hq ?_
    obtain ⟨hg, h⟩ := m_ite h
    refine Ex_ifg 3 (fun _ => rfl) hg.1 hg.2 ?_
    refine Ex_br 2 ((s.1 a2 (s.1 25 7).toNatClampNeg) = 32) (fun _ => rfl) (fun hc3 => ?_) (fun hc3 => ?_)
    · rw [if_pos hc3] at h
      exact Z_T_X1_advance_j47_8 D t w z  s _ _ h kc ke0
    · rw [if_neg hc3] at h
      obtain ⟨a4, hq, h⟩ := m_bind h
      refine Ex_getQ 2 (fun _ => rfl) hq ?_
      obtain ⟨hg, h⟩ := m_ite h
      refine Ex_ifg 3 (fun _ => rfl) hg.1 hg.2 ?_
      refine Ex_br 2 ((s.1 a4 (s.1 25 7).toNatClampNeg) = 10) (fun _ => rfl) (fun hc5 => ?_) (fun hc5 => ?_)
      · rw [if_pos hc5] at h
        exact Z_T_X1_advance_j47_8 D t w z  s _ _ h kc ke0
      · rw [if_neg hc5] at h
        obtain rfl := Option.some.inj h
        exact ke0 _ rfl _
theorem Z_T_X1_advance_l8 (D : Nat) (t : mTX) (w : Option Value) (z : mSG) (v : mSG) (e : mSG) (h : Z1_advance_l8 t v = some e) (ke0 : ∀ y : mSG, e = y → ∀ (u1 : Option Value), Ex (Runs (D + 6)) cd_X1_advance (w, z, LYC t) 60 [some (.ref 25), u1] [] y (LYC t)) : ∀ (u1 : Option Value), Ex (Runs (D + 6)) cd_X1_advance (w, z, LYC t) 8 [some (.ref 25), u1] [] v (LYC t) :=
  m_iter (P := fun v : mSG => ∀ (u1 : Option Value), Ex (Runs (D + 6)) cd_X1_advance (w, z, LYC t) 8 [some (.ref 25), u1] [] v (LYC t)) (Q := fun e : mSG => (∀ y : mSG, e = y → ∀ (u1 : Option Value), Ex (Runs (D + 6)) cd_X1_advance (w, z, LYC t) 60 [some (.ref 25), u1] [] y (LYC t))) (fun x o hx kc kq u1 => Z_T_X1_advance_b8 D t w z   x u1 o hx kc (fun e he => kq _ he e rfl)) mFU v e h ke0
set_option maxRecDepth 20000 in
theorem Z_T_X1_advance_j60 (D : Nat) (t : mTX) (s : mSG) (u1 : Option Value) (o : mSG) (h : Z1_advance_j60 t s = some o)  : Ex (Runs (D + 6)) cd_X1_advance (none, o, LYC t) 60 [some (.ref 25), u1] [] s (LYC t) := by
  unfold Z1_advance_j60 at h
  refine Ex_br 9 ((s.1 25 7) < (s.1 25 4)) (fun _ => rfl) (fun hc6 => ?_) (fun hc6 => ?_)
  · rw [if_pos hc6] at h
    obtain ⟨a7, hq, h⟩ := m_bind h
    refine Ex_getQ 2 (fun _ => rfl) hq ?_
    obtain ⟨hg, h⟩ := m_ite h
    refine Ex_ifg 3 (fun _ => rfl) hg.1 hg.2 ?_
    refine Ex_call 3 (fun _ => rfl) (Z_T_X1_isLetter (D + 5) t ((sI s 25 8 (s.1 25 7)).1 a7 (s.1 25 7).toNatClampNeg) (sI s 25 8 (s.1 25 7)) _ rfl) rfl rfl ?_
    refine Ex_brZ 1 (X1_isLetter ((sI s 25 8 (s.1 25 7)).1 a7 (s.1 25 7).toNatClampNeg)) (fun _ => rfl) (fun hc => ?_) (fun hc => ?_)
    · rw [if_neg (m_nt hc)] at h
      refine Ex_call 2 (fun _ => rfl) (Z_T_X1_isDigit (D + 5) t ((sI s 25 8 (s.1 25 7)).1 a7 (s.1 25 7).toNatClampNeg) (sI s 25 8 (s.1 25 7)) _ rfl) rfl rfl ?_
      refine Ex_brZ 1 (X1_isDigit ((sI s 25 8 (s.1 25 7)).1 a7 (s.1 25 7).toNatClampNeg)) (fun _ => rfl) (fun hc => ?_) (fun hc => ?_)
      · rw [if_neg (m_nt hc)] at h
        refine Ex_call 9 (fun _ => rfl) (Z_T_X1_isSign (D + 5) t ((sI s 25 8 (s.1 25 7)).1 a7 (s.1 25 7).toNatClampNeg) (sI (sI s 25 8 (s.1 25 7)) 25 8 ((s.1 25 7) + 1)) _ rfl) rfl rfl ?_
        refine Ex_brZ 1 (X1_isSign ((sI s 25 8 (s.1 25 7)).1 a7 (s.1 25 7).toNatClampNeg)) (fun _ => rfl) (fun hc => ?_) (fun hc => ?_)
        · rw [if_neg (m_nt hc)] at h
          obtain rfl := Option.some.inj h
          exact Ex_ret 3 (fun _ => rfl) rfl
        · rw [if_pos hc] at h
          obtain rfl := Option.some.inj h
          exact Ex_ret 4 (fun _ => rfl) rfl
      · rw [if_pos hc] at h
        obtain ⟨r8, hr, h⟩ := m_bind h
        refine Ex_call 2 (fun _ => rfl) (Z_T_X1_readNumber (D + 4) t  (sI s 25 8 (s.1 25 7)) r8 hr) rfl rfl ?_
        obtain rfl := Option.some.inj h
        exact Ex_ret 2 (fun _ => rfl) rfl
    · rw [if_pos hc] at h
      obtain ⟨r9, hr, h⟩ := m_bind h
      refine Ex_call 2 (fun _ => rfl) (Z_T_X1_readWord D t  (sI s 25 8 (s.1 25 7)) r9 hr) rfl rfl ?_
      obtain rfl := Option.some.inj h
      exact Ex_ret 2 (fun _ => rfl) rfl
  · rw [if_neg hc6] at h
    obtain rfl := Option.some.inj h
    exact Ex_ret 4 (fun _ => rfl) rfl
set_option maxRecDepth 20000 in
theorem Z_T_X1_advance (D : Nat) (t : mTX) (s : mSG) (o : mSG) (h : Z1_advance t s = some o) : Runs (D + 7) 21 [.ref 25] s (LYC t) (none, o, LYC t) := by
  refine Runs_mk (d := D + 6) rfl ?_
  show Ex (Runs (D + 6)) cd_X1_advance (none, o, LYC t) 0 [some (.ref 25), none] [] s (LYC t)
  unfold Z1_advance at h
  refine Ex_sti 4 (fun _ => rfl) ?_
  obtain ⟨e8, hl, h⟩ := m_bind h
  refine Z_T_X1_advance_l8 D t none o   (sI s 25 7 (s.1 25 8)) _ hl (fun y0 hy0 => ?_) _
  · obtain ⟨e8, rfl⟩ : ∃ q, q = y0 := ⟨_, rfl⟩
    subst hy0
    intro vu1
    exact Z_T_X1_advance_j60 D t  e8 _ _ h
set_option maxRecDepth 20000 in
theorem Z_T_X1_takes (D : Nat) (t : mTX) (x1 : Int32) (s : mSG) (o : Bool × mSG) (h : Z1_takes t x1 s = some o) : Runs (D + 8) 19 [.ref 25, .int x1] s (LYC t) (some (.int (b2i o.1)), o.2, LYC t) := by
  refine Runs_mk (d := D + 7) rfl ?_
  show Ex (Runs (D + 7)) cd_X1_takes (some (.int (b2i o.1)), o.2, LYC t) 0 [some (.ref 25), some (.int x1)] [] s (LYC t)
  unfold Z1_takes at h
  refine Ex_br 4 ((s.1 25 5) = x1) (fun _ => rfl) (fun hc1 => ?_) (fun hc1 => ?_)
  · rw [if_pos hc1] at h
    obtain ⟨r2, hr, h⟩ := m_bind h
    refine Ex_call 2 (fun _ => rfl) (Z_T_X1_advance D t  s r2 hr) rfl rfl ?_
    obtain rfl := Option.some.inj h
    exact Ex_retZ 2 (fun _ => rfl) (Or.inr rfl) rfl
  · rw [if_neg hc1] at h
    obtain rfl := Option.some.inj h
    exact Ex_retZ 2 (fun _ => rfl) (Or.inl rfl) rfl
set_option maxRecDepth 20000 in
theorem Z_T_X1_emit (D : Nat) (t : mTX) (x1 : Int32) (s : mSG) (o : mSG) (h : X1_emit x1 s = some o) : Runs (D + 1) 20 [.ref 25, .int x1] s (LYC t) (none, o, LYC t) := by
  refine Runs_mk (d := D) rfl ?_
  show Ex (Runs (D)) cd_X1_emit (none, o, LYC t) 0 [some (.ref 25), some (.int x1)] [] s (LYC t)
  unfold X1_emit at h
  refine Ex_br 4 (160 ≤ (s.1 25 2)) (fun _ => rfl) (fun hc1 => ?_) (fun hc1 => ?_)
  · rw [if_pos hc1] at h
    obtain rfl := Option.some.inj h
    exact Ex_ret 1 (fun _ => rfl) rfl
  · rw [if_neg hc1] at h
    obtain ⟨hg2, h⟩ := m_ite h
    refine Ex_gd 6 (fun _ => rfl) hg2 ?_
    obtain rfl := Option.some.inj h
    exact Ex_ret 7 (fun _ => rfl) rfl
set_option maxRecDepth 20000 in
theorem Z_T_X1_opens (D : Nat) (t : mTX) (x1 : Int32) (s : mSG) (o : Bool × mSG) (h : Z1_opens t x1 s = some o) : Runs (D + 8) 18 [.ref 25, .int x1] s (LYC t) (some (.int (b2i o.1)), o.2, LYC t) := by
  refine Runs_mk (d := D + 7) rfl ?_
  show Ex (Runs (D + 7)) cd_X1_opens (some (.int (b2i o.1)), o.2, LYC t) 0 [some (.ref 25), some (.int x1)] [] s (LYC t)
  unfold Z1_opens at h
  refine Ex_br 3 (x1 < 5) (fun _ => rfl) (fun hc1 => ?_) (fun hc1 => ?_)
  · rw [if_pos hc1] at h
    obtain ⟨r2, hr, h⟩ := m_bind h
    refine Ex_call 2 (fun _ => rfl) (Z_T_X1_advance D t  s r2 hr) rfl rfl ?_
    obtain rfl := Option.some.inj h
    exact Ex_retZ 2 (fun _ => rfl) (Or.inr rfl) rfl
  · rw [if_neg hc1] at h
    obtain rfl := Option.some.inj h
    exact Ex_retZ 2 (fun _ => rfl) (Or.inl rfl) rfl
set_option maxRecDepth 20000 in
theorem Z_T_X1_readsBoth_b12 (D : Nat) (t : mTX) (w : Option Value) (z : mSG) (n : Nat) (rc : Nat → Int32 → mSG → Option (Bool × mSG)) (hrc : ∀ i q s b, rc i q s = some b → Runs (D + n + 8) (mScc i) [.ref 25, .int q] s (LYC t) (some (.int (b2i b.1)), b.2, LYC t)) (x1 : Int32) (x2 : Int32) (s : mSG) (o : (Int32 × mSG) ⊕ (mSG ⊕ mSG)) (h : Z1_readsBoth_b12 t rc x1 x2 s = some o) (kc : ∀ y : Int32 × mSG, o = .inl y → Ex (Runs (D + n + 8)) cd_X1_readsBoth (w, z, LYC t) 12 [some (.ref 25), some (.int x1), some (.int y.1)] [] y.2 (LYC t)) (ke0 : ∀ y : mSG, o = .inr (.inl y) → ∀ (u0 u1 u2 : Option Value), Ex (Runs (D + n + 8)) cd_X1_readsBoth (w, z, LYC t) 37 [u0, u1, u2] [] y (LYC t)) (ke1 : ∀ y : mSG, o = .inr (.inr y) → ∀ (u0 u1 u2 : Option Value), Ex (Runs (D + n + 8)) cd_X1_readsBoth (w, z, LYC t) 51 [u0, u1, u2] [] y (LYC t)) : Ex (Runs (D + n + 8)) cd_X1_readsBoth (w, z, LYC t) 12 [some (.ref 25), some (.int x1), some (.int x2)] [] s (LYC t) := by
  unfold Z1_readsBoth_b12 at h
  refine Ex_br 3 (160 ≤ x2) (fun _ => rfl) (fun hc2 => ?_) (fun hc2 => ?_)
  · rw [if_pos hc2] at h
    obtain rfl := Option.some.inj h
    exact ke1 _ rfl _ _ _
  · rw [if_neg hc2] at h
    obtain ⟨r3, hr, h⟩ := m_bind h
    refine Ex_call 3 (fun _ => rfl) (Z_T_X1_takes (D + n) t 266 s r3 hr) rfl rfl ?_
    refine Ex_brZ 1 (r3.1) (fun _ => rfl) (fun hc => ?_) (fun hc => ?_)
    · rw [if_neg (m_nt hc)] at h
      obtain rfl := Option.some.inj h
      exact ke1 _ rfl _ _ _
    · rw [if_pos hc] at h
      obtain ⟨r4, hr, h⟩ := m_bind h
      refine Ex_call 3 (fun _ => rfl) (hrc _ _ _ _ hr) rfl rfl ?_
      refine Ex_brZ 1 (r4.1) (fun _ => rfl) (fun hc => ?_) (fun hc => ?_)
      · rw [if_neg (m_nt hc)] at h
        obtain rfl := Option.some.inj h
        exact ke0 _ rfl _ _ _
      · rw [if_pos hc] at h
        obtain ⟨r5, hr, h⟩ := m_bind h
        refine Ex_call 3 (fun _ => rfl) (Z_T_X1_emit (D + n + 7) t (-12) r4.2 r5 hr) rfl rfl ?_
        refine Ex_sti 2 (fun _ => rfl) ?_
        obtain rfl := Option.some.inj h
        exact kc _ rfl
theorem Z_T_X1_readsBoth_l12 (D : Nat) (t : mTX) (w : Option Value) (z : mSG) (n : Nat) (rc : Nat → Int32 → mSG → Option (Bool × mSG)) (hrc : ∀ i q s b, rc i q s = some b → Runs (D + n + 8) (mScc i) [.ref 25, .int q] s (LYC t) (some (.int (b2i b.1)), b.2, LYC t)) (x1 : Int32) (v : Int32 × mSG) (e : (mSG ⊕ mSG)) (h : Z1_readsBoth_l12 t rc x1 v = some e) (ke0 : ∀ y : mSG, e = (.inl y) → ∀ (u0 u1 u2 : Option Value), Ex (Runs (D + n + 8)) cd_X1_readsBoth (w, z, LYC t) 37 [u0, u1, u2] [] y (LYC t)) (ke1 : ∀ y : mSG, e = (.inr y) → ∀ (u0 u1 u2 : Option Value), Ex (Runs (D + n + 8)) cd_X1_readsBoth (w, z, LYC t) 51 [u0, u1, u2] [] y (LYC t)) : Ex (Runs (D + n + 8)) cd_X1_readsBoth (w, z, LYC t) 12 [some (.ref 25), some (.int x1), some (.int v.1)] [] v.2 (LYC t) :=
  m_iter (P := fun v : Int32 × mSG => Ex (Runs (D + n + 8)) cd_X1_readsBoth (w, z, LYC t) 12 [some (.ref 25), some (.int x1), some (.int v.1)] [] v.2 (LYC t)) (Q := fun e : (mSG ⊕ mSG) => (∀ y : mSG, e = (.inl y) → ∀ (u0 u1 u2 : Option Value), Ex (Runs (D + n + 8)) cd_X1_readsBoth (w, z, LYC t) 37 [u0, u1, u2] [] y (LYC t)) ∧ (∀ y : mSG, e = (.inr y) → ∀ (u0 u1 u2 : Option Value), Ex (Runs (D + n + 8)) cd_X1_readsBoth (w, z, LYC t) 51 [u0, u1, u2] [] y (LYC t))) (fun x o hx kc kq  => Z_T_X1_readsBoth_b12 D t w z n rc hrc x1 x.1 x.2  o hx kc (fun e he => (kq _ (by rw [he])).1 e rfl) (fun e he => (kq _ (by rw [he])).2 e rfl)) mFU v e h ⟨ke0, ke1⟩
set_option maxRecDepth 20000 in
theorem Z_T_X1_readsBoth_B (D : Nat) (t : mTX) (n : Nat) (rc : Nat → Int32 → mSG → Option (Bool × mSG)) (hrc : ∀ i q s b, rc i q s = some b → Runs (D + n + 8) (mScc i) [.ref 25, .int q] s (LYC t) (some (.int (b2i b.1)), b.2, LYC t)) (x1 : Int32) (s : mSG) (o : Bool × mSG) (h : Z1_readsBoth_B t rc x1 s = some o) : Runs (D + n + 9) 13 [.ref 25, .int x1] s (LYC t) (some (.int (b2i o.1)), o.2, LYC t) := by
  refine Runs_mk (d := D + n + 8) rfl ?_
  show Ex (Runs (D + n + 8)) cd_X1_readsBoth (some (.int (b2i o.1)), o.2, LYC t) 0 [some (.ref 25), some (.int x1), none] [] s (LYC t)
  unfold Z1_readsBoth_B at h
  obtain ⟨r1, hr, h⟩ := m_bind h
  refine Ex_call 3 (fun _ => rfl) (hrc _ _ _ _ hr) rfl rfl ?_
  refine Ex_brZ 1 (r1.1) (fun _ => rfl) (fun hc => ?_) (fun hc => ?_)
  · rw [if_neg (m_nt hc)] at h
    obtain rfl := Option.some.inj h
    exact Ex_retZ 2 (fun _ => rfl) (Or.inl rfl) rfl
  · rw [if_pos hc] at h
    refine Ex_sti 2 (fun _ => rfl) ?_
    obtain ⟨e12, hl, h⟩ := m_bind h
    refine Z_T_X1_readsBoth_l12 D t (some (.int (b2i o.1))) o.2 n rc hrc x1  (0, r1.2) _ hl (fun y0 hy0 => ?_) (fun y1 hy1 => ?_) 
    · obtain ⟨e12_0, rfl⟩ : ∃ q, q = y0 := ⟨_, rfl⟩
      subst hy0
      simp only [Sum.elim_inl, Sum.elim_inr] at h
      intro vu0 vu1 vu2
      obtain rfl := Option.some.inj h
      exact Ex_retZ 2 (fun _ => rfl) (Or.inl rfl) rfl
    · obtain ⟨e12_1, rfl⟩ : ∃ q, q = y1 := ⟨_, rfl⟩
      subst hy1
      simp only [Sum.elim_inl, Sum.elim_inr] at h
      intro vu0 vu1 vu2
      obtain rfl := Option.some.inj h
      exact Ex_retZ 2 (fun _ => rfl) (Or.inr rfl) rfl
set_option maxRecDepth 20000 in
theorem Z_T_X1_readsNot_j95 (D : Nat) (t : mTX) (n : Nat) (rc : Nat → Int32 → mSG → Option (Bool × mSG)) (hrc : ∀ i q s b, rc i q s = some b → Runs (D + n + 8) (mScc i) [.ref 25, .int q] s (LYC t) (some (.int (b2i b.1)), b.2, LYC t)) (p1 : Int32) (s : mSG) (u0 u1 u2 : Option Value) (o : Bool × mSG) (h : Z1_readsNot_j95 t rc p1 s = some o)  : Ex (Runs (D + n + 8)) cd_X1_readsNot (some (.int (b2i o.1)), o.2, LYC t) 95 [u0, u1, u2] [.int p1, .ref 25] s (LYC t) := by
  unfold Z1_readsNot_j95 at h
  obtain ⟨r11, hr, h⟩ := m_bind h
  refine Ex_call 1 (fun _ => rfl) (Z_T_X1_emit (D + n + 7) t p1 s r11 hr) rfl rfl ?_
  obtain rfl := Option.some.inj h
  exact Ex_retZ 2 (fun _ => rfl) (Or.inr rfl) rfl
set_option maxRecDepth 20000 in
theorem Z_T_X1_readsNot_j67 (D : Nat) (t : mTX) (n : Nat) (rc : Nat → Int32 → mSG → Option (Bool × mSG)) (hrc : ∀ i q s b, rc i q s = some b → Runs (D + n + 8) (mScc i) [.ref 25, .int q] s (LYC t) (some (.int (b2i b.1)), b.2, LYC t)) (x1 : Int32) (x2 : Int32) (s : mSG) (o : Bool × mSG) (h : Z1_readsNot_j67 t rc x1 x2 s = some o)  : Ex (Runs (D + n + 8)) cd_X1_readsNot (some (.int (b2i o.1)), o.2, LYC t) 67 [some (.ref 25), some (.int x1), some (.int x2)] [] s (LYC t) := by
  unfold Z1_readsNot_j67 at h
  obtain ⟨r8, hr, h⟩ := m_bind h
  refine Ex_call 2 (fun _ => rfl) (Z_T_X1_advance (D + n + 1) t  s r8 hr) rfl rfl ?_
  obtain ⟨r9, hr, h⟩ := m_bind h
  refine Ex_call 3 (fun _ => rfl) (hrc _ _ _ _ hr) rfl rfl ?_
  refine Ex_brZ 1 (r9.1) (fun _ => rfl) (fun hc => ?_) (fun hc => ?_)
  · rw [if_neg (m_nt hc)] at h
    obtain rfl := Option.some.inj h
    exact Ex_retZ 2 (fun _ => rfl) (Or.inl rfl) rfl
  · rw [if_pos hc] at h
    refine Ex_br 4 (x2 = 60) (fun _ => rfl) (fun hc10 => ?_) (fun hc10 => ?_)
    · rw [if_pos hc10] at h
      refine Ex_sti 2 (fun _ => rfl) ?_
      exact Z_T_X1_readsNot_j95 D t n rc hrc (-14) r9.2 _ _ _ _ h
    · rw [if_neg hc10] at h
      refine Ex_sti 1 (fun _ => rfl) ?_
      exact Z_T_X1_readsNot_j95 D t n rc hrc (-15) r9.2 _ _ _ _ h
set_option maxRecDepth 20000 in
theorem Z_T_X1_readsNot_B (D : Nat) (t : mTX) (n : Nat) (rc : Nat → Int32 → mSG → Option (Bool × mSG)) (hrc : ∀ i q s b, rc i q s = some b → Runs (D + n + 8) (mScc i) [.ref 25, .int q] s (LYC t) (some (.int (b2i b.1)), b.2, LYC t)) (x1 : Int32) (s : mSG) (o : Bool × mSG) (h : Z1_readsNot_B t rc x1 s = some o) : Runs (D + n + 9) 14 [.ref 25, .int x1] s (LYC t) (some (.int (b2i o.1)), o.2, LYC t) := by
  refine Runs_mk (d := D + n + 8) rfl ?_
  show Ex (Runs (D + n + 8)) cd_X1_readsNot (some (.int (b2i o.1)), o.2, LYC t) 0 [some (.ref 25), some (.int x1), none] [] s (LYC t)
  unfold Z1_readsNot_B at h
  refine Ex_br 4 ((s.1 25 5) = 267) (fun _ => rfl) (fun hc1 => ?_) (fun hc1 => ?_)
  · rw [if_pos hc1] at h
    obtain ⟨r2, hr, h⟩ := m_bind h
    refine Ex_call 3 (fun _ => rfl) (Z_T_X1_opens (D + n) t x1 s r2 hr) rfl rfl ?_
    refine Ex_brZ 1 (r2.1) (fun _ => rfl) (fun hc => ?_) (fun hc => ?_)
    · rw [if_neg (m_nt hc)] at h
      obtain rfl := Option.some.inj h
      exact Ex_retZ 2 (fun _ => rfl) (Or.inl rfl) rfl
    · rw [if_pos hc] at h
      obtain ⟨r3, hr, h⟩ := m_bind h
      refine Ex_call 5 (fun _ => rfl) (hrc _ _ _ _ hr) rfl rfl ?_
      refine Ex_brZ 1 (r3.1) (fun _ => rfl) (fun hc => ?_) (fun hc => ?_)
      · rw [if_neg (m_nt hc)] at h
        obtain rfl := Option.some.inj h
        exact Ex_retZ 2 (fun _ => rfl) (Or.inl rfl) rfl
      · rw [if_pos hc] at h
        obtain ⟨r4, hr, h⟩ := m_bind h
        refine Ex_call 3 (fun _ => rfl) (Z_T_X1_emit (D + n + 7) t (-13) r3.2 r4 hr) rfl rfl ?_
        obtain rfl := Option.some.inj h
        exact Ex_retZ 2 (fun _ => rfl) (Or.inr rfl) rfl
  · rw [if_neg hc1] at h
    obtain ⟨r5, hr, h⟩ := m_bind h
    refine Ex_call 3 (fun _ => rfl) (hrc _ _ _ _ hr) rfl rfl ?_
    refine Ex_brZ 1 (r5.1) (fun _ => rfl) (fun hc => ?_) (fun hc => ?_)
    · rw [if_neg (m_nt hc)] at h
      obtain rfl := Option.some.inj h
      exact Ex_retZ 2 (fun _ => rfl) (Or.inl rfl) rfl
    · rw [if_pos hc] at h
      refine Ex_br 6 ((r5.2.1 25 5) = 60) (fun _ => rfl) (fun hc6 => ?_) (fun hc6 => ?_)
      · rw [if_pos hc6] at h
        exact Z_T_X1_readsNot_j67 D t n rc hrc x1 (r5.2.1 25 5) r5.2  _ h
      · rw [if_neg hc6] at h
        refine Ex_br 3 ((r5.2.1 25 5) = 61) (fun _ => rfl) (fun hc7 => ?_) (fun hc7 => ?_)
        · rw [if_pos hc7] at h
          exact Z_T_X1_readsNot_j67 D t n rc hrc x1 (r5.2.1 25 5) r5.2  _ h
        · rw [if_neg hc7] at h
          obtain rfl := Option.some.inj h
          exact Ex_retZ 2 (fun _ => rfl) (Or.inr rfl) rfl
set_option maxRecDepth 20000 in
theorem Z_T_X1_readsSum_j70_12 (D : Nat) (t : mTX) (w : Option Value) (z : mSG) (n : Nat) (rc : Nat → Int32 → mSG → Option (Bool × mSG)) (hrc : ∀ i q s b, rc i q s = some b → Runs (D + n + 8) (mScc i) [.ref 25, .int q] s (LYC t) (some (.int (b2i b.1)), b.2, LYC t)) (x1 : Int32) (x2 : Int32) (p1 : Int32) (s : mSG) (u3 : Option Value) (o : (Int32 × mSG) ⊕ (mSG ⊕ mSG)) (h : Z1_readsSum_j70_12 t rc x1 x2 p1 s = some o) (kc : ∀ y : Int32 × mSG, o = .inl y → ∀ (u3 : Option Value), Ex (Runs (D + n + 8)) cd_X1_readsSum (w, z, LYC t) 12 [some (.ref 25), some (.int x1), some (.int y.1), u3] [] y.2 (LYC t)) (ke0 : ∀ y : mSG, o = .inr (.inl y) → ∀ (u0 u1 u2 u3 : Option Value), Ex (Runs (D + n + 8)) cd_X1_readsSum (w, z, LYC t) 54 [u0, u1, u2, u3] [] y (LYC t)) (ke1 : ∀ y : mSG, o = .inr (.inr y) → ∀ (u0 u1 u2 u3 : Option Value), Ex (Runs (D + n + 8)) cd_X1_readsSum (w, z, LYC t) 79 [u0, u1, u2, u3] [] y (LYC t)) : Ex (Runs (D + n + 8)) cd_X1_readsSum (w, z, LYC t) 70 [some (.ref 25), some (.int x1), some (.int x2), u3] [.int p1, .ref 25] s (LYC t) := by
  unfold Z1_readsSum_j70_12 at h
  obtain ⟨r8, hr, h⟩ := m_bind h
  refine Ex_call 1 (fun _ => rfl) (Z_T_X1_emit (D + n + 7) t p1 s r8 hr) rfl rfl ?_
  refine Ex_sti 2 (fun _ => rfl) ?_
  obtain rfl := Option.some.inj h
  exact kc _ rfl _
set_option maxRecDepth 20000 in
theorem Z_T_X1_readsSum_j37_12 (D : Nat) (t : mTX) (w : Option Value) (z : mSG) (n : Nat) (rc : Nat → Int32 → mSG → Option (Bool × mSG)) (hrc : ∀ i q s b, rc i q s = some b → Runs (D + n + 8) (mScc i) [.ref 25, .int q] s (LYC t) (some (.int (b2i b.1)), b.2, LYC t)) (x1 : Int32) (x2 : Int32) (s : mSG) (u3 : Option Value) (o : (Int32 × mSG) ⊕ (mSG ⊕ mSG)) (h : Z1_readsSum_j37_12 t rc x1 x2 s = some o) (kc : ∀ y : Int32 × mSG, o = .inl y → ∀ (u3 : Option Value), Ex (Runs (D + n + 8)) cd_X1_readsSum (w, z, LYC t) 12 [some (.ref 25), some (.int x1), some (.int y.1), u3] [] y.2 (LYC t)) (ke0 : ∀ y : mSG, o = .inr (.inl y) → ∀ (u0 u1 u2 u3 : Option Value), Ex (Runs (D + n + 8)) cd_X1_readsSum (w, z, LYC t) 54 [u0, u1, u2, u3] [] y (LYC t)) (ke1 : ∀ y : mSG, o = .inr (.inr y) → ∀ (u0 u1 u2 u3 : Option Value), Ex (Runs (D + n + 8)) cd_X1_readsSum (w, z, LYC t) 79 [u0, u1, u2, u3] [] y (LYC t)) : Ex (Runs (D + n + 8)) cd_X1_readsSum (w, z, LYC t) 37 [some (.ref 25), some (.int x1), some (.int x2), u3] [] s (LYC t) := by
  unfold Z1_readsSum_j37_12 at h
  obtain ⟨r5, hr, h⟩ := m_bind h
  refine Ex_call 5 (fun _ => rfl) (Z_T_X1_advance (D + n + 1) t  s r5 hr) rfl rfl ?_
  obtain ⟨r6, hr, h⟩ := m_bind h
  refine Ex_call 3 (fun _ => rfl) (hrc _ _ _ _ hr) rfl rfl ?_
  refine Ex_brZ 1 (r6.1) (fun _ => rfl) (fun hc => ?_) (fun hc => ?_)
  · rw [if_neg (m_nt hc)] at h
    obtain rfl := Option.some.inj h
    exact ke0 _ rfl _ _ _ _
  · rw [if_pos hc] at h
    refine Ex_br 4 ((s.1 25 5) = 43) (fun _ => rfl) (fun hc7 => ?_) (fun hc7 => ?_)
    · rw [if_pos hc7] at h
      refine Ex_sti 2 (fun _ => rfl) ?_
      exact Z_T_X1_readsSum_j70_12 D t w z n rc hrc x1 x2 (-16) r6.2 _ _ h kc ke0 ke1
    · rw [if_neg hc7] at h
      refine Ex_sti 1 (fun _ => rfl) ?_
      exact Z_T_X1_readsSum_j70_12 D t w z n rc hrc x1 x2 (-17) r6.2 _ _ h kc ke0 ke1
set_option maxRecDepth 20000 in
theorem Z_T_X1_readsSum_b12 (D : Nat) (t : mTX) (w : Option Value) (z : mSG) (n : Nat) (rc : Nat → Int32 → mSG → Option (Bool × mSG)) (hrc : ∀ i q s b, rc i q s = some b → Runs (D + n + 8) (mScc i) [.ref 25, .int q] s (LYC t) (some (.int (b2i b.1)), b.2, LYC t)) (x1 : Int32) (x2 : Int32) (s : mSG) (u3 : Option Value) (o : (Int32 × mSG) ⊕ (mSG ⊕ mSG)) (h : Z1_readsSum_b12 t rc x1 x2 s = some o) (kc : ∀ y : Int32 × mSG, o = .inl y → ∀ (u3 : Option Value), Ex (Runs (D + n + 8)) cd_X1_readsSum (w, z, LYC t) 12 [some (.ref 25), some (.int x1), some (.int y.1), u3] [] y.2 (LYC t)) (ke0 : ∀ y : mSG, o = .inr (.inl y) → ∀ (u0 u1 u2 u3 : Option Value), Ex (Runs (D + n + 8)) cd_X1_readsSum (w, z, LYC t) 54 [u0, u1, u2, u3] [] y (LYC t)) (ke1 : ∀ y : mSG, o = .inr (.inr y) → ∀ (u0 u1 u2 u3 : Option Value), Ex (Runs (D + n + 8)) cd_X1_readsSum (w, z, LYC t) 79 [u0, u1, u2, u3] [] y (LYC t)) : Ex (Runs (D + n + 8)) cd_X1_readsSum (w, z, LYC t) 12 [some (.ref 25), some (.int x1), some (.int x2), u3] [] s (LYC t) := by
  unfold Z1_readsSum_b12 at h
  refine Ex_br 3 (160 ≤ x2) (fun _ => rfl) (fun hc2 => ?_) (fun hc2 => ?_)
  · rw [if_pos hc2] at h
    obtain rfl := Option.some.inj h
    exact ke1 _ rfl _ _ _ _
  · rw [if_neg hc2] at h
    refine Ex_br 4 ((s.1 25 5) = 43) (fun _ => rfl) (fun hc3 => ?_) (fun hc3 => ?_)
    · rw [if_pos hc3] at h
      exact Z_T_X1_readsSum_j37_12 D t w z n rc hrc x1 x2 s _ _ h kc ke0 ke1
    · rw [if_neg hc3] at h
      refine Ex_br 4 ((s.1 25 5) = 45) (fun _ => rfl) (fun hc4 => ?_) (fun hc4 => ?_)
      · rw [if_pos hc4] at h
        exact Z_T_X1_readsSum_j37_12 D t w z n rc hrc x1 x2 s _ _ h kc ke0 ke1
      · rw [if_neg hc4] at h
        obtain rfl := Option.some.inj h
        exact ke1 _ rfl _ _ _ _
theorem Z_T_X1_readsSum_l12 (D : Nat) (t : mTX) (w : Option Value) (z : mSG) (n : Nat) (rc : Nat → Int32 → mSG → Option (Bool × mSG)) (hrc : ∀ i q s b, rc i q s = some b → Runs (D + n + 8) (mScc i) [.ref 25, .int q] s (LYC t) (some (.int (b2i b.1)), b.2, LYC t)) (x1 : Int32) (v : Int32 × mSG) (e : (mSG ⊕ mSG)) (h : Z1_readsSum_l12 t rc x1 v = some e) (ke0 : ∀ y : mSG, e = (.inl y) → ∀ (u0 u1 u2 u3 : Option Value), Ex (Runs (D + n + 8)) cd_X1_readsSum (w, z, LYC t) 54 [u0, u1, u2, u3] [] y (LYC t)) (ke1 : ∀ y : mSG, e = (.inr y) → ∀ (u0 u1 u2 u3 : Option Value), Ex (Runs (D + n + 8)) cd_X1_readsSum (w, z, LYC t) 79 [u0, u1, u2, u3] [] y (LYC t)) : ∀ (u3 : Option Value), Ex (Runs (D + n + 8)) cd_X1_readsSum (w, z, LYC t) 12 [some (.ref 25), some (.int x1), some (.int v.1), u3] [] v.2 (LYC t) :=
  m_iter (P := fun v : Int32 × mSG => ∀ (u3 : Option Value), Ex (Runs (D + n + 8)) cd_X1_readsSum (w, z, LYC t) 12 [some (.ref 25), some (.int x1), some (.int v.1), u3] [] v.2 (LYC t)) (Q := fun e : (mSG ⊕ mSG) => (∀ y : mSG, e = (.inl y) → ∀ (u0 u1 u2 u3 : Option Value), Ex (Runs (D + n + 8)) cd_X1_readsSum (w, z, LYC t) 54 [u0, u1, u2, u3] [] y (LYC t)) ∧ (∀ y : mSG, e = (.inr y) → ∀ (u0 u1 u2 u3 : Option Value), Ex (Runs (D + n + 8)) cd_X1_readsSum (w, z, LYC t) 79 [u0, u1, u2, u3] [] y (LYC t))) (fun x o hx kc kq u3 => Z_T_X1_readsSum_b12 D t w z n rc hrc x1 x.1 x.2 u3 o hx kc (fun e he => (kq _ (by rw [he])).1 e rfl) (fun e he => (kq _ (by rw [he])).2 e rfl)) mFU v e h ⟨ke0, ke1⟩
set_option maxRecDepth 20000 in
theorem Z_T_X1_readsSum_B (D : Nat) (t : mTX) (n : Nat) (rc : Nat → Int32 → mSG → Option (Bool × mSG)) (hrc : ∀ i q s b, rc i q s = some b → Runs (D + n + 8) (mScc i) [.ref 25, .int q] s (LYC t) (some (.int (b2i b.1)), b.2, LYC t)) (x1 : Int32) (s : mSG) (o : Bool × mSG) (h : Z1_readsSum_B t rc x1 s = some o) : Runs (D + n + 9) 15 [.ref 25, .int x1] s (LYC t) (some (.int (b2i o.1)), o.2, LYC t) := by
  refine Runs_mk (d := D + n + 8) rfl ?_
  show Ex (Runs (D + n + 8)) cd_X1_readsSum (some (.int (b2i o.1)), o.2, LYC t) 0 [some (.ref 25), some (.int x1), none, none] [] s (LYC t)
  unfold Z1_readsSum_B at h
  obtain ⟨r1, hr, h⟩ := m_bind h
  refine Ex_call 3 (fun _ => rfl) (hrc _ _ _ _ hr) rfl rfl ?_
  refine Ex_brZ 1 (r1.1) (fun _ => rfl) (fun hc => ?_) (fun hc => ?_)
  · rw [if_neg (m_nt hc)] at h
    obtain rfl := Option.some.inj h
    exact Ex_retZ 2 (fun _ => rfl) (Or.inl rfl) rfl
  · rw [if_pos hc] at h
    refine Ex_sti 2 (fun _ => rfl) ?_
    obtain ⟨e12, hl, h⟩ := m_bind h
    refine Z_T_X1_readsSum_l12 D t (some (.int (b2i o.1))) o.2 n rc hrc x1  (0, r1.2) _ hl (fun y0 hy0 => ?_) (fun y1 hy1 => ?_) _
    · obtain ⟨e12_0, rfl⟩ : ∃ q, q = y0 := ⟨_, rfl⟩
      subst hy0
      simp only [Sum.elim_inl, Sum.elim_inr] at h
      intro vu0 vu1 vu2 vu3
      obtain rfl := Option.some.inj h
      exact Ex_retZ 2 (fun _ => rfl) (Or.inl rfl) rfl
    · obtain ⟨e12_1, rfl⟩ : ∃ q, q = y1 := ⟨_, rfl⟩
      subst hy1
      simp only [Sum.elim_inl, Sum.elim_inr] at h
      intro vu0 vu1 vu2 vu3
      obtain rfl := Option.some.inj h
      exact Ex_retZ 2 (fun _ => rfl) (Or.inr rfl) rfl
set_option maxRecDepth 20000 in
theorem Z_T_X1_readsTerm_b12 (D : Nat) (t : mTX) (w : Option Value) (z : mSG) (n : Nat) (rc : Nat → Int32 → mSG → Option (Bool × mSG)) (hrc : ∀ i q s b, rc i q s = some b → Runs (D + n + 8) (mScc i) [.ref 25, .int q] s (LYC t) (some (.int (b2i b.1)), b.2, LYC t)) (x1 : Int32) (x2 : Int32) (s : mSG) (o : (Int32 × mSG) ⊕ (mSG ⊕ mSG)) (h : Z1_readsTerm_b12 t rc x1 x2 s = some o) (kc : ∀ y : Int32 × mSG, o = .inl y → Ex (Runs (D + n + 8)) cd_X1_readsTerm (w, z, LYC t) 12 [some (.ref 25), some (.int x1), some (.int y.1)] [] y.2 (LYC t)) (ke0 : ∀ y : mSG, o = .inr (.inl y) → ∀ (u0 u1 u2 : Option Value), Ex (Runs (D + n + 8)) cd_X1_readsTerm (w, z, LYC t) 36 [u0, u1, u2] [] y (LYC t)) (ke1 : ∀ y : mSG, o = .inr (.inr y) → ∀ (u0 u1 u2 : Option Value), Ex (Runs (D + n + 8)) cd_X1_readsTerm (w, z, LYC t) 50 [u0, u1, u2] [] y (LYC t)) : Ex (Runs (D + n + 8)) cd_X1_readsTerm (w, z, LYC t) 12 [some (.ref 25), some (.int x1), some (.int x2)] [] s (LYC t) := by
  unfold Z1_readsTerm_b12 at h
  refine Ex_br 3 (160 ≤ x2) (fun _ => rfl) (fun hc2 => ?_) (fun hc2 => ?_)
  · rw [if_pos hc2] at h
    obtain rfl := Option.some.inj h
    exact ke1 _ rfl _ _ _
  · rw [if_neg hc2] at h
    obtain ⟨r3, hr, h⟩ := m_bind h
    refine Ex_call 3 (fun _ => rfl) (Z_T_X1_takes (D + n) t 42 s r3 hr) rfl rfl ?_
    refine Ex_brZ 1 (r3.1) (fun _ => rfl) (fun hc => ?_) (fun hc => ?_)
    · rw [if_neg (m_nt hc)] at h
      obtain rfl := Option.some.inj h
      exact ke1 _ rfl _ _ _
    · rw [if_pos hc] at h
      obtain ⟨r4, hr, h⟩ := m_bind h
      refine Ex_call 3 (fun _ => rfl) (hrc _ _ _ _ hr) rfl rfl ?_
      refine Ex_brZ 1 (r4.1) (fun _ => rfl) (fun hc => ?_) (fun hc => ?_)
      · rw [if_neg (m_nt hc)] at h
        obtain rfl := Option.some.inj h
        exact ke0 _ rfl _ _ _
      · rw [if_pos hc] at h
        obtain ⟨r5, hr, h⟩ := m_bind h
        refine Ex_call 3 (fun _ => rfl) (Z_T_X1_emit (D + n + 7) t (-18) r4.2 r5 hr) rfl rfl ?_
        refine Ex_sti 2 (fun _ => rfl) ?_
        obtain rfl := Option.some.inj h
        exact kc _ rfl
theorem Z_T_X1_readsTerm_l12 (D : Nat) (t : mTX) (w : Option Value) (z : mSG) (n : Nat) (rc : Nat → Int32 → mSG → Option (Bool × mSG)) (hrc : ∀ i q s b, rc i q s = some b → Runs (D + n + 8) (mScc i) [.ref 25, .int q] s (LYC t) (some (.int (b2i b.1)), b.2, LYC t)) (x1 : Int32) (v : Int32 × mSG) (e : (mSG ⊕ mSG)) (h : Z1_readsTerm_l12 t rc x1 v = some e) (ke0 : ∀ y : mSG, e = (.inl y) → ∀ (u0 u1 u2 : Option Value), Ex (Runs (D + n + 8)) cd_X1_readsTerm (w, z, LYC t) 36 [u0, u1, u2] [] y (LYC t)) (ke1 : ∀ y : mSG, e = (.inr y) → ∀ (u0 u1 u2 : Option Value), Ex (Runs (D + n + 8)) cd_X1_readsTerm (w, z, LYC t) 50 [u0, u1, u2] [] y (LYC t)) : Ex (Runs (D + n + 8)) cd_X1_readsTerm (w, z, LYC t) 12 [some (.ref 25), some (.int x1), some (.int v.1)] [] v.2 (LYC t) :=
  m_iter (P := fun v : Int32 × mSG => Ex (Runs (D + n + 8)) cd_X1_readsTerm (w, z, LYC t) 12 [some (.ref 25), some (.int x1), some (.int v.1)] [] v.2 (LYC t)) (Q := fun e : (mSG ⊕ mSG) => (∀ y : mSG, e = (.inl y) → ∀ (u0 u1 u2 : Option Value), Ex (Runs (D + n + 8)) cd_X1_readsTerm (w, z, LYC t) 36 [u0, u1, u2] [] y (LYC t)) ∧ (∀ y : mSG, e = (.inr y) → ∀ (u0 u1 u2 : Option Value), Ex (Runs (D + n + 8)) cd_X1_readsTerm (w, z, LYC t) 50 [u0, u1, u2] [] y (LYC t))) (fun x o hx kc kq  => Z_T_X1_readsTerm_b12 D t w z n rc hrc x1 x.1 x.2  o hx kc (fun e he => (kq _ (by rw [he])).1 e rfl) (fun e he => (kq _ (by rw [he])).2 e rfl)) mFU v e h ⟨ke0, ke1⟩
set_option maxRecDepth 20000 in
theorem Z_T_X1_readsTerm_B (D : Nat) (t : mTX) (n : Nat) (rc : Nat → Int32 → mSG → Option (Bool × mSG)) (hrc : ∀ i q s b, rc i q s = some b → Runs (D + n + 8) (mScc i) [.ref 25, .int q] s (LYC t) (some (.int (b2i b.1)), b.2, LYC t)) (x1 : Int32) (s : mSG) (o : Bool × mSG) (h : Z1_readsTerm_B t rc x1 s = some o) : Runs (D + n + 9) 16 [.ref 25, .int x1] s (LYC t) (some (.int (b2i o.1)), o.2, LYC t) := by
  refine Runs_mk (d := D + n + 8) rfl ?_
  show Ex (Runs (D + n + 8)) cd_X1_readsTerm (some (.int (b2i o.1)), o.2, LYC t) 0 [some (.ref 25), some (.int x1), none] [] s (LYC t)
  unfold Z1_readsTerm_B at h
  obtain ⟨r1, hr, h⟩ := m_bind h
  refine Ex_call 3 (fun _ => rfl) (hrc _ _ _ _ hr) rfl rfl ?_
  refine Ex_brZ 1 (r1.1) (fun _ => rfl) (fun hc => ?_) (fun hc => ?_)
  · rw [if_neg (m_nt hc)] at h
    obtain rfl := Option.some.inj h
    exact Ex_retZ 2 (fun _ => rfl) (Or.inl rfl) rfl
  · rw [if_pos hc] at h
    refine Ex_sti 2 (fun _ => rfl) ?_
    obtain ⟨e12, hl, h⟩ := m_bind h
    refine Z_T_X1_readsTerm_l12 D t (some (.int (b2i o.1))) o.2 n rc hrc x1  (0, r1.2) _ hl (fun y0 hy0 => ?_) (fun y1 hy1 => ?_) 
    · obtain ⟨e12_0, rfl⟩ : ∃ q, q = y0 := ⟨_, rfl⟩
      subst hy0
      simp only [Sum.elim_inl, Sum.elim_inr] at h
      intro vu0 vu1 vu2
      obtain rfl := Option.some.inj h
      exact Ex_retZ 2 (fun _ => rfl) (Or.inl rfl) rfl
    · obtain ⟨e12_1, rfl⟩ : ∃ q, q = y1 := ⟨_, rfl⟩
      subst hy1
      simp only [Sum.elim_inl, Sum.elim_inr] at h
      intro vu0 vu1 vu2
      obtain rfl := Option.some.inj h
      exact Ex_retZ 2 (fun _ => rfl) (Or.inr rfl) rfl
set_option maxRecDepth 20000 in
theorem Z_T_X1_readsOne_j62 (D : Nat) (t : mTX) (n : Nat) (rc : Nat → Int32 → mSG → Option (Bool × mSG)) (hrc : ∀ i q s b, rc i q s = some b → Runs (D + n + 8) (mScc i) [.ref 25, .int q] s (LYC t) (some (.int (b2i b.1)), b.2, LYC t)) (x1 : Int32) (s : mSG) (o : Bool × mSG) (h : Z1_readsOne_j62 t rc x1 s = some o)  : Ex (Runs (D + n + 8)) cd_X1_readsOne (some (.int (b2i o.1)), o.2, LYC t) 62 [some (.ref 25), some (.int x1)] [] s (LYC t) := by
  unfold Z1_readsOne_j62 at h
  refine Ex_br 4 ((s.1 25 5) = 45) (fun _ => rfl) (fun hc8 => ?_) (fun hc8 => ?_)
  · rw [if_pos hc8] at h
    obtain ⟨r9, hr, h⟩ := m_bind h
    refine Ex_call 3 (fun _ => rfl) (Z_T_X1_opens (D + n) t x1 s r9 hr) rfl rfl ?_
    refine Ex_brZ 1 (r9.1) (fun _ => rfl) (fun hc => ?_) (fun hc => ?_)
    · rw [if_neg (m_nt hc)] at h
      obtain rfl := Option.some.inj h
      exact Ex_retZ 2 (fun _ => rfl) (Or.inl rfl) rfl
    · rw [if_pos hc] at h
      obtain ⟨r10, hr, h⟩ := m_bind h
      refine Ex_call 5 (fun _ => rfl) (hrc _ _ _ _ hr) rfl rfl ?_
      refine Ex_brZ 1 (r10.1) (fun _ => rfl) (fun hc => ?_) (fun hc => ?_)
      · rw [if_neg (m_nt hc)] at h
        obtain rfl := Option.some.inj h
        exact Ex_retZ 2 (fun _ => rfl) (Or.inl rfl) rfl
      · rw [if_pos hc] at h
        obtain ⟨r11, hr, h⟩ := m_bind h
        refine Ex_call 3 (fun _ => rfl) (Z_T_X1_emit (D + n + 7) t (-19) r10.2 r11 hr) rfl rfl ?_
        obtain rfl := Option.some.inj h
        exact Ex_retZ 2 (fun _ => rfl) (Or.inr rfl) rfl
  · rw [if_neg hc8] at h
    refine Ex_br 4 ((s.1 25 5) = 40) (fun _ => rfl) (fun hc12 => ?_) (fun hc12 => ?_)
    · rw [if_pos hc12] at h
      obtain ⟨r13, hr, h⟩ := m_bind h
      refine Ex_call 3 (fun _ => rfl) (Z_T_X1_opens (D + n) t x1 s r13 hr) rfl rfl ?_
      refine Ex_brZ 1 (r13.1) (fun _ => rfl) (fun hc => ?_) (fun hc => ?_)
      · rw [if_neg (m_nt hc)] at h
        obtain rfl := Option.some.inj h
        exact Ex_retZ 2 (fun _ => rfl) (Or.inl rfl) rfl
      · rw [if_pos hc] at h
        obtain ⟨r14, hr, h⟩ := m_bind h
        refine Ex_call 5 (fun _ => rfl) (hrc _ _ _ _ hr) rfl rfl ?_
        refine Ex_brZ 1 (r14.1) (fun _ => rfl) (fun hc => ?_) (fun hc => ?_)
        · rw [if_neg (m_nt hc)] at h
          obtain rfl := Option.some.inj h
          exact Ex_retZ 2 (fun _ => rfl) (Or.inl rfl) rfl
        · rw [if_pos hc] at h
          obtain ⟨r15, hr, h⟩ := m_bind h
          refine Ex_call 3 (fun _ => rfl) (Z_T_X1_takes (D + n) t 41 r14.2 r15 hr) rfl rfl ?_
          refine Ex_brZ 1 (r15.1) (fun _ => rfl) (fun hc => ?_) (fun hc => ?_)
          · rw [if_neg (m_nt hc)] at h
            obtain rfl := Option.some.inj h
            exact Ex_retZ 2 (fun _ => rfl) (Or.inl rfl) rfl
          · rw [if_pos hc] at h
            obtain rfl := Option.some.inj h
            exact Ex_retZ 3 (fun _ => rfl) (Or.inr rfl) rfl
    · rw [if_neg hc12] at h
      obtain rfl := Option.some.inj h
      exact Ex_retZ 2 (fun _ => rfl) (Or.inl rfl) rfl
set_option maxRecDepth 20000 in
theorem Z_T_X1_readsOne_B (D : Nat) (t : mTX) (n : Nat) (rc : Nat → Int32 → mSG → Option (Bool × mSG)) (hrc : ∀ i q s b, rc i q s = some b → Runs (D + n + 8) (mScc i) [.ref 25, .int q] s (LYC t) (some (.int (b2i b.1)), b.2, LYC t)) (x1 : Int32) (s : mSG) (o : Bool × mSG) (h : Z1_readsOne_B t rc x1 s = some o) : Runs (D + n + 9) 17 [.ref 25, .int x1] s (LYC t) (some (.int (b2i o.1)), o.2, LYC t) := by
  refine Runs_mk (d := D + n + 8) rfl ?_
  show Ex (Runs (D + n + 8)) cd_X1_readsOne (some (.int (b2i o.1)), o.2, LYC t) 0 [some (.ref 25), some (.int x1)] [] s (LYC t)
  unfold Z1_readsOne_B at h
  refine Ex_br 4 ((s.1 25 5) = 2) (fun _ => rfl) (fun hc1 => ?_) (fun hc1 => ?_)
  · rw [if_pos hc1] at h
    obtain ⟨r2, hr, h⟩ := m_bind h
    refine Ex_call 4 (fun _ => rfl) (Z_T_X1_emit (D + n + 7) t (s.1 25 6) s r2 hr) rfl rfl ?_
    obtain ⟨r3, hr, h⟩ := m_bind h
    refine Ex_call 2 (fun _ => rfl) (Z_T_X1_advance (D + n + 1) t  r2 r3 hr) rfl rfl ?_
    obtain rfl := Option.some.inj h
    exact Ex_retZ 2 (fun _ => rfl) (Or.inr rfl) rfl
  · rw [if_neg hc1] at h
    refine Ex_br 4 ((s.1 25 5) < 256) (fun _ => rfl) (fun hc4 => ?_) (fun hc4 => ?_)
    · rw [if_pos hc4] at h
      exact Z_T_X1_readsOne_j62 D t n rc hrc x1 s  _ h
    · rw [if_neg hc4] at h
      refine Ex_br 4 (262 ≤ (s.1 25 5)) (fun _ => rfl) (fun hc5 => ?_) (fun hc5 => ?_)
      · rw [if_pos hc5] at h
        exact Z_T_X1_readsOne_j62 D t n rc hrc x1 s  _ h
      · rw [if_neg hc5] at h
        obtain ⟨r6, hr, h⟩ := m_bind h
        refine Ex_call 8 (fun _ => rfl) (Z_T_X1_emit (D + n + 7) t ((-1) - ((s.1 25 5) - 256)) s r6 hr) rfl rfl ?_
        obtain ⟨r7, hr, h⟩ := m_bind h
        refine Ex_call 2 (fun _ => rfl) (Z_T_X1_advance (D + n + 1) t  r6 r7 hr) rfl rfl ?_
        obtain rfl := Option.some.inj h
        exact Ex_retZ 2 (fun _ => rfl) (Or.inr rfl) rfl
set_option maxRecDepth 20000 in
theorem Z_T_X1_readsEither_b12 (D : Nat) (t : mTX) (w : Option Value) (z : mSG) (n : Nat) (rc : Nat → Int32 → mSG → Option (Bool × mSG)) (hrc : ∀ i q s b, rc i q s = some b → Runs (D + n + 8) (mScc i) [.ref 25, .int q] s (LYC t) (some (.int (b2i b.1)), b.2, LYC t)) (x1 : Int32) (x2 : Int32) (s : mSG) (o : (Int32 × mSG) ⊕ (mSG ⊕ mSG)) (h : Z1_readsEither_b12 t rc x1 x2 s = some o) (kc : ∀ y : Int32 × mSG, o = .inl y → Ex (Runs (D + n + 8)) cd_X1_readsEither (w, z, LYC t) 12 [some (.ref 25), some (.int x1), some (.int y.1)] [] y.2 (LYC t)) (ke0 : ∀ y : mSG, o = .inr (.inl y) → ∀ (u0 u1 u2 : Option Value), Ex (Runs (D + n + 8)) cd_X1_readsEither (w, z, LYC t) 37 [u0, u1, u2] [] y (LYC t)) (ke1 : ∀ y : mSG, o = .inr (.inr y) → ∀ (u0 u1 u2 : Option Value), Ex (Runs (D + n + 8)) cd_X1_readsEither (w, z, LYC t) 51 [u0, u1, u2] [] y (LYC t)) : Ex (Runs (D + n + 8)) cd_X1_readsEither (w, z, LYC t) 12 [some (.ref 25), some (.int x1), some (.int x2)] [] s (LYC t) := by
  unfold Z1_readsEither_b12 at h
  refine Ex_br 3 (160 ≤ x2) (fun _ => rfl) (fun hc2 => ?_) (fun hc2 => ?_)
  · rw [if_pos hc2] at h
    obtain rfl := Option.some.inj h
    exact ke1 _ rfl _ _ _
  · rw [if_neg hc2] at h
    obtain ⟨r3, hr, h⟩ := m_bind h
    refine Ex_call 3 (fun _ => rfl) (Z_T_X1_takes (D + n) t 265 s r3 hr) rfl rfl ?_
    refine Ex_brZ 1 (r3.1) (fun _ => rfl) (fun hc => ?_) (fun hc => ?_)
    · rw [if_neg (m_nt hc)] at h
      obtain rfl := Option.some.inj h
      exact ke1 _ rfl _ _ _
    · rw [if_pos hc] at h
      obtain ⟨r4, hr, h⟩ := m_bind h
      refine Ex_call 3 (fun _ => rfl) (hrc _ _ _ _ hr) rfl rfl ?_
      refine Ex_brZ 1 (r4.1) (fun _ => rfl) (fun hc => ?_) (fun hc => ?_)
      · rw [if_neg (m_nt hc)] at h
        obtain rfl := Option.some.inj h
        exact ke0 _ rfl _ _ _
      · rw [if_pos hc] at h
        obtain ⟨r5, hr, h⟩ := m_bind h
        refine Ex_call 3 (fun _ => rfl) (Z_T_X1_emit (D + n + 7) t (-11) r4.2 r5 hr) rfl rfl ?_
        refine Ex_sti 2 (fun _ => rfl) ?_
        obtain rfl := Option.some.inj h
        exact kc _ rfl
theorem Z_T_X1_readsEither_l12 (D : Nat) (t : mTX) (w : Option Value) (z : mSG) (n : Nat) (rc : Nat → Int32 → mSG → Option (Bool × mSG)) (hrc : ∀ i q s b, rc i q s = some b → Runs (D + n + 8) (mScc i) [.ref 25, .int q] s (LYC t) (some (.int (b2i b.1)), b.2, LYC t)) (x1 : Int32) (v : Int32 × mSG) (e : (mSG ⊕ mSG)) (h : Z1_readsEither_l12 t rc x1 v = some e) (ke0 : ∀ y : mSG, e = (.inl y) → ∀ (u0 u1 u2 : Option Value), Ex (Runs (D + n + 8)) cd_X1_readsEither (w, z, LYC t) 37 [u0, u1, u2] [] y (LYC t)) (ke1 : ∀ y : mSG, e = (.inr y) → ∀ (u0 u1 u2 : Option Value), Ex (Runs (D + n + 8)) cd_X1_readsEither (w, z, LYC t) 51 [u0, u1, u2] [] y (LYC t)) : Ex (Runs (D + n + 8)) cd_X1_readsEither (w, z, LYC t) 12 [some (.ref 25), some (.int x1), some (.int v.1)] [] v.2 (LYC t) :=
  m_iter (P := fun v : Int32 × mSG => Ex (Runs (D + n + 8)) cd_X1_readsEither (w, z, LYC t) 12 [some (.ref 25), some (.int x1), some (.int v.1)] [] v.2 (LYC t)) (Q := fun e : (mSG ⊕ mSG) => (∀ y : mSG, e = (.inl y) → ∀ (u0 u1 u2 : Option Value), Ex (Runs (D + n + 8)) cd_X1_readsEither (w, z, LYC t) 37 [u0, u1, u2] [] y (LYC t)) ∧ (∀ y : mSG, e = (.inr y) → ∀ (u0 u1 u2 : Option Value), Ex (Runs (D + n + 8)) cd_X1_readsEither (w, z, LYC t) 51 [u0, u1, u2] [] y (LYC t))) (fun x o hx kc kq  => Z_T_X1_readsEither_b12 D t w z n rc hrc x1 x.1 x.2  o hx kc (fun e he => (kq _ (by rw [he])).1 e rfl) (fun e he => (kq _ (by rw [he])).2 e rfl)) mFU v e h ⟨ke0, ke1⟩
set_option maxRecDepth 20000 in
theorem Z_T_X1_readsEither_B (D : Nat) (t : mTX) (n : Nat) (rc : Nat → Int32 → mSG → Option (Bool × mSG)) (hrc : ∀ i q s b, rc i q s = some b → Runs (D + n + 8) (mScc i) [.ref 25, .int q] s (LYC t) (some (.int (b2i b.1)), b.2, LYC t)) (x1 : Int32) (s : mSG) (o : Bool × mSG) (h : Z1_readsEither_B t rc x1 s = some o) : Runs (D + n + 9) 12 [.ref 25, .int x1] s (LYC t) (some (.int (b2i o.1)), o.2, LYC t) := by
  refine Runs_mk (d := D + n + 8) rfl ?_
  show Ex (Runs (D + n + 8)) cd_X1_readsEither (some (.int (b2i o.1)), o.2, LYC t) 0 [some (.ref 25), some (.int x1), none] [] s (LYC t)
  unfold Z1_readsEither_B at h
  obtain ⟨r1, hr, h⟩ := m_bind h
  refine Ex_call 3 (fun _ => rfl) (hrc _ _ _ _ hr) rfl rfl ?_
  refine Ex_brZ 1 (r1.1) (fun _ => rfl) (fun hc => ?_) (fun hc => ?_)
  · rw [if_neg (m_nt hc)] at h
    obtain rfl := Option.some.inj h
    exact Ex_retZ 2 (fun _ => rfl) (Or.inl rfl) rfl
  · rw [if_pos hc] at h
    refine Ex_sti 2 (fun _ => rfl) ?_
    obtain ⟨e12, hl, h⟩ := m_bind h
    refine Z_T_X1_readsEither_l12 D t (some (.int (b2i o.1))) o.2 n rc hrc x1  (0, r1.2) _ hl (fun y0 hy0 => ?_) (fun y1 hy1 => ?_) 
    · obtain ⟨e12_0, rfl⟩ : ∃ q, q = y0 := ⟨_, rfl⟩
      subst hy0
      simp only [Sum.elim_inl, Sum.elim_inr] at h
      intro vu0 vu1 vu2
      obtain rfl := Option.some.inj h
      exact Ex_retZ 2 (fun _ => rfl) (Or.inl rfl) rfl
    · obtain ⟨e12_1, rfl⟩ : ∃ q, q = y1 := ⟨_, rfl⟩
      subst hy1
      simp only [Sum.elim_inl, Sum.elim_inr] at h
      intro vu0 vu1 vu2
      obtain rfl := Option.some.inj h
      exact Ex_retZ 2 (fun _ => rfl) (Or.inr rfl) rfl
theorem Z_T_X1_R (D : Nat) (t : mTX) : ∀ (n i : Nat) (q : Int32) (s : mSG) (b : Bool × mSG), Z1_R t n i q s = some b → Runs (D + n + 8) (mScc i) [.ref 25, .int q] s (LYC t) (some (.int (b2i b.1)), b.2, LYC t) := by
  intro n
  induction n with
  | zero => intro i q s b h; cases h
  | succ n ih =>
    intro i q s b h
    match i, h with
    | 0, h => exact Z_T_X1_readsEither_B D t n (Z1_R t n) ih q s b h
    | 1, h => exact Z_T_X1_readsBoth_B D t n (Z1_R t n) ih q s b h
    | 2, h => exact Z_T_X1_readsNot_B D t n (Z1_R t n) ih q s b h
    | 3, h => exact Z_T_X1_readsSum_B D t n (Z1_R t n) ih q s b h
    | 4, h => exact Z_T_X1_readsTerm_B D t n (Z1_R t n) ih q s b h
    | 5, h => exact Z_T_X1_readsOne_B D t n (Z1_R t n) ih q s b h
    | i + 6, h =>
      have hb : Nat.ble (i + 6) 5 = false := by
        cases hh : Nat.ble (i + 6) 5 with
        | false => rfl
        | true => have := Nat.le_of_ble_eq_true hh; omega
      unfold Z1_R at h
      rw [hb] at h
      cases h
set_option maxRecDepth 20000 in
theorem Z_T_X1_parse_23_b38 (D : Nat) (t : mTX) (w : Option Value) (z : mSG) (x3 : Int32) (s : mSG) (u1 u2 : Option Value) (o : (Int32 × mSG) ⊕ (mSG ⊕ mSG)) (h : Z1_parse_23_b38 t x3 s = some o) (kc : ∀ y : Int32 × mSG, o = .inl y → ∀ (u1 u2 : Option Value), Ex (Runs (D + 68)) cd_X1_parse (w, z, LYC t) 38 [some (.ref 25), u1, u2, some (.int y.1)] [] y.2 (LYC t)) (ke0 : ∀ y : mSG, o = .inr (.inl y) → ∀ (u1 u2 u3 : Option Value), Ex (Runs (D + 68)) cd_X1_parse (w, z, LYC t) 72 [some (.ref 25), u1, u2, u3] [] y (LYC t)) (ke1 : ∀ y : mSG, o = .inr (.inr y) → ∀ (u1 u2 u3 : Option Value), Ex (Runs (D + 68)) cd_X1_parse (w, z, LYC t) 93 [some (.ref 25), u1, u2, u3] [] y (LYC t)) : Ex (Runs (D + 68)) cd_X1_parse (w, z, LYC t) 38 [some (.ref 25), u1, u2, some (.int x3)] [] s (LYC t) := by
  unfold Z1_parse_23_b38 at h
  refine Ex_br 3 (3 ≤ x3) (fun _ => rfl) (fun hc2 => ?_) (fun hc2 => ?_)
  · rw [if_pos hc2] at h
    obtain rfl := Option.some.inj h
    exact ke1 _ rfl _ _ _
  · rw [if_neg hc2] at h
    obtain ⟨r3, hr, h⟩ := m_bind h
    refine Ex_call 5 (fun _ => rfl) (Z_T_X1_takes (D + 60) t (262 + x3) s r3 hr) rfl rfl ?_
    refine Ex_brZ 1 (r3.1) (fun _ => rfl) (fun hc => ?_) (fun hc => ?_)
    · rw [if_neg (m_nt hc)] at h
      obtain rfl := Option.some.inj h
      exact ke0 _ rfl _ _ _
    · rw [if_pos hc] at h
      obtain ⟨r4, hr, h⟩ := m_bind h
      refine Ex_call 3 (fun _ => rfl) (Z_T_X1_R D t 60 0 0 r3.2 r4 hr) rfl rfl ?_
      refine Ex_brZ 1 (r4.1) (fun _ => rfl) (fun hc => ?_) (fun hc => ?_)
      · rw [if_neg (m_nt hc)] at h
        obtain rfl := Option.some.inj h
        exact ke0 _ rfl _ _ _
      · rw [if_pos hc] at h
        obtain ⟨r5, hr, h⟩ := m_bind h
        refine Ex_call 3 (fun _ => rfl) (Z_T_X1_takes (D + 60) t 59 r4.2 r5 hr) rfl rfl ?_
        refine Ex_brZ 1 (r5.1) (fun _ => rfl) (fun hc => ?_) (fun hc => ?_)
        · rw [if_neg (m_nt hc)] at h
          obtain rfl := Option.some.inj h
          exact ke0 _ rfl _ _ _
        · rw [if_pos hc] at h
          obtain ⟨hg6, h⟩ := m_ite h
          refine Ex_gd 6 (fun _ => rfl) hg6 ?_
          refine Ex_sti 2 (fun _ => rfl) ?_
          obtain rfl := Option.some.inj h
          exact kc _ rfl _ _
theorem Z_T_X1_parse_23_l38 (D : Nat) (t : mTX) (w : Option Value) (z : mSG) (v : Int32 × mSG) (e : (mSG ⊕ mSG)) (h : Z1_parse_23_l38 t v = some e) (ke0 : ∀ y : mSG, e = (.inl y) → ∀ (u1 u2 u3 : Option Value), Ex (Runs (D + 68)) cd_X1_parse (w, z, LYC t) 72 [some (.ref 25), u1, u2, u3] [] y (LYC t)) (ke1 : ∀ y : mSG, e = (.inr y) → ∀ (u1 u2 u3 : Option Value), Ex (Runs (D + 68)) cd_X1_parse (w, z, LYC t) 93 [some (.ref 25), u1, u2, u3] [] y (LYC t)) : ∀ (u1 u2 : Option Value), Ex (Runs (D + 68)) cd_X1_parse (w, z, LYC t) 38 [some (.ref 25), u1, u2, some (.int v.1)] [] v.2 (LYC t) :=
  m_iter (P := fun v : Int32 × mSG => ∀ (u1 u2 : Option Value), Ex (Runs (D + 68)) cd_X1_parse (w, z, LYC t) 38 [some (.ref 25), u1, u2, some (.int v.1)] [] v.2 (LYC t)) (Q := fun e : (mSG ⊕ mSG) => (∀ y : mSG, e = (.inl y) → ∀ (u1 u2 u3 : Option Value), Ex (Runs (D + 68)) cd_X1_parse (w, z, LYC t) 72 [some (.ref 25), u1, u2, u3] [] y (LYC t)) ∧ (∀ y : mSG, e = (.inr y) → ∀ (u1 u2 u3 : Option Value), Ex (Runs (D + 68)) cd_X1_parse (w, z, LYC t) 93 [some (.ref 25), u1, u2, u3] [] y (LYC t))) (fun x o hx kc kq u1 u2 => Z_T_X1_parse_23_b38 D t w z  x.1 x.2 u1 u2 o hx kc (fun e he => (kq _ (by rw [he])).1 e rfl) (fun e he => (kq _ (by rw [he])).2 e rfl)) mFU v e h ⟨ke0, ke1⟩
set_option maxRecDepth 20000 in
theorem Z_T_X1_parse_23 (D : Nat) (t : mTX) (x2 : Int32) (s : mSG) (o : Int32 × mSG) (h : Z1_parse_23 t x2 s = some o) : Runs (D + 69) 10 [.ref 25, .ref 23, .int x2] s (LYC t) (some (.int o.1), o.2, LYC t) := by
  refine Runs_mk (d := D + 68) rfl ?_
  show Ex (Runs (D + 68)) cd_X1_parse (some (.int o.1), o.2, LYC t) 0 [some (.ref 25), some (.ref 23), some (.int x2), none] [] s (LYC t)
  unfold Z1_parse_23 at h
  refine Ex_call 10 (fun _ => rfl) (Z_T_J9_min (D + 67) t 160 (Int32.ofNat 160) (sQ s 25 3 23) _ rfl) rfl rfl ?_
  refine Ex_call 1 (fun _ => rfl) (Z_T_X8_bounded (D + 66) t x2 0 (J9_min 160 (Int32.ofNat 160)) (sQ s 25 3 23) _ rfl) rfl rfl ?_
  obtain ⟨r1, hr, h⟩ := m_bind h
  refine Ex_call 9 (fun _ => rfl) (Z_T_X1_advance (D + 61) t  (sI (sI (sI (sQ s 25 3 23) 25 4 (X8_bounded x2 0 (J9_min 160 (Int32.ofNat 160)))) 25 2 0) 25 8 0) r1 hr) rfl rfl ?_
  refine Ex_sti 2 (fun _ => rfl) ?_
  obtain ⟨e38, hl, h⟩ := m_bind h
  refine Z_T_X1_parse_23_l38 D t (some (.int o.1)) o.2   (0, r1) _ hl (fun y0 hy0 => ?_) (fun y1 hy1 => ?_) _ _
  · obtain ⟨e38_0, rfl⟩ : ∃ q, q = y0 := ⟨_, rfl⟩
    subst hy0
    simp only [Sum.elim_inl, Sum.elim_inr] at h
    intro vu1 vu2 vu3
    obtain rfl := Option.some.inj h
    exact Ex_ret 3 (fun _ => rfl) rfl
  · obtain ⟨e38_1, rfl⟩ : ∃ q, q = y1 := ⟨_, rfl⟩
    subst hy1
    simp only [Sum.elim_inl, Sum.elim_inr] at h
    intro vu1 vu2 vu3
    refine Ex_br 3 ((e38_1.1 25 5) = 0) (fun _ => rfl) (fun hc8 => ?_) (fun hc8 => ?_)
    · rw [if_pos hc8] at h
      obtain rfl := Option.some.inj h
      exact Ex_ret 3 (fun _ => rfl) rfl
    · rw [if_neg hc8] at h
      obtain rfl := Option.some.inj h
      exact Ex_ret 3 (fun _ => rfl) rfl
