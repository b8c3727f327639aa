theorem L_lend {t : mTX} {s : mSG} (h : INV t s) (x y z : Int32) : ∃ v s1 s2, X8_lend t x y z s = some (v, s1) ∧ X9_lend x y z s1 = some (v, s2) ∧ INV t s2 := by
  have hI := h
  obtain ⟨tc, V, A, hk, K, ts, tp, sk, sn, si, hv⟩ := h
  have hv' := hv
  obtain ⟨⟨a1, a2, a3, a4, a5, a6⟩, ⟨b1, b2, b3⟩, _⟩ := hv'
  have h5 := b3.pp
  by_cases q : (inP x A.pp ∧ inP y A.pp ∧ ¬ x = y) ∧ (inR z 99 ∧ ¬ z = 0)
  · obtain ⟨⟨q1, q2, q3⟩, q4, q5⟩ := q
    obtain ⟨p, hp, rfl⟩ := inP_of q1 (by omega)
    obtain ⟨r, hr, rfl⟩ := inP_of q2 (by omega)
    obtain ⟨v, h9, rfl⟩ := inR_of q4 (by omega)
    have hpq : p ≠ r := fun e => q3 (by rw [e])
    have h1 : 1 ≤ v := by
      rcases Nat.eq_zero_or_pos v with e | e
      · exact absurd (by rw [e]; rfl) q5
      · exact e
    by_cases C : aLendC A p r v
    · obtain ⟨s1, e1, r1⟩ := c_lend a1 a3 a6 b1 b3 hp hr hpq h1 h9 C
      have f1 := FR_X8_lend _ _ _ _ _ _ e1
      have w1 := IW_fr (IV_IW hv) f1 rfl
      have m1 := RM_fr b2 f1 (fun _ => rfl) (fun _ => rfl) (fun _ => rfl) (fun _ => rfl) (fun _ => rfl) (fun _ => rfl) (fun _ => rfl) (fun _ => rfl) (fun _ => rfl) rfl rfl rfl
      obtain ⟨s2, e2, r2⟩ := m_lend w1.1.1 w1.1.2.1 m1 b3 hp hr hpq h1 h9 C
      have f2 := FR_X9_lend _ _ _ _ _ e2
      exact ⟨_, s1, s2, e1, e2, L_now (A' := aLend A p r v) hv f1 f2 rfl rfl (RS_fr r1 f2 (fun _ => rfl) (fun _ => rfl) (fun _ => rfl) (fun _ => rfl) (fun _ => rfl)) r2 (aLend_ok b3 hp hr C) (Nat.le_refl _) (fun _ _ => rfl)⟩
    · exact ⟨-3, s, s, c_lendN b1 b3 hp hr hpq h1 h9 C, m_lendN b2 b3 hp hr hpq h1 h9 C, hI⟩
  · refine ⟨-2, s, s, ?_, ?_, hI⟩
    · unfold X8_lend X8_areTwoPeople
      rw [c_isOne_7 b1 h5, c_isOne_7 b1 h5, show X8_isWithin z 99 = _ from c_within z 99]
      by_cases q1 : inP x A.pp
      · by_cases q2 : inP y A.pp
        · by_cases q3 : x = y
          · rw [decide_eq_true q1, decide_eq_true q2, if_pos rfl, if_pos rfl, if_pos q3]
            rfl
          · rw [decide_eq_true q1, decide_eq_true q2, if_pos rfl, if_pos rfl, if_neg q3, if_pos rfl]
            by_cases q4 : inR z 99
            · rw [decide_eq_true q4, if_pos rfl, if_pos (Classical.byContradiction fun q5 => q ⟨⟨q1, q2, q3⟩, q4, q5⟩)]
            · rw [decide_eq_false q4]
              rfl
        · rw [decide_eq_true q1, decide_eq_false q2, if_pos rfl]
          rfl
      · rw [decide_eq_false q1]
        rfl
    · unfold X9_lend
      have hz : X9_in z.toInt64 1 99 = decide (inR z 99 ∧ ¬ z = 0) := by
        refine b_dec ?_
        rw [m_in z 1 99 1 99 rfl rfl]
        refine propext ⟨fun g => ⟨⟨Int32.le_trans (by decide) g.1, g.2⟩, fun e => ?_⟩, fun g => ⟨?_, g.1.2⟩⟩
        · rw [e] at g
          exact absurd g.1 (by decide)
        · obtain ⟨v, h9, rfl⟩ := inR_of g.1 (by omega)
          show nI 1 ≤ nI v
          rw [nl_le (by omega) (by omega)]
          rcases Nat.eq_zero_or_pos v with e | e
          · exact absurd (by rw [e]; rfl) g.2
          · exact e
      rw [m_isOne b2 h5, m_isOne b2 h5, hz]
      by_cases q1 : inP x A.pp
      · by_cases q2 : inP y A.pp
        · by_cases q3 : x = y
          · rw [decide_eq_true q1, decide_eq_true q2, if_pos rfl, if_pos rfl, if_pos q3]
          · rw [decide_eq_true q1, decide_eq_true q2, if_pos rfl, if_pos rfl, if_neg q3, decide_eq_false (fun g => q ⟨⟨q1, q2, q3⟩, g⟩)]
            rfl
        · rw [decide_eq_true q1, decide_eq_false q2, if_pos rfl]
          rfl
      · rw [decide_eq_false q1]
        rfl
