/-! set -/
theorem L_set0 {t : mTX} {s : mSG} (h : INV t s) (y z : Int32) : ∃ v s1 s2, X8_set 0 y z s = some (v, s1) ∧ X9_set 0 y z s1 = some (v, s2) ∧ INV t s2 := by
  have hI := h
  obtain ⟨tc, V, A, hk, K, ts, tp, sk, sn, si, hv⟩ := h
  have hv' := hv
  obtain ⟨⟨a1, a2, a3, a4, a5, a6⟩, ⟨b1, b2, b3⟩, _⟩ := hv'
  have h5 := b3.pp
  have e1 : ∀ s, RS 7 8 9 10 11 A s → X8_set 0 y z s = if inP y A.pp ∧ inR z 7 then (X5_trait_7 y 0 s).bind (fun r2 => (X5_put_7 y 0 z s).bind (fun r3 => some (r2, r3))) else some (-2, s) := by
    intro s b1
    unfold X8_set
    rw [if_neg (by decide), if_neg (by decide), show X8_isWithin 0 4 = true from by decide, if_pos rfl, c_isOne_7 b1 h5, show X8_mostOf 0 = nI 7 from rfl, c_within]
    by_cases q1 : inP y A.pp
    · by_cases q2 : inR z 7
      · rw [decide_eq_true q1, decide_eq_true q2, if_pos rfl, if_pos rfl, if_pos (And.intro q1 q2)]
      · rw [decide_eq_true q1, decide_eq_false q2, if_pos rfl, if_neg (by decide), if_neg (fun q => q2 q.2)]
    · rw [decide_eq_false q1, if_neg (by decide), if_neg (fun q => q1 q.1)]
  have e2 : ∀ s, RM A s → X9_set 0 y z s = if inP y A.pp ∧ inR z 7 then (if mInb y 5 = true then some (s.1 65 y.toNatClampNeg, sI s 65 y.toNatClampNeg z) else none) else some (-2, s) := by
    intro s b2
    unfold X9_set X9_set_j25 X9_set_j43 X9_set_j81 X9_set_j177
    rw [show X9_in (0 : Int32).toInt64 0 6 = true from by decide, if_pos rfl, if_neg (show ¬ (5 : Int32) ≤ 0 by decide), m_isOne b2 h5, if_neg (show ¬ (0 : Int32) = 6 by decide)]
    simp only [show ((0 : Int32) = 0) = True from by decide, show ((0 : Int32) = 1) = False from by decide, show ((0 : Int32) = 2) = False from by decide, show ((0 : Int32) = 3) = False from by decide, show ((0 : Int32) = 4) = False from by decide, show ((0 : Int32) = 5) = False from by decide, if_true, if_false]
    rw [show X9_in z.toInt64 0 7 = decide (inR z 7) from b_dec (m_inR z 7 7 rfl)]
    by_cases q1 : inP y A.pp
    · by_cases q2 : inR z 7
      · rw [decide_eq_true q1, decide_eq_true q2, if_pos rfl, if_pos rfl, if_pos (And.intro q1 q2)]
        split <;> rfl
      · rw [decide_eq_true q1, decide_eq_false q2, if_pos rfl, if_neg (by decide), if_neg (fun q => q2 q.2)]
    · rw [decide_eq_false q1, if_neg (by decide), if_neg (fun q => q1 q.1)]
  by_cases q : inP y A.pp ∧ inR z 7
  · obtain ⟨p, hp, rfl⟩ := inP_of q.1 (by omega)
    obtain ⟨v, hv9, rfl⟩ := inR_of q.2 (by omega)
    have g1 : X8_set 0 (nI p) (nI v) s = some (nI (A.st p), sI s 9 (p * 6 + 0) (nI v)) := by
      rw [e1 s b1, if_pos q, ob (show X5_trait_7 (nI p) 0 s = some (nI (A.st p)) from (c_trait_7 (w := 0) b1 h5 hp (by omega)).trans (congrArg some (b1.st p hp))), ob (show X5_put_7 (nI p) 0 (nI v) s = some (sI s 9 (p * 6 + 0) (nI v)) from c_put_7 (w := 0) b1 h5 hp (by omega) (nI v))]
    have f1 := FR_X8_set _ _ _ _ _ g1
    have m1 := RM_fr b2 f1 (fun _ => rfl) (fun _ => rfl) (fun _ => rfl) (fun _ => rfl) (fun _ => rfl) (fun _ => rfl) (fun _ => rfl) (fun _ => rfl) (fun _ => rfl) rfl rfl rfl
    have g2 : X9_set 0 (nI p) (nI v) (sI s 9 (p * 6 + 0) (nI v)) = some (nI (A.st p), sI (sI s 9 (p * 6 + 0) (nI v)) 65 p (nI v)) := by
      rw [e2 _ m1, if_pos q, if_pos (gl_inb (show p < 5 by omega) (by omega)), nl_cl (by omega), m1.st p hp]
    have f2 := FR_X9_set _ _ _ _ _ g2
    refine ⟨_, _, _, g1, g2, L_now (A' := A.up 5 p v) hv f1 f2 rfl rfl (RS_fr (RS_put_st b1 p v (by decide) (by decide) (by decide) (by decide)) f2 (fun _ => rfl) (fun _ => rfl) (fun _ => rfl) (fun _ => rfl) (fun _ => rfl)) (RM_put_st m1 p v) ?_ (Nat.le_refl _) (fun _ _ => rfl)⟩
    obtain ⟨k1, k2, k3, k4, k5, k6, k7, k8, k9, k10, k11, k12, k13, k14, k15⟩ := b3
    refine ⟨k1, k2, k3, k4, k5, k6, k7, k8, k9, k10, ?_, k12, k13, k14, k15⟩
    intro q hq
    show (if q = p then v else A.st q) ≤ 7
    split
    · exact hv9
    · exact k11 q hq
  · refine ⟨-2, s, s, ?_, ?_, hI⟩
    · rw [e1 s b1, if_neg q]
    · rw [e2 s b2, if_neg q]
theorem L_set1 {t : mTX} {s : mSG} (h : INV t s) (y z : Int32) : ∃ v s1 s2, X8_set 1 y z s = some (v, s1) ∧ X9_set 1 y z s1 = some (v, s2) ∧ INV t s2 := by
  have hI := h
  obtain ⟨tc, V, A, hk, K, ts, tp, sk, sn, si, hv⟩ := h
  have hv' := hv
  obtain ⟨⟨a1, a2, a3, a4, a5, a6⟩, ⟨b1, b2, b3⟩, _⟩ := hv'
  have h5 := b3.pp
  have e1 : ∀ s, RS 7 8 9 10 11 A s → X8_set 1 y z s = if inP y A.pp ∧ inR z 99 then (X5_trait_7 y 1 s).bind (fun r2 => (X5_put_7 y 1 z s).bind (fun r3 => some (r2, r3))) else some (-2, s) := by
    intro s b1
    unfold X8_set
    rw [if_neg (by decide), if_neg (by decide), show X8_isWithin 1 4 = true from by decide, if_pos rfl, c_isOne_7 b1 h5, show X8_mostOf 1 = nI 99 from rfl, c_within]
    by_cases q1 : inP y A.pp
    · by_cases q2 : inR z 99
      · rw [decide_eq_true q1, decide_eq_true q2, if_pos rfl, if_pos rfl, if_pos (And.intro q1 q2)]
      · rw [decide_eq_true q1, decide_eq_false q2, if_pos rfl, if_neg (by decide), if_neg (fun q => q2 q.2)]
    · rw [decide_eq_false q1, if_neg (by decide), if_neg (fun q => q1 q.1)]
  have e2 : ∀ s, RM A s → X9_set 1 y z s = if inP y A.pp ∧ inR z 99 then (if mInb y 5 = true then some (s.1 63 y.toNatClampNeg, sI s 63 y.toNatClampNeg z) else none) else some (-2, s) := by
    intro s b2
    unfold X9_set X9_set_j25 X9_set_j43 X9_set_j81 X9_set_j177
    rw [show X9_in (1 : Int32).toInt64 0 6 = true from by decide, if_pos rfl, if_neg (show ¬ (5 : Int32) ≤ 1 by decide), m_isOne b2 h5, if_neg (show ¬ (1 : Int32) = 6 by decide)]
    simp only [show ((1 : Int32) = 0) = False from by decide, show ((1 : Int32) = 1) = True from by decide, show ((1 : Int32) = 2) = False from by decide, show ((1 : Int32) = 3) = False from by decide, show ((1 : Int32) = 4) = False from by decide, show ((1 : Int32) = 5) = False from by decide, if_true, if_false]
    rw [show X9_in z.toInt64 0 99 = decide (inR z 99) from b_dec (m_inR z 99 99 rfl)]
    by_cases q1 : inP y A.pp
    · by_cases q2 : inR z 99
      · rw [decide_eq_true q1, decide_eq_true q2, if_pos rfl, if_pos rfl, if_pos (And.intro q1 q2)]
        split <;> rfl
      · rw [decide_eq_true q1, decide_eq_false q2, if_pos rfl, if_neg (by decide), if_neg (fun q => q2 q.2)]
    · rw [decide_eq_false q1, if_neg (by decide), if_neg (fun q => q1 q.1)]
  by_cases q : inP y A.pp ∧ inR z 99
  · obtain ⟨p, hp, rfl⟩ := inP_of q.1 (by omega)
    obtain ⟨v, hv9, rfl⟩ := inR_of q.2 (by omega)
    have g1 : X8_set 1 (nI p) (nI v) s = some (nI (A.yd p), sI s 9 (p * 6 + 1) (nI v)) := by
      rw [e1 s b1, if_pos q, ob (show X5_trait_7 (nI p) 1 s = some (nI (A.yd p)) from (c_trait_7 (w := 1) b1 h5 hp (by omega)).trans (congrArg some (b1.yd p hp))), ob (show X5_put_7 (nI p) 1 (nI v) s = some (sI s 9 (p * 6 + 1) (nI v)) from c_put_7 (w := 1) b1 h5 hp (by omega) (nI v))]
    have f1 := FR_X8_set _ _ _ _ _ g1
    have m1 := RM_fr b2 f1 (fun _ => rfl) (fun _ => rfl) (fun _ => rfl) (fun _ => rfl) (fun _ => rfl) (fun _ => rfl) (fun _ => rfl) (fun _ => rfl) (fun _ => rfl) rfl rfl rfl
    have g2 : X9_set 1 (nI p) (nI v) (sI s 9 (p * 6 + 1) (nI v)) = some (nI (A.yd p), sI (sI s 9 (p * 6 + 1) (nI v)) 63 p (nI v)) := by
      rw [e2 _ m1, if_pos q, if_pos (gl_inb (show p < 5 by omega) (by omega)), nl_cl (by omega), m1.yd p hp]
    have f2 := FR_X9_set _ _ _ _ _ g2
    refine ⟨_, _, _, g1, g2, L_now (A' := A.up 3 p v) hv f1 f2 rfl rfl (RS_fr (RS_put_yd b1 p v (by decide) (by decide) (by decide) (by decide)) f2 (fun _ => rfl) (fun _ => rfl) (fun _ => rfl) (fun _ => rfl) (fun _ => rfl)) (RM_put_yd m1 p v) ?_ (Nat.le_refl _) (fun _ _ => rfl)⟩
    obtain ⟨k1, k2, k3, k4, k5, k6, k7, k8, k9, k10, k11, k12, k13, k14, k15⟩ := b3
    refine ⟨k1, k2, k3, k4, k5, k6, k7, k8, ?_, k10, k11, k12, k13, k14, k15⟩
    intro q hq
    show (if q = p then v else A.yd q) ≤ 99
    split
    · exact hv9
    · exact k9 q hq
  · refine ⟨-2, s, s, ?_, ?_, hI⟩
    · rw [e1 s b1, if_neg q]
    · rw [e2 s b2, if_neg q]
theorem L_set2 {t : mTX} {s : mSG} (h : INV t s) (y z : Int32) : ∃ v s1 s2, X8_set 2 y z s = some (v, s1) ∧ X9_set 2 y z s1 = some (v, s2) ∧ INV t s2 := by
  have hI := h
  obtain ⟨tc, V, A, hk, K, ts, tp, sk, sn, si, hv⟩ := h
  have hv' := hv
  obtain ⟨⟨a1, a2, a3, a4, a5, a6⟩, ⟨b1, b2, b3⟩, _⟩ := hv'
  have h5 := b3.pp
  have e1 : ∀ s, RS 7 8 9 10 11 A s → X8_set 2 y z s = if inP y A.pp ∧ inR z 9 then (X5_trait_7 y 2 s).bind (fun r2 => (X5_put_7 y 2 z s).bind (fun r3 => some (r2, r3))) else some (-2, s) := by
    intro s b1
    unfold X8_set
    rw [if_neg (by decide), if_neg (by decide), show X8_isWithin 2 4 = true from by decide, if_pos rfl, c_isOne_7 b1 h5, show X8_mostOf 2 = nI 9 from rfl, c_within]
    by_cases q1 : inP y A.pp
    · by_cases q2 : inR z 9
      · rw [decide_eq_true q1, decide_eq_true q2, if_pos rfl, if_pos rfl, if_pos (And.intro q1 q2)]
      · rw [decide_eq_true q1, decide_eq_false q2, if_pos rfl, if_neg (by decide), if_neg (fun q => q2 q.2)]
    · rw [decide_eq_false q1, if_neg (by decide), if_neg (fun q => q1 q.1)]
  have e2 : ∀ s, RM A s → X9_set 2 y z s = if inP y A.pp ∧ inR z 9 then (if mInb y 5 = true then some (s.1 66 y.toNatClampNeg, sI s 66 y.toNatClampNeg z) else none) else some (-2, s) := by
    intro s b2
    unfold X9_set X9_set_j25 X9_set_j43 X9_set_j81 X9_set_j177
    rw [show X9_in (2 : Int32).toInt64 0 6 = true from by decide, if_pos rfl, if_neg (show ¬ (5 : Int32) ≤ 2 by decide), m_isOne b2 h5, if_neg (show ¬ (2 : Int32) = 6 by decide)]
    simp only [show ((2 : Int32) = 0) = False from by decide, show ((2 : Int32) = 1) = False from by decide, show ((2 : Int32) = 2) = True from by decide, show ((2 : Int32) = 3) = False from by decide, show ((2 : Int32) = 4) = False from by decide, show ((2 : Int32) = 5) = False from by decide, if_true, if_false]
    rw [show X9_in z.toInt64 0 9 = decide (inR z 9) from b_dec (m_inR z 9 9 rfl)]
    by_cases q1 : inP y A.pp
    · by_cases q2 : inR z 9
      · rw [decide_eq_true q1, decide_eq_true q2, if_pos rfl, if_pos rfl, if_pos (And.intro q1 q2)]
        split <;> rfl
      · rw [decide_eq_true q1, decide_eq_false q2, if_pos rfl, if_neg (by decide), if_neg (fun q => q2 q.2)]
    · rw [decide_eq_false q1, if_neg (by decide), if_neg (fun q => q1 q.1)]
  by_cases q : inP y A.pp ∧ inR z 9
  · obtain ⟨p, hp, rfl⟩ := inP_of q.1 (by omega)
    obtain ⟨v, hv9, rfl⟩ := inR_of q.2 (by omega)
    have g1 : X8_set 2 (nI p) (nI v) s = some (nI (A.wt p), sI s 9 (p * 6 + 2) (nI v)) := by
      rw [e1 s b1, if_pos q, ob (show X5_trait_7 (nI p) 2 s = some (nI (A.wt p)) from (c_trait_7 (w := 2) b1 h5 hp (by omega)).trans (congrArg some (b1.wt p hp))), ob (show X5_put_7 (nI p) 2 (nI v) s = some (sI s 9 (p * 6 + 2) (nI v)) from c_put_7 (w := 2) b1 h5 hp (by omega) (nI v))]
    have f1 := FR_X8_set _ _ _ _ _ g1
    have m1 := RM_fr b2 f1 (fun _ => rfl) (fun _ => rfl) (fun _ => rfl) (fun _ => rfl) (fun _ => rfl) (fun _ => rfl) (fun _ => rfl) (fun _ => rfl) (fun _ => rfl) rfl rfl rfl
    have g2 : X9_set 2 (nI p) (nI v) (sI s 9 (p * 6 + 2) (nI v)) = some (nI (A.wt p), sI (sI s 9 (p * 6 + 2) (nI v)) 66 p (nI v)) := by
      rw [e2 _ m1, if_pos q, if_pos (gl_inb (show p < 5 by omega) (by omega)), nl_cl (by omega), m1.wt p hp]
    have f2 := FR_X9_set _ _ _ _ _ g2
    refine ⟨_, _, _, g1, g2, L_now (A' := A.up 6 p v) hv f1 f2 rfl rfl (RS_fr (RS_put_wt b1 p v (by decide) (by decide) (by decide) (by decide)) f2 (fun _ => rfl) (fun _ => rfl) (fun _ => rfl) (fun _ => rfl) (fun _ => rfl)) (RM_put_wt m1 p v) ?_ (Nat.le_refl _) (fun _ _ => rfl)⟩
    obtain ⟨k1, k2, k3, k4, k5, k6, k7, k8, k9, k10, k11, k12, k13, k14, k15⟩ := b3
    refine ⟨k1, k2, k3, k4, k5, k6, k7, k8, k9, k10, k11, ?_, k13, k14, k15⟩
    intro q hq
    show (if q = p then v else A.wt q) ≤ 9
    split
    · exact hv9
    · exact k12 q hq
  · refine ⟨-2, s, s, ?_, ?_, hI⟩
    · rw [e1 s b1, if_neg q]
    · rw [e2 s b2, if_neg q]
theorem L_set3 {t : mTX} {s : mSG} (h : INV t s) (y z : Int32) : ∃ v s1 s2, X8_set 3 y z s = some (v, s1) ∧ X9_set 3 y z s1 = some (v, s2) ∧ INV t s2 := by
  have hI := h
  obtain ⟨tc, V, A, hk, K, ts, tp, sk, sn, si, hv⟩ := h
  have hv' := hv
  obtain ⟨⟨a1, a2, a3, a4, a5, a6⟩, ⟨b1, b2, b3⟩, _⟩ := hv'
  have h5 := b3.pp
  have e1 : ∀ s, RS 7 8 9 10 11 A s → X8_set 3 y z s = if inP y A.pp ∧ inR z 9 then (X5_trait_7 y 3 s).bind (fun r2 => (X5_put_7 y 3 z s).bind (fun r3 => some (r2, r3))) else some (-2, s) := by
    intro s b1
    unfold X8_set
    rw [if_neg (by decide), if_neg (by decide), show X8_isWithin 3 4 = true from by decide, if_pos rfl, c_isOne_7 b1 h5, show X8_mostOf 3 = nI 9 from rfl, c_within]
    by_cases q1 : inP y A.pp
    · by_cases q2 : inR z 9
      · rw [decide_eq_true q1, decide_eq_true q2, if_pos rfl, if_pos rfl, if_pos (And.intro q1 q2)]
      · rw [decide_eq_true q1, decide_eq_false q2, if_pos rfl, if_neg (by decide), if_neg (fun q => q2 q.2)]
    · rw [decide_eq_false q1, if_neg (by decide), if_neg (fun q => q1 q.1)]
  have e2 : ∀ s, RM A s → X9_set 3 y z s = if inP y A.pp ∧ inR z 9 then (if mInb y 5 = true then some (s.1 64 y.toNatClampNeg, sI s 64 y.toNatClampNeg z) else none) else some (-2, s) := by
    intro s b2
    unfold X9_set X9_set_j25 X9_set_j43 X9_set_j81 X9_set_j177
    rw [show X9_in (3 : Int32).toInt64 0 6 = true from by decide, if_pos rfl, if_neg (show ¬ (5 : Int32) ≤ 3 by decide), m_isOne b2 h5, if_neg (show ¬ (3 : Int32) = 6 by decide)]
    simp only [show ((3 : Int32) = 0) = False from by decide, show ((3 : Int32) = 1) = False from by decide, show ((3 : Int32) = 2) = False from by decide, show ((3 : Int32) = 3) = True from by decide, show ((3 : Int32) = 4) = False from by decide, show ((3 : Int32) = 5) = False from by decide, if_true, if_false]
    rw [show X9_in z.toInt64 0 9 = decide (inR z 9) from b_dec (m_inR z 9 9 rfl)]
    by_cases q1 : inP y A.pp
    · by_cases q2 : inR z 9
      · rw [decide_eq_true q1, decide_eq_true q2, if_pos rfl, if_pos rfl, if_pos (And.intro q1 q2)]
        split <;> rfl
      · rw [decide_eq_true q1, decide_eq_false q2, if_pos rfl, if_neg (by decide), if_neg (fun q => q2 q.2)]
    · rw [decide_eq_false q1, if_neg (by decide), if_neg (fun q => q1 q.1)]
  by_cases q : inP y A.pp ∧ inR z 9
  · obtain ⟨p, hp, rfl⟩ := inP_of q.1 (by omega)
    obtain ⟨v, hv9, rfl⟩ := inR_of q.2 (by omega)
    have g1 : X8_set 3 (nI p) (nI v) s = some (nI (A.ld p), sI s 9 (p * 6 + 3) (nI v)) := by
      rw [e1 s b1, if_pos q, ob (show X5_trait_7 (nI p) 3 s = some (nI (A.ld p)) from (c_trait_7 (w := 3) b1 h5 hp (by omega)).trans (congrArg some (b1.ld p hp))), ob (show X5_put_7 (nI p) 3 (nI v) s = some (sI s 9 (p * 6 + 3) (nI v)) from c_put_7 (w := 3) b1 h5 hp (by omega) (nI v))]
    have f1 := FR_X8_set _ _ _ _ _ g1
    have m1 := RM_fr b2 f1 (fun _ => rfl) (fun _ => rfl) (fun _ => rfl) (fun _ => rfl) (fun _ => rfl) (fun _ => rfl) (fun _ => rfl) (fun _ => rfl) (fun _ => rfl) rfl rfl rfl
    have g2 : X9_set 3 (nI p) (nI v) (sI s 9 (p * 6 + 3) (nI v)) = some (nI (A.ld p), sI (sI s 9 (p * 6 + 3) (nI v)) 64 p (nI v)) := by
      rw [e2 _ m1, if_pos q, if_pos (gl_inb (show p < 5 by omega) (by omega)), nl_cl (by omega), m1.ld p hp]
    have f2 := FR_X9_set _ _ _ _ _ g2
    refine ⟨_, _, _, g1, g2, L_now (A' := A.up 4 p v) hv f1 f2 rfl rfl (RS_fr (RS_put_ld b1 p v (by decide) (by decide) (by decide) (by decide)) f2 (fun _ => rfl) (fun _ => rfl) (fun _ => rfl) (fun _ => rfl) (fun _ => rfl)) (RM_put_ld m1 p v) ?_ (Nat.le_refl _) (fun _ _ => rfl)⟩
    obtain ⟨k1, k2, k3, k4, k5, k6, k7, k8, k9, k10, k11, k12, k13, k14, k15⟩ := b3
    refine ⟨k1, k2, k3, k4, k5, k6, k7, k8, k9, ?_, k11, k12, k13, k14, k15⟩
    intro q hq
    show (if q = p then v else A.ld q) ≤ 9
    split
    · exact hv9
    · exact k10 q hq
  · refine ⟨-2, s, s, ?_, ?_, hI⟩
    · rw [e1 s b1, if_neg q]
    · rw [e2 s b2, if_neg q]
theorem L_set4 {t : mTX} {s : mSG} (h : INV t s) (y z : Int32) : ∃ v s1 s2, X8_set 4 y z s = some (v, s1) ∧ X9_set 4 y z s1 = some (v, s2) ∧ INV t s2 := by
  have hI := h
  obtain ⟨tc, V, A, hk, K, ts, tp, sk, sn, si, hv⟩ := h
  have hv' := hv
  obtain ⟨⟨a1, a2, a3, a4, a5, a6⟩, ⟨b1, b2, b3⟩, _⟩ := hv'
  have h5 := b3.pp
  have e1 : ∀ s, RS 7 8 9 10 11 A s → X8_set 4 y z s = if inP y A.pp ∧ inR z 9 then (X5_trait_7 y 4 s).bind (fun r2 => (X5_put_7 y 4 z s).bind (fun r3 => some (r2, r3))) else some (-2, s) := by
    intro s b1
    unfold X8_set
    rw [if_neg (by decide), if_neg (by decide), show X8_isWithin 4 4 = true from by decide, if_pos rfl, c_isOne_7 b1 h5, show X8_mostOf 4 = nI 9 from rfl, c_within]
    by_cases q1 : inP y A.pp
    · by_cases q2 : inR z 9
      · rw [decide_eq_true q1, decide_eq_true q2, if_pos rfl, if_pos rfl, if_pos (And.intro q1 q2)]
      · rw [decide_eq_true q1, decide_eq_false q2, if_pos rfl, if_neg (by decide), if_neg (fun q => q2 q.2)]
    · rw [decide_eq_false q1, if_neg (by decide), if_neg (fun q => q1 q.1)]
  have e2 : ∀ s, RM A s → X9_set 4 y z s = if inP y A.pp ∧ inR z 9 then (if mInb y 5 = true then some (s.1 62 y.toNatClampNeg, sI s 62 y.toNatClampNeg z) else none) else some (-2, s) := by
    intro s b2
    unfold X9_set X9_set_j25 X9_set_j43 X9_set_j81 X9_set_j177
    rw [show X9_in (4 : Int32).toInt64 0 6 = true from by decide, if_pos rfl, if_neg (show ¬ (5 : Int32) ≤ 4 by decide), m_isOne b2 h5, if_neg (show ¬ (4 : Int32) = 6 by decide)]
    simp only [show ((4 : Int32) = 0) = False from by decide, show ((4 : Int32) = 1) = False from by decide, show ((4 : Int32) = 2) = False from by decide, show ((4 : Int32) = 3) = False from by decide, show ((4 : Int32) = 4) = True from by decide, show ((4 : Int32) = 5) = False from by decide, if_true, if_false]
    rw [show X9_in z.toInt64 0 9 = decide (inR z 9) from b_dec (m_inR z 9 9 rfl)]
    by_cases q1 : inP y A.pp
    · by_cases q2 : inR z 9
      · rw [decide_eq_true q1, decide_eq_true q2, if_pos rfl, if_pos rfl, if_pos (And.intro q1 q2)]
        split <;> rfl
      · rw [decide_eq_true q1, decide_eq_false q2, if_pos rfl, if_neg (by decide), if_neg (fun q => q2 q.2)]
    · rw [decide_eq_false q1, if_neg (by decide), if_neg (fun q => q1 q.1)]
  by_cases q : inP y A.pp ∧ inR z 9
  · obtain ⟨p, hp, rfl⟩ := inP_of q.1 (by omega)
    obtain ⟨v, hv9, rfl⟩ := inR_of q.2 (by omega)
    have g1 : X8_set 4 (nI p) (nI v) s = some (nI (A.nu p), sI s 9 (p * 6 + 4) (nI v)) := by
      rw [e1 s b1, if_pos q, ob (show X5_trait_7 (nI p) 4 s = some (nI (A.nu p)) from (c_trait_7 (w := 4) b1 h5 hp (by omega)).trans (congrArg some (b1.nu p hp))), ob (show X5_put_7 (nI p) 4 (nI v) s = some (sI s 9 (p * 6 + 4) (nI v)) from c_put_7 (w := 4) b1 h5 hp (by omega) (nI v))]
    have f1 := FR_X8_set _ _ _ _ _ g1
    have m1 := RM_fr b2 f1 (fun _ => rfl) (fun _ => rfl) (fun _ => rfl) (fun _ => rfl) (fun _ => rfl) (fun _ => rfl) (fun _ => rfl) (fun _ => rfl) (fun _ => rfl) rfl rfl rfl
    have g2 : X9_set 4 (nI p) (nI v) (sI s 9 (p * 6 + 4) (nI v)) = some (nI (A.nu p), sI (sI s 9 (p * 6 + 4) (nI v)) 62 p (nI v)) := by
      rw [e2 _ m1, if_pos q, if_pos (gl_inb (show p < 5 by omega) (by omega)), nl_cl (by omega), m1.nu p hp]
    have f2 := FR_X9_set _ _ _ _ _ g2
    refine ⟨_, _, _, g1, g2, L_now (A' := A.up 2 p v) hv f1 f2 rfl rfl (RS_fr (RS_put_nu b1 p v (by decide) (by decide) (by decide) (by decide)) f2 (fun _ => rfl) (fun _ => rfl) (fun _ => rfl) (fun _ => rfl) (fun _ => rfl)) (RM_put_nu m1 p v) ?_ (Nat.le_refl _) (fun _ _ => rfl)⟩
    obtain ⟨k1, k2, k3, k4, k5, k6, k7, k8, k9, k10, k11, k12, k13, k14, k15⟩ := b3
    refine ⟨k1, k2, k3, k4, k5, k6, k7, ?_, k9, k10, k11, k12, k13, k14, k15⟩
    intro q hq
    show (if q = p then v else A.nu q) ≤ 9
    split
    · exact hv9
    · exact k8 q hq
  · refine ⟨-2, s, s, ?_, ?_, hI⟩
    · rw [e1 s b1, if_neg q]
    · rw [e2 s b2, if_neg q]
theorem L_set5 {t : mTX} {s : mSG} (h : INV t s) (y z : Int32) : ∃ v s1 s2, X8_set 5 y z s = some (v, s1) ∧ X9_set 5 y z s1 = some (v, s2) ∧ INV t s2 := by
  have hI := h
  obtain ⟨tc, V, A, hk, K, ts, tp, sk, sn, si, hv⟩ := h
  have hv' := hv
  obtain ⟨⟨a1, a2, a3, a4, a5, a6⟩, ⟨b1, b2, b3⟩, _⟩ := hv'
  have e1 : ∀ s, X8_set 5 y z s = if inR z 9999 then some (s.1 7 5, sI s 7 5 z) else some (-2, s) := by
    intro s
    unfold X8_set
    rw [if_pos rfl, show X8_isWithin z 9999 = _ from c_within z 9999]
    by_cases q : inR z 9999
    · rw [decide_eq_true q, if_pos rfl, if_pos q]
    · rw [decide_eq_false q, if_neg (by decide), if_neg q]
  have e2 : ∀ s, X9_set 5 y z s = if inR z 9999 then some (s.1 56 16, sI s 56 16 z) else some (-2, s) := by
    intro s
    unfold X9_set X9_set_j25 X9_set_j43 X9_set_j81 X9_set_j177
    rw [show X9_in (5 : Int32).toInt64 0 6 = true from by decide, if_pos rfl, if_pos (show (5 : Int32) ≤ 5 by decide), if_neg (show ¬ (5 : Int32) = 6 by decide)]
    simp only [show ((5 : Int32) = 0) = False from by decide, show ((5 : Int32) = 1) = False from by decide, show ((5 : Int32) = 2) = False from by decide, show ((5 : Int32) = 3) = False from by decide, show ((5 : Int32) = 4) = False from by decide, show ((5 : Int32) = 5) = True from by decide, if_true, if_false]
    rw [show X9_in z.toInt64 0 9999 = decide (inR z 9999) from b_dec (m_inR z 9999 9999 rfl)]
    by_cases q : inR z 9999
    · rw [decide_eq_true q, if_pos rfl, if_pos q]
    · rw [decide_eq_false q, if_neg (by decide), if_neg q]
  by_cases q : inR z 9999
  · obtain ⟨v, hv9, rfl⟩ := inR_of q (by omega)
    have g1 : X8_set 5 y (nI v) s = some (nI A.hr, sI s 7 5 (nI v)) := by rw [e1, if_pos q, b1.hr]
    have f1 := FR_X8_set _ _ _ _ _ g1
    have m1 := RM_fr b2 f1 (fun _ => rfl) (fun _ => rfl) (fun _ => rfl) (fun _ => rfl) (fun _ => rfl) (fun _ => rfl) (fun _ => rfl) (fun _ => rfl) (fun _ => rfl) rfl rfl rfl
    have g2 : X9_set 5 y (nI v) (sI s 7 5 (nI v)) = some (nI A.hr, sI (sI s 7 5 (nI v)) 56 16 (nI v)) := by rw [e2, if_pos q, m1.hr]
    have f2 := FR_X9_set _ _ _ _ _ g2
    refine ⟨_, _, _, g1, g2, L_now (A' := A.up 10 0 v) hv f1 f2 rfl rfl (RS_fr (RS_put_hr b1 v (by decide) (by decide) (by decide) (by decide)) f2 (fun _ => rfl) (fun _ => rfl) (fun _ => rfl) (fun _ => rfl) (fun _ => rfl)) (RM_put_hr m1 v) ?_ (Nat.le_refl _) (fun _ _ => rfl)⟩
    obtain ⟨k1, k2, k3⟩ := b3
    exact ⟨k1, hv9, k3⟩
  · refine ⟨-2, s, s, ?_, ?_, hI⟩
    · rw [e1, if_neg q]
    · rw [e2, if_neg q]
theorem L_set6 {t : mTX} {s : mSG} (h : INV t s) (y z : Int32) : ∃ v s1 s2, X8_set 6 y z s = some (v, s1) ∧ X9_set 6 y z s1 = some (v, s2) ∧ INV t s2 := by
  have hI := h
  obtain ⟨tc, V, A, hk, K, ts, tp, sk, sn, si, hv⟩ := h
  have hv' := hv
  obtain ⟨⟨a1, a2, a3, a4, a5, a6⟩, ⟨b1, b2, b3⟩, _⟩ := hv'
  have e1 : ∀ s, X8_set 6 y z s = if inR y 23 ∧ inR z 9 then (if mInb y 24 = true then some (s.1 11 y.toNatClampNeg, sI s 11 y.toNatClampNeg z) else none) else some (-2, s) := by
    intro s
    unfold X8_set
    rw [if_neg (by decide), if_pos rfl, show X8_isWithin y 23 = _ from c_within y 23, show X8_isWithin z 9 = _ from c_within z 9]
    by_cases q1 : inR y 23
    · by_cases q2 : inR z 9
      · rw [decide_eq_true q1, decide_eq_true q2, if_pos rfl, if_pos rfl, if_pos (And.intro q1 q2)]
      · rw [decide_eq_true q1, decide_eq_false q2, if_pos rfl, if_neg (by decide), if_neg (fun q => q2 q.2)]
    · rw [decide_eq_false q1, if_neg (by decide), if_neg (fun q => q1 q.1)]
  have e2 : ∀ s, X9_set 6 y z s = if inR y 23 ∧ inR z 9 then (if mInb y 24 = true then some (s.1 68 y.toNatClampNeg, sI s 68 y.toNatClampNeg z) else none) else some (-2, s) := by
    intro s
    unfold X9_set X9_set_j25 X9_set_j43 X9_set_j81 X9_set_j177
    rw [show X9_in (6 : Int32).toInt64 0 6 = true from by decide, if_pos rfl, if_pos (show (5 : Int32) ≤ 6 by decide), if_pos rfl]
    simp only [show ((6 : Int32) = 0) = False from by decide, show ((6 : Int32) = 1) = False from by decide, show ((6 : Int32) = 2) = False from by decide, show ((6 : Int32) = 3) = False from by decide, show ((6 : Int32) = 4) = False from by decide, show ((6 : Int32) = 5) = False from by decide, if_false]
    rw [show X9_in y.toInt64 0 23 = decide (inR y 23) from b_dec (m_inR y 23 23 rfl), show X9_in z.toInt64 0 9 = decide (inR z 9) from b_dec (m_inR z 9 9 rfl)]
    by_cases q1 : inR y 23
    · by_cases q2 : inR z 9
      · rw [decide_eq_true q1, decide_eq_true q2, if_pos rfl, if_pos rfl, if_pos (And.intro q1 q2)]
        split <;> rfl
      · rw [decide_eq_true q1, decide_eq_false q2, if_pos rfl, if_neg (by decide), if_neg (fun q => q2 q.2)]
    · rw [decide_eq_false q1, if_neg (by decide), if_neg (fun q => q1 q.1)]
  by_cases q : inR y 23 ∧ inR z 9
  · obtain ⟨p, hp, rfl⟩ := inR_of q.1 (by omega)
    obtain ⟨v, hv9, rfl⟩ := inR_of q.2 (by omega)
    have g1 : X8_set 6 (nI p) (nI v) s = some (nI (A.rn p), sI s 11 p (nI v)) := by
      rw [e1, if_pos q, if_pos (gl_inb (show p < 24 by omega) (by omega)), nl_cl (by omega), b1.rn p (by omega)]
    have f1 := FR_X8_set _ _ _ _ _ g1
    have m1 := RM_fr b2 f1 (fun _ => rfl) (fun _ => rfl) (fun _ => rfl) (fun _ => rfl) (fun _ => rfl) (fun _ => rfl) (fun _ => rfl) (fun _ => rfl) (fun _ => rfl) rfl rfl rfl
    have g2 : X9_set 6 (nI p) (nI v) (sI s 11 p (nI v)) = some (nI (A.rn p), sI (sI s 11 p (nI v)) 68 p (nI v)) := by
      rw [e2, if_pos q, if_pos (gl_inb (show p < 24 by omega) (by omega)), nl_cl (by omega), m1.rn p (by omega)]
    have f2 := FR_X9_set _ _ _ _ _ g2
    refine ⟨_, _, _, g1, g2, L_now (A' := A.up 8 p v) hv f1 f2 rfl rfl (RS_fr (RS_put_rn b1 p v (by decide) (by decide) (by decide) (by decide)) f2 (fun _ => rfl) (fun _ => rfl) (fun _ => rfl) (fun _ => rfl) (fun _ => rfl)) (RM_put_rn m1 p v) ?_ (Nat.le_refl _) (fun _ _ => rfl)⟩
    obtain ⟨k1, k2, k3, k4, k5, k6, k7, k8, k9, k10, k11, k12, k13, k14, k15⟩ := b3
    refine ⟨k1, k2, k3, k4, k5, k6, k7, k8, k9, k10, k11, k12, k13, k14, ?_⟩
    intro q
    show (if q = p then v else A.rn q) ≤ 9
    split
    · exact hv9
    · exact k15 q
  · refine ⟨-2, s, s, ?_, ?_, hI⟩
    · rw [e1, if_neg q]
    · rw [e2, if_neg q]
theorem L_set {t : mTX} {s : mSG} (h : INV t s) (x y z : Int32) : ∃ v s1 s2, X8_set x y z s = some (v, s1) ∧ X9_set x y z s1 = some (v, s2) ∧ INV t s2 := by
  by_cases q : inR x 6
  · obtain ⟨k, hk, rfl⟩ := inR_of q (by omega)
    have hc : k = 0 ∨ k = 1 ∨ k = 2 ∨ k = 3 ∨ k = 4 ∨ k = 5 ∨ k = 6 := by omega
    rcases hc with rfl | rfl | rfl | rfl | rfl | rfl | rfl
    · exact L_set0 h y z
    · exact L_set1 h y z
    · exact L_set2 h y z
    · exact L_set3 h y z
    · exact L_set4 h y z
    · exact L_set5 h y z
    · exact L_set6 h y z
  · refine ⟨-2, s, s, ?_, ?_, h⟩
    · unfold X8_set
      rw [if_neg (fun e => q (by rw [e]; decide)), if_neg (fun e => q (by rw [e]; decide)), show X8_isWithin x 4 = _ from c_within x 4, decide_eq_false (fun g => q ⟨g.1, Int32.le_trans g.2 (by decide)⟩)]
      rfl
    · unfold X9_set
      rw [show X9_in x.toInt64 0 6 = decide (inR x 6) from b_dec (m_inR x 6 6 rfl), decide_eq_false q]
      rfl
