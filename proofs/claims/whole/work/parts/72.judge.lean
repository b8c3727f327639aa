/-! judge -/
/-- a row of a told way goes: who, whither -/
abbrev jOK (V : mVT) (B : Ab) (x y : Int32) : Prop := inP x B.pp ∧ inR y 7 ∧ aH V B x.toNatClampNeg y.toNatClampNeg ≠ 0
def jRes (V : mVT) (g : Nat → Int32) : Nat → Nat → Ab → Int32
  | 0, _, _ => -1
  | m + 1, r, B => if jOK V B (g (2 * r)) (g (2 * r + 1)) then jRes V g m (r + 1) (aMove V B (g (2 * r)).toNatClampNeg (g (2 * r + 1)).toNatClampNeg) else nI r
theorem mW_jmove {k : Nat} (hk : k < 4) (j : Nat) : mW W_X8_moves_17 (45 + 2 * k) j = false ∧ mW W_X8_moves_17 (46 + 2 * k) j = false := by
  have hc : k = 0 ∨ k = 1 ∨ k = 2 ∨ k = 3 := by omega
  rcases hc with rfl | rfl | rfl | rfl <;> exact ⟨rfl, rfl⟩
theorem mW_jbec {k : Nat} (hk : k < 4) (j : Nat) : mW W_X5_become_17_7 (45 + 2 * k) j = false ∧ mW W_X5_become_17_7 (46 + 2 * k) j = false := by
  have hc : k = 0 ∨ k = 1 ∨ k = 2 ∨ k = 3 := by omega
  rcases hc with rfl | rfl | rfl | rfl <;> exact ⟨rfl, rfl⟩
theorem half_le {sz : Nat} (hz : sz ≤ 40) {r : Nat} (hr : r ≤ 100) : (nI sz / 2 ≤ nI r) = (sz / 2 ≤ r) := by
  rw [show nI sz / 2 = nI (sz / 2) from nl_div (d := 2) (by omega) (by omega) (by omega), nl_le (by omega) (by omega)]
theorem c_judgeL {t : mTX} {tc k sz : Nat} {V : mVT} {g : Nat → Int32} (hk : k < 4) (hz : sz ≤ 40) (h6 : tc ≤ 6) : ∀ (m r N : Nat) (B : Ab) (s : mSG), r + m = sz / 2 → m < N → CJ t tc V B s → AbOK B tc → CS k sz g s → ∃ e, iter (fun v : Int32 × mSG => X8_judge_b53 t (45 + 2 * k) v.1 v.2) N (nI r, s) = some e ∧ ∃ s', Sum.elim (fun e0 : Int32 × mSG => some (e0.1, e0.2)) (fun e1 => some ((-1 : Int32), e1)) e = some (jRes V g m r B, s') := by
  intro m
  induction m with
  | zero =>
    intro r N B s hr hN h ok hs
    refine ⟨.inr s, it_r (by omega) ?_, s, rfl⟩
    show X8_judge_b53 t (45 + 2 * k) (nI r) s = _
    unfold X8_judge_b53
    rw [if_pos (kS hk).1, hs.1, if_pos ((half_le hz (by omega)).mpr (by omega))]
  | succ m ih =>
    intro r N B s hr hN h ok hs
    have base : ∀ o, (if X5_isOne_17 (g (2 * r)) s = true then (if X8_isStone (g (2 * r + 1)) = true then (X8_moves_17 t (g (2 * r)) (g (2 * r + 1)) s).bind (fun r8 => if r8.1 = true then some (.inl (nI (r + 1), r8.2)) else some (.inr (.inl (nI r, r8.2)))) else some (.inr (.inl (nI r, s)))) else some (.inr (.inl (nI r, s)))) = o → X8_judge_b53 t (45 + 2 * k) (nI r) s = o := by
      intro o ho
      rw [← ho]
      unfold X8_judge_b53
      rw [if_pos (kS hk).1, hs.1, if_neg (fun q => by have := (half_le hz (by omega)).mp q; omega), if_pos (kS hk).1, show (2 : Int32) * nI r = nI (2 * r) from pk_mul 2 r, ob (c_item hk hz hs (show 2 * r < sz by omega)), if_pos (kS hk).1, nI_1, ob (c_item hk hz hs (show 2 * r + 1 < sz by omega)), nI_1]
    by_cases q : jOK V B (g (2 * r)) (g (2 * r + 1))
    · obtain ⟨q1, q2, q3⟩ := q
      obtain ⟨p, hp, ep⟩ := inP_of q1 (by have := ok.pp; omega)
      obtain ⟨b, hb, eb⟩ := inR_of q2 (by omega)
      rw [ep, eb, nl_cl (by have := ok.pp; omega), nl_cl (by omega)] at q3
      obtain ⟨s1, e1, j1⟩ := c_jmove h6 h ok hp hb
      have f1 := FR_X8_moves_17 _ _ _ _ _ e1
      obtain ⟨e, he, s', hs'⟩ := ih (r + 1) (N - 1) (aMove V B p b) s1 (by omega) (by omega) j1 (aMove_ok ok hb) (CS_fr hs f1 (mW_jmove hk))
      refine ⟨e, ?_, s', ?_⟩
      · rw [it_l (by omega) (y := (nI (r + 1), s1)) ?_]
        · exact he
        · refine base _ ?_
          rw [c_isOne_17 h.2.2 ok.pp, decide_eq_true q1, if_pos rfl, c_isStone, decide_eq_true q2, if_pos rfl, ep, eb, ob e1, decide_eq_true q3]
          rfl
      · rw [hs']
        show _ = some ((if jOK V B (g (2 * r)) (g (2 * r + 1)) then jRes V g m (r + 1) (aMove V B (g (2 * r)).toNatClampNeg (g (2 * r + 1)).toNatClampNeg) else nI r), s')
        rw [if_pos ⟨q1, q2, by rw [ep, eb, nl_cl (by have := ok.pp; omega), nl_cl (by omega)]; exact q3⟩, ep, eb, nl_cl (by have := ok.pp; omega), nl_cl (by omega)]
    · have eq : jRes V g (m + 1) r B = nI r := if_neg q
      rw [eq]
      by_cases q1 : inP (g (2 * r)) B.pp
      · by_cases q2 : inR (g (2 * r + 1)) 7
        · obtain ⟨p, hp, ep⟩ := inP_of q1 (by have := ok.pp; omega)
          obtain ⟨b, hb, eb⟩ := inR_of q2 (by omega)
          have q3 : ¬ aH V B p b ≠ 0 := fun q3 => q ⟨q1, q2, by rw [ep, eb, nl_cl (by have := ok.pp; omega), nl_cl (by omega)]; exact q3⟩
          obtain ⟨s1, e1, j1⟩ := c_jmove h6 h ok hp hb
          refine ⟨.inl (nI r, s1), it_r (by omega) (base _ ?_), s1, rfl⟩
          rw [c_isOne_17 h.2.2 ok.pp, decide_eq_true q1, if_pos rfl, c_isStone, decide_eq_true q2, if_pos rfl, ep, eb, ob e1, decide_eq_false q3]
          rfl
        · refine ⟨.inl (nI r, s), it_r (by omega) (base _ ?_), s, rfl⟩
          rw [c_isOne_17 h.2.2 ok.pp, decide_eq_true q1, if_pos rfl, c_isStone, decide_eq_false q2]
          rfl
      · refine ⟨.inl (nI r, s), it_r (by omega) (base _ ?_), s, rfl⟩
        rw [c_isOne_17 h.2.2 ok.pp, decide_eq_false q1]
        rfl
theorem m_judgeL {t : mTX} {tc k sz : Nat} {V : mVT} {A : Ab} {g : Nat → Int32} (hk : k < 4) (hz : sz ≤ 40) : ∀ (m r N : Nat) (B : Ab) (s : mSG), r + m = sz / 2 → m + 1 < N → MJ t tc V A B s → dP tc A B → MS k sz g s → ∃ e, iter (fun v : Int32 × Int32 × mSG => X9_judge_b45 (nI k) v.1 v.2.1 v.2.2) N (-1, nI r, s) = some e ∧ (e.1 = jRes V g m r B ∧ ∃ B', MJ t tc V A B' e.2 ∧ dP tc A B') := by
  intro m
  induction m with
  | zero =>
    intro r N B s hr hN h hP hs
    refine ⟨(-1, s), it_r (by omega) ?_, rfl, B, h, hP⟩
    show X9_judge_b45 (nI k) (-1) (nI r) s = _
    unfold X9_judge_b45
    rw [if_pos (gl_inb hk (by omega)), nl_cl (by omega), hs.1, if_pos ((half_le hz (by omega)).mpr (by omega))]
  | succ m ih =>
    intro r N B s hr hN h hP hs
    have ok := hP.1
    have h5 := ok.pp
    have base : ∀ o, (if X9_isOne (g (2 * r)) s = true then (if X9_isStone (g (2 * r + 1)) = true then (X9_goes (g (2 * r)) (g (2 * r + 1)) s).bind (fun r10 => if r10.1 = true then some (Sum.inl ((-1 : Int32), nI (r + 1), r10.2)) else some (.inl (nI r, nI (r + 1), r10.2))) else some (.inl (nI r, nI (r + 1), s))) else some (.inl (nI r, nI (r + 1), s))) = o → X9_judge_b45 (nI k) (-1) (nI r) s = o := by
      intro o ho
      rw [← ho]
      unfold X9_judge_b45 X9_judge_j122_45 X9_judge_j124_45
      rw [if_pos (gl_inb hk (by omega)), nl_cl (show k < 2147483648 by omega), hs.1, if_neg (fun q => by have := (half_le hz (by omega)).mp q; omega), if_pos rfl, show (40 : Int32) * nI k = nI (40 * k) from pk_mul 40 k, show (2 : Int32) * nI r = nI (2 * r) from pk_mul 2 r, nI_add, nI_1, if_pos (gl_inb (show 40 * k + 2 * r < 160 by omega) (by omega)), if_pos (gl_inb (show 40 * k + 2 * r + 1 < 160 by omega) (by omega)), nl_cl (by omega), nl_cl (by omega), show 40 * k + 2 * r + 1 = 40 * k + (2 * r + 1) by omega, hs.2 _ (by omega), hs.2 _ (by omega), nI_1]
    have stop : ∀ (B' : Ab) (s' : mSG), MJ t tc V A B' s' → dP tc A B' → MS k sz g s' → X9_judge_b45 (nI k) (-1) (nI r) s = some (.inl (nI r, nI (r + 1), s')) → ¬ jOK V B (g (2 * r)) (g (2 * r + 1)) → ∃ e, iter (fun v : Int32 × Int32 × mSG => X9_judge_b45 (nI k) v.1 v.2.1 v.2.2) N (-1, nI r, s) = some e ∧ (e.1 = jRes V g (m + 1) r B ∧ ∃ B', MJ t tc V A B' e.2 ∧ dP tc A B') := by
      intro B' s' hB hPB hsB hstep hno
      refine ⟨(nI r, s'), ?_, (if_neg hno).symm, B', hB, hPB⟩
      rw [it_l (by omega) hstep]
      refine it_r (by omega) ?_
      show X9_judge_b45 (nI k) (nI r) (nI (r + 1)) s' = _
      unfold X9_judge_b45
      rw [if_pos (gl_inb hk (by omega)), nl_cl (show k < 2147483648 by omega), hsB.1, if_neg (show ¬ nI r = -1 from gl_neN (b := 1) rfl (by omega) (by omega) (by omega))]
      split <;> rfl
    by_cases q1 : inP (g (2 * r)) B.pp
    · by_cases q2 : inR (g (2 * r + 1)) 7
      · obtain ⟨p, hp, ep⟩ := inP_of q1 (by omega)
        obtain ⟨b, hb, eb⟩ := inR_of q2 (by omega)
        obtain ⟨s1, e1, j1⟩ := m_jgoes h ok hp hb
        have f1 := FR_X9_goes _ _ _ _ e1
        have ms1 := MS_fr hs f1 (fun _ => rfl) (fun _ => rfl)
        by_cases q3 : aH V B p b ≠ 0
        · obtain ⟨e, he, hv, hB⟩ := ih (r + 1) (N - 1) (aMove V B p b) s1 (by omega) (by omega) j1 (dP_move hP hb) ms1
          refine ⟨e, ?_, ?_, hB⟩
          · rw [it_l (by omega) (y := ((-1 : Int32), nI (r + 1), s1)) ?_]
            · exact he
            · refine base _ ?_
              rw [m_isOne h.2.2.1 h5, decide_eq_true q1, if_pos rfl, m_isStone, decide_eq_true q2, if_pos rfl, ep, eb, ob e1, decide_eq_true q3]
              rfl
          · rw [hv]
            show _ = (if jOK V B (g (2 * r)) (g (2 * r + 1)) then jRes V g m (r + 1) (aMove V B (g (2 * r)).toNatClampNeg (g (2 * r + 1)).toNatClampNeg) else nI r)
            rw [if_pos ⟨q1, q2, by rw [ep, eb, nl_cl (by omega), nl_cl (by omega)]; exact q3⟩, ep, eb, nl_cl (by omega), nl_cl (by omega)]
        · refine stop _ s1 j1 (dP_move hP hb) ms1 (base _ ?_) (fun qq => q3 (by have q4 := qq.2.2; rw [ep, eb, nl_cl (by omega), nl_cl (by omega)] at q4; exact q4))
          rw [m_isOne h.2.2.1 h5, decide_eq_true q1, if_pos rfl, m_isStone, decide_eq_true q2, if_pos rfl, ep, eb, ob e1, decide_eq_false q3]
          rfl
      · refine stop B s h hP hs (base _ ?_) (fun qq => q2 qq.2.1)
        rw [m_isOne h.2.2.1 h5, decide_eq_true q1, if_pos rfl, m_isStone, decide_eq_false q2]
        rfl
    · refine stop B s h hP hs (base _ ?_) (fun qq => q1 qq.1)
      rw [m_isOne h.2.2.1 h5, decide_eq_false q1]
      rfl
theorem L_judge {t : mTX} {s : mSG} (h : INV t s) (x : Int32) : ∃ v s1 s2, X8_judge t x s = some (v, s1) ∧ X9_judge x s1 = some (v, s2) ∧ INV t s2 := by
  have hI := h
  obtain ⟨tc, V, A, hk, K, ts, tp, sk, sn, si, hv⟩ := h
  have hw := hv
  obtain ⟨⟨a1, a2, a3, a4, a5, a6⟩, ⟨b1, b2, b3⟩, _, _, e, _, _⟩ := hw
  by_cases q : inR x 3
  · obtain ⟨k, hk3, rfl⟩ := inR_of q (by omega)
    have hk4 : k < 4 := by omega
    have base8 : X8_judge t (nI k) s = (X4_isMissing t (45 + 2 * k) s).bind (fun r2 => if r2 = true then some ((-11), s) else if (mKl (LAY t) (45 + 2 * k)).1 = 3 then (if ((s.1 (45 + 2 * k) 2) - (s.1 (45 + 2 * k) 2) / 2 * 2) = 0 then (X5_become_17_7 s).bind (fun r4 => (X8_judge_l53 t (45 + 2 * k) (0, r4)).bind (fun e53 => Sum.elim (fun e53_0 => some (e53_0.1, e53_0.2)) (fun e53_1 => some ((-1), e53_1)) e53)) else some ((-2), s)) else none) := by
      unfold X8_judge
      rw [show X8_isWithin (nI k) 3 = _ from c_within (nI k) 3, decide_eq_true q, if_pos rfl, if_pos (gl_inb hk4 (by omega)), nl_cl (show k < 2147483648 by omega), ob (e k hk4).1, if_pos (kS hk4).1]
    have base9 : ∀ s0 : mSG, X9_judge (nI k) s0 = if s0.1 80 k = 0 then some (-11, s0) else if ((s0.1 82 k) - (s0.1 82 k) / 2 * 2) = 1 then some (-2, s0) else (X9_laysAside s0).bind (fun r4 => (X9_judge_l45 (nI k) ((-1), 0, r4)).bind (fun e45 => X9_judge_j130 e45.1 e45.2)) := fun s0 => by
      unfold X9_judge
      rw [m_isSheet, decide_eq_true q, if_pos rfl, if_pos (gl_inb hk4 (by omega)), nl_cl (show k < 2147483648 by omega)]
    rcases (e k hk4).2 with ⟨c1, c2, c3⟩ | ⟨c1, c2, c3, c4, c5, c6, c7, c8, c9⟩
    · refine ⟨-11, s, s, ?_, ?_, hI⟩
      · rw [base8, ob (c_missY hk4 c2)]
        rfl
      · rw [base9, if_pos c3]
    · have hr : nI (sn k) - nI (sn k) / 2 * 2 = nI (sn k % 2) := nl_rem (d := 2) (by omega) (by omega) (by omega)
      by_cases q2 : sn k % 2 = 0
      · have cs : CS k (sn k) (si k) s := ⟨c5, fun i hi => (c9 i hi).1⟩
        have ms : MS k (sn k) (si k) s := ⟨c8, fun i hi => (c9 i hi).2⟩
        obtain ⟨s1, e1, r1⟩ := c_bec_17_7 b1 b3.pp
        have f0 := FR_X5_become_17_7 _ _ e1
        have j1 : CJ t tc V A s1 := ⟨CT_fr a1 f0 rfl, (f0 6 11 rfl).1.trans a3, r1⟩
        obtain ⟨e2, he2, s2, hs2⟩ := c_judgeL (t := t) (V := V) (g := si k) hk4 c3 a6 (sn k / 2) 0 mFU A s1 (by omega) (by unfold mFU; omega) j1 b3 (CS_fr cs f0 (mW_jbec hk4))
        have x1 : X8_judge t (nI k) s = some (jRes V (si k) (sn k / 2) 0 A, s2) := by
          rw [base8, ob (c_missN hk4 c2 c4), if_neg (by decide), if_pos (kS hk4).1, c5, hr, q2, if_pos (by decide), ob e1, ob (show X8_judge_l53 t (45 + 2 * k) (0, s1) = some e2 from he2)]
          exact hs2
        have f1 := FR_X8_judge _ _ _ _ x1
        obtain ⟨⟨a1', a2', _⟩, ⟨b1', b2', _⟩, _⟩ := IV_fr hv f1 rfl
        obtain ⟨s3, e3, j3⟩ := m_jaside a1' a2' b2' b3
        have f3 := FR_X9_laysAside _ _ e3
        have ms3 := MS_fr (MS_fr ms f1 (fun _ => rfl) (fun _ => rfl)) f3 (fun _ => rfl) (fun _ => rfl)
        obtain ⟨⟨v4, s4⟩, e4, w4, B', j4, p4⟩ := m_judgeL (t := t) (g := si k) hk4 c3 (sn k / 2) 0 mFU A s3 (by omega) (by unfold mFU; omega) j3 ⟨b3, fun _ _ _ _ _ => rfl⟩ ms3
        have w4 : v4 = _ := w4
        subst w4
        obtain ⟨s5, e5, r5⟩ := m_jback j4 p4
        have x2 : X9_judge (nI k) s2 = some (jRes V (si k) (sn k / 2) 0 A, s5) := by
          rw [base9, (f1 80 k rfl).1, c6, if_neg (by decide), (f1 82 k rfl).1, c8, hr, q2, if_neg (by decide), ob e3, ob (show X9_judge_l45 (nI k) ((-1), 0, s3) = _ from e4)]
          unfold X9_judge_j130
          rw [ob e5]
        have f2 := FR_X9_judge _ _ _ x2
        have c2' := RS_fr b1' f2 (fun _ => rfl) (fun _ => rfl) (fun _ => rfl) (fun _ => rfl) (fun _ => rfl)
        exact ⟨_, s2, s5, x1, x2, L_now hv f1 f2 rfl rfl c2' r5 b3 (Nat.le_refl _) (fun _ _ => rfl)⟩
      · have q3 : sn k % 2 = 1 := by omega
        refine ⟨-2, s, s, ?_, ?_, hI⟩
        · rw [base8, ob (c_missN hk4 c2 c4), if_neg (by decide), if_pos (kS hk4).1, c5, hr, q3, if_neg (by decide)]
        · rw [base9, c6, if_neg (by decide), c8, hr, q3, if_pos (by decide)]
  · refine ⟨-2, s, s, ?_, ?_, hI⟩
    · unfold X8_judge
      rw [show X8_isWithin x 3 = _ from c_within x 3, decide_eq_false q]
      rfl
    · unfold X9_judge
      rw [m_isSheet, decide_eq_false q]
      rfl
