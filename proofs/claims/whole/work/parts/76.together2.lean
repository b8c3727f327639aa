/-! together, whole -/
theorem m_ways0 (x1 x2 x3 x4 x5 : Int32) (s0 : mSG) : ∃ s', X9_together_l87 x1 x2 x3 x4 x5 (0, s0) = some s' ∧ ((∀ i, i < 8 → s'.1 72 i = -1) ∧ ∀ a, a ≠ 72 → s'.1 a = s0.1 a) := by
  unfold X9_together_l87
  refine lpN (fun i (v : Int32 × mSG) => v.1 = nI i ∧ (∀ j, j < i → v.2.1 72 j = -1) ∧ ∀ a, a ≠ 72 → v.2.1 a = s0.1 a) _ 8 (by unfold mFU; omega) ?_ ?_ (k := 0) (by omega) (x := (0, s0)) ⟨rfl, fun j hj => absurd hj (Nat.not_lt_zero j), fun _ _ => rfl⟩
  · intro i v hi hv
    obtain ⟨x, s⟩ := v
    obtain ⟨e, r, g⟩ := hv
    have e : x = nI i := e
    subst e
    have r : ∀ j, j < i → s.1 72 j = -1 := r
    have g : ∀ a, a ≠ 72 → s.1 a = s0.1 a := g
    refine ⟨(nI (i + 1), sI s 72 i (-1)), ?_, rfl, fun j hj => ?_, fun a ha => ?_⟩
    · show X9_together_b87 x1 x2 x3 x4 x5 (nI i) s = _
      unfold X9_together_b87
      rw [if_neg (gl_le (x := 8) (m := 8) rfl hi (by omega)), if_pos (gl_inb hi (by omega)), nl_cl (by omega), nI_1]
    · show (sI s 72 i (-1)).1 72 j = -1
      by_cases q : j = i
      · subst q; rw [sI_same]
      · rw [sI_oth q]; exact r j (by omega)
    · rw [← g a ha]
      funext k
      show (sI s 72 i (-1)).1 a k = s.1 a k
      rw [sI_adr ha]
  · intro v hv
    obtain ⟨x, s⟩ := v
    obtain ⟨e, r, g⟩ := hv
    have e : x = nI 8 := e
    subst e
    refine ⟨s, ?_, r, g⟩
    show X9_together_b87 x1 x2 x3 x4 x5 (nI 8) s = _
    unfold X9_together_b87
    rw [if_pos (show (8 : Int32) ≤ nI 8 from by decide)]
theorem m_l123t {t : mTX} {tc : Nat} {V : mVT} {A : Ab} {p q : Nat} {s : mSG} {z : Int32} (ok : AbOK A tc) (hp : p < A.pp) (hq : q < A.pp) (h : MG t tc V A s) (hw : WY (tL (tE V A p q) (A.st p) 0) s) : ∃ s', X9_together_l123 (nI p) (nI q) z (nI (tRn A)) (nI (tRe A p + tRe A q)) (0, s) = some s' ∧ (MG t tc V A s' ∧ WY (tL (tE V A p q) (A.st p) 8) s') := by
  unfold X9_together_l123
  refine lpN (fun d (v : Int32 × mSG) => v.1 = nI d ∧ MG t tc V A v.2 ∧ WY (tL (tE V A p q) (A.st p) d) v.2) _ 8 (by unfold mFU; omega) ?_ ?_ (k := 0) (by omega) (x := (0, s)) ⟨rfl, h, hw⟩
  · intro d v hd hv
    obtain ⟨y, s1⟩ := v
    obtain ⟨g1, g2, g3⟩ := hv
    have g1 : y = nI d := g1
    subst g1
    obtain ⟨s2, e2, m2, w2⟩ := m_l133 (z := z) ok hp hq hd g2 g3
    refine ⟨(nI (d + 1), s2), ?_, rfl, m2, w2⟩
    show X9_together_b123 (nI p) (nI q) z (nI (tRn A)) (nI (tRe A p + tRe A q)) (nI d) s1 = _
    unfold X9_together_b123
    rw [if_neg (gl_le (x := 8) (m := 8) rfl hd (by omega)), ob e2, nI_1]
  · intro v hv
    obtain ⟨y, s1⟩ := v
    obtain ⟨g1, g2, g3⟩ := hv
    have g1 : y = nI 8 := g1
    subst g1
    refine ⟨s1, ?_, g2, g3⟩
    show X9_together_b123 (nI p) (nI q) z (nI (tRn A)) (nI (tRe A p + tRe A q)) (nI 8) s1 = _
    unfold X9_together_b123
    rw [if_pos (show (8 : Int32) ≤ nI 8 from by decide)]
/-- two people, of the program -/
theorem c_twoP {A : Ab} {s : mSG} (h : RS 7 8 9 10 11 A s) (h5 : A.pp ≤ 5) (x y : Int32) : X8_areTwoPeople x y s = decide (inP x A.pp ∧ inP y A.pp ∧ ¬ x = y) := by
  unfold X8_areTwoPeople
  rw [c_isOne_7 h h5, c_isOne_7 h h5]
  by_cases q1 : inP x A.pp
  · by_cases q2 : inP y A.pp
    · by_cases q3 : x = y
      · simp [q1, q2, q3]
      · simp [q1, q2, q3]
    · simp [q1, q2]
  · simp [q1]
theorem c_oneSt {A : Ab} {s : mSG} {tc p q : Nat} (h : RS 7 8 9 10 11 A s) (ok : AbOK A tc) (hp : p < A.pp) (hq : q < A.pp) : X8_areOnOneStone (nI p) (nI q) s = some (decide (A.st p = A.st q)) := by
  have h5 := ok.pp
  have s1 := ok.st p hp
  have s2 := ok.st q hq
  unfold X8_areOnOneStone
  rw [ob (show X5_trait_7 (nI p) 0 s = some (nI (A.st p)) from (c_trait_7 (w := 0) h h5 hp (by omega)).trans (congrArg some (h.st p hp))), ob (show X5_trait_7 (nI q) 0 s = some (nI (A.st q)) from (c_trait_7 (w := 0) h h5 hq (by omega)).trans (congrArg some (h.st q hq)))]
  by_cases g : A.st p = A.st q
  · rw [if_pos (by rw [g]), decide_eq_true g]
  · rw [if_neg (show ¬ nI (A.st p) = nI (A.st q) from by rw [nl_eq (by omega) (by omega)]; exact g), decide_eq_false g]
/-- both are begun with -/
theorem c_both {t : mTX} {tc : Nat} {V : mVT} {A : Ab} {s : mSG} {p q : Nat} (c : CT t tc V s) (hc : s.1 6 11 = nI tc) (h6 : tc ≤ 6) (h : RS 7 8 9 10 11 A s) (ok : AbOK A tc) (hp : p < A.pp) (hq : q < A.pp) {β : Type} (F : Int32 → mSG → Option β) : ∃ s', ((X8_ruleOf_7 s).bind (fun r2 => (X0_be_28_7 (nI p) r2 s).bind (fun r3 => (X8_ruleOf_7 r3).bind (fun r4 => (X0_be_31_7 (nI q) r4 r3).bind (fun r5 => (X5_trait_7 (nI p) 0 r5).bind (fun r6 => F r6 r5)))))) = F (nI (A.st p)) s' ∧ TG t tc V A p q (A.wt p) (A.wt q) s' := by
  have h5 := ok.pp
  obtain ⟨s1, e1, g1⟩ := c_be_28_7 h ok hp A.ru
  have f1 := FR_X0_be_28_7 _ _ _ _ e1
  have r1 := RS_fr h f1 (fun _ => rfl) (fun _ => rfl) (fun _ => rfl) (fun _ => rfl) (fun _ => rfl)
  have c1 := CT_fr c f1 rfl
  obtain ⟨s2, e2, g2⟩ := c_be_31_7 r1 ok hq A.ru
  have f2 := FR_X0_be_31_7 _ _ _ _ e2
  have r2 := RS_fr r1 f2 (fun _ => rfl) (fun _ => rfl) (fun _ => rfl) (fun _ => rfl) (fun _ => rfl)
  refine ⟨s2, ?_, CT_fr c1 f2 rfl, r2, GO_fr_28 g1 f2 (fun _ => rfl), g2⟩
  rw [ob (c_rule_7 c hc h6 h ok), ob e1, ob (c_rule_7 c1 ((f1 6 11 rfl).1.trans hc) h6 r1 ok), ob e2, ob (show X5_trait_7 (nI p) 0 s2 = some (nI (A.st p)) from (c_trait_7 (w := 0) r2 h5 hp (by omega)).trans (congrArg some (r2.st p hp)))]
theorem L_together {t : mTX} {s : mSG} (h : INV t s) (x y z : Int32) : ∃ v s1 s2, X8_together t x y z s = some (v, s1) ∧ X9_together x y z s1 = some (v, s2) ∧ INV t s2 := by
  have hI := h
  obtain ⟨tc, V, A, hk, K, ts, tp, sk, sn, si, hv⟩ := h
  have hw := hv
  obtain ⟨⟨a1, a2, a3, a4, a5, a6⟩, ⟨b1, b2, b3⟩, _⟩ := hw
  have h5 := b3.pp
  have hh := b3.hr
  by_cases q : (inP x A.pp ∧ inP y A.pp ∧ ¬ x = y) ∧ inR z 7
  · obtain ⟨qq, q4⟩ := q
    obtain ⟨q1, q2, q3⟩ := qq
    obtain ⟨p, hp, rfl⟩ := inP_of q1 (by omega)
    obtain ⟨r, hr, rfl⟩ := inP_of q2 (by omega)
    obtain ⟨to, ht, rfl⟩ := inR_of q4 (by omega)
    have hst := b3.st p hp
    by_cases qs : A.st p = A.st r
    · obtain ⟨s1, e1, tg⟩ := c_both (V := V) a1 a3 a6 b1 b3 hp hr (fun r6 r5 => (X8_together_l87 t (nI to) (1 <<< (r6 &&& 31), 0, r5)).bind (fun e87 => Sum.elim (fun e87_0 : Int32 × mSG => some (e87_0.1, e87_0.2)) (fun e87_1 => some ((-1), e87_1)) e87))
      obtain ⟨e2, he2, s2, hs2⟩ := c_l87t b3 hp hr (show to < 8 by omega) tg
      have x1 : X8_together t (nI p) (nI r) (nI to) s = some (oI (tL (tE V A p r) (A.st p) 7 to), s2) := by
        unfold X8_together
        rw [c_twoP b1 h5, decide_eq_true ⟨q1, q2, q3⟩, if_pos rfl, c_isStone, decide_eq_true q4, if_pos rfl, ob (c_oneSt b1 b3 hp hr), decide_eq_true qs, if_pos rfl, e1, ob he2]
        exact hs2
      have f1 := FR_X8_together _ _ _ _ _ _ x1
      have i1 := IV_fr hv f1 rfl
      have i1' := i1
      obtain ⟨⟨a1', a2', _⟩, ⟨b1', b2', _⟩, _⟩ := i1'
      obtain ⟨s3, e3, w3, g3⟩ := m_ways0 (nI p) (nI r) (nI to) (nI (tRn A)) (nI (tRe A p + tRe A r)) s2
      have n69 : ∀ a, a < 69 → s3.1 a = s2.1 a := fun a ha => g3 a (by omega)
      have f3 := FR_X9_together_l87 _ _ _ _ _ _ _ e3
      have mg3 : MG t tc V A s3 := MG_fr ⟨a1', a2', b2'⟩ f3 rfl (fun _ => rfl) (fun _ => rfl) (fun _ => rfl) (fun _ => rfl) (fun _ => rfl) (fun _ => rfl) (fun _ => rfl) (fun _ => rfl) (fun _ => rfl) (fun _ => rfl) (fun _ => rfl) rfl rfl rfl
      have mg4 : MG t tc V A (sI s3 72 (A.st p) 0) := MG_sI mg3 (by omega) (by omega)
      have wy : WY (tL (tE V A p r) (A.st p) 0) (sI s3 72 (A.st p) 0) := fun i hi => by
        show _ = oI (if i = A.st p then some 0 else none)
        by_cases qi : i = A.st p
        · rw [qi, sI_same, if_pos rfl]
          rfl
        · rw [sI_oth qi, w3 i hi, if_neg qi]
          rfl
      obtain ⟨s5, e5, mg5, wy5⟩ := m_l123t (z := nI to) b3 hp hr mg4 wy
      have x2 : X9_together (nI p) (nI r) (nI to) s2 = some (oI (tL (tE V A p r) (A.st p) 7 to), s5) := by
        unfold X9_together
        rw [m_isOne b2' h5, m_isOne b2' h5, decide_eq_true q1, decide_eq_true q2, if_pos rfl, if_pos rfl, if_neg q3, m_isStone, decide_eq_true q4, if_pos rfl, if_pos (gl_inb (show p < 5 by omega) (by omega)), if_pos (gl_inb (show r < 5 by omega) (by omega)), nl_cl (show p < 2147483648 by omega), nl_cl (show r < 2147483648 by omega), b2'.st p hp, b2'.st r hr, if_pos (by rw [qs]), b2'.hr, ob (m_rainAt b2' (by omega)), b2'.wt p hp, b2'.wt r hr, ob (m_reaches b2' b3 hp (b3.wt p hp)), ob (m_reaches b2' b3 hr (b3.wt r hr)), nI_add, ob (show X9_together_l87 (nI p) (nI r) (nI to) (nI (A.rn (A.hr % 24))) (nI (aReach (A.kd p) (A.nu p) (A.yd p) (A.wt p) + aReach (A.kd r) (A.nu r) (A.yd r) (A.wt r))) (0, s2) = some s3 from e3), mg3.2.2.st p hp, if_pos (gl_inb (show A.st p < 8 by omega) (by omega)), nl_cl (show A.st p < 2147483648 by omega), ob (show X9_together_l123 (nI p) (nI r) (nI to) (nI (A.rn (A.hr % 24))) (nI (aReach (A.kd p) (A.nu p) (A.yd p) (A.wt p) + aReach (A.kd r) (A.nu r) (A.yd r) (A.wt r))) (0, sI s3 72 (A.st p) 0) = some s5 from e5), if_pos (gl_inb (show to < 8 by omega) (by omega)), nl_cl (show to < 2147483648 by omega), wy5 to (by omega), tL_8 (by omega) (by omega)]
      exact ⟨_, s2, s5, x1, x2, tc, V, A, hk, K, ts, tp, sk, sn, si, IV_fr i1 (FR_X9_together _ _ _ _ _ x2) rfl⟩
    · refine ⟨-3, s, s, ?_, ?_, hI⟩
      · unfold X8_together
        rw [c_twoP b1 h5, decide_eq_true ⟨q1, q2, q3⟩, if_pos rfl, c_isStone, decide_eq_true q4, if_pos rfl, ob (c_oneSt b1 b3 hp hr), decide_eq_false qs]
        rfl
      · have hst2 := b3.st r hr
        unfold X9_together
        rw [m_isOne b2 h5, m_isOne b2 h5, decide_eq_true q1, decide_eq_true q2, if_pos rfl, if_pos rfl, if_neg q3, m_isStone, decide_eq_true q4, if_pos rfl, if_pos (gl_inb (show p < 5 by omega) (by omega)), if_pos (gl_inb (show r < 5 by omega) (by omega)), nl_cl (show p < 2147483648 by omega), nl_cl (show r < 2147483648 by omega), b2.st p hp, b2.st r hr, if_neg (show ¬ nI (A.st p) = nI (A.st r) from by rw [nl_eq (by omega) (by omega)]; exact qs)]
  · refine ⟨-2, s, s, ?_, ?_, hI⟩
    · unfold X8_together
      rw [c_twoP b1 h5, c_isStone]
      by_cases q1 : inP x A.pp ∧ inP y A.pp ∧ ¬ x = y
      · rw [decide_eq_true q1, decide_eq_false (fun q2 => q ⟨q1, q2⟩)]
        rfl
      · rw [decide_eq_false q1]
        rfl
    · unfold X9_together
      rw [m_isOne b2 h5, m_isOne b2 h5, m_isStone]
      by_cases q1 : inP x A.pp
      · by_cases q2 : inP y A.pp
        · by_cases q3 : x = y
          · rw [decide_eq_true q1, decide_eq_true q2, if_pos rfl, if_pos rfl, if_pos q3]
          · rw [decide_eq_true q1, decide_eq_true q2, if_pos rfl, if_pos rfl, if_neg q3, decide_eq_false (fun q4 => q ⟨⟨q1, q2, q3⟩, q4⟩)]
            rfl
        · rw [decide_eq_true q1, decide_eq_false q2]
          rfl
      · rw [decide_eq_false q1]
        rfl
