/-! BOTH READ A TEXT -/
section
variable {t : mTX} {k n : Nat} {b : Nat → Nat}
theorem rd_text (hn : n ≤ 160) (hk : k < 6) (hb : ∀ j, j < n → b j ≤ 255) : ∃ (ok : Bool) (pos : Nat) (L : Nat → List xC), (ok = true → (L 0).length + (L 1).length + (L 2).length ≤ n ∧ ∀ p, p < 3 → ∀ c, c ∈ L p → xOk c) ∧ pos ≤ n ∧ (∀ s, (∀ j, j < n → s.1 23 j = nI (b j)) → SS s → ∃ s1, X1_parse_23 t (nI n) s = some (bif ok then -1 else nI (tA b n pos), s1) ∧ (ok = true → CDs L s1)) ∧ (∀ s pt, pt < 3 → (∀ j, j < n → s.1 57 (160 * k + j) = nI (b j)) → s.1 58 k = nI n → ∃ v s1, X9_read (nI k) (nI pt) s = some (v, s1) ∧ (ok = true → s1.1 56 31 = 0 ∧ isV (envM s) 31 (L pt) v) ∧ (ok = false → s1.1 56 31 = 1 ∧ s1.1 56 32 = nI (tA b n pos))) := by
  have hF : 10 < mFU := by decide
  obtain ⟨ok0, i1, L0, P0⟩ := bp_part (t := t) (k := k) (b := b) (p := 0) hn (by decide) (Nat.zero_le n) (fun s _ _ _ => rfl)
  have P0 : PT t k n b 0 0 ok0 i1 L0 := P0
  have w0 : ∀ s, TM k n b s → AM n b 0 s → s.1 56 31 = 0 → X9_isWord 119 97 110 116 115 0 0 0 s = some (decide (tC b n 0 = 262 + 0)) := fun s ht ha hb => m_word ht ha hb (Nat.zero_le n) (show 6 < 12 by decide) rfl rfl rfl rfl rfl rfl rfl rfl
  cases ok0 with
  | false =>
    refine ⟨false, i1, fun _ => [], fun g => Bool.noConfusion g, P0.1.2.1, fun s h3 hS => ?_, fun s pt hp h7 h8 => ?_⟩
    · obtain ⟨s1, e1, t1, a1, c1⟩ := c_beg (t := t) hn hb h3 hS
      obtain ⟨s2, e2, a2⟩ := c_prN P0 t1 a1 c1 (Nat.le_refl _)
      refine ⟨s2, ?_, fun g => Bool.noConfusion g⟩
      apply e1
      rw [ob (it_r (by omega) e2)]
      show some (s2.1 25 7, s2) = _
      rw [a2.2.2.1]
      rfl
    · obtain ⟨s1, t1, a1, b1, o1, _, e1⟩ := m_beg (pt := nI pt) hn hk hb h7 h8
      obtain ⟨v, s2, e2, _, _, z2⟩ := P0.2.2 s1 t1 a1 b1 o1
      obtain ⟨g1, g2⟩ := z2 rfl
      obtain ⟨w, ew⟩ := m_92B (x := v) (y := 0) (pt := nI pt) g1
      refine ⟨w, s2, ?_, fun g => Bool.noConfusion g, fun _ => ⟨g1, g2⟩⟩
      rw [e1, ob (w0 s1 t1 a1 b1), ob e2]
      show (if (s2.1 56 31) = 0 then _ else _) = _
      rw [if_neg (by rw [g1]; decide)]
      exact ew
  | true =>
    have q1 : i1 ≤ n := P0.1.2.1
    obtain ⟨ok1, i2, L1, P1⟩ := bp_part (t := t) (k := k) (b := b) (p := 1) hn (by decide) q1 (fun s _ _ _ => rfl)
    have P1 : PT t k n b 1 i1 ok1 i2 L1 := P1
    have w1 : ∀ s, TM k n b s → AM n b i1 s → s.1 56 31 = 0 → X9_isWord 116 97 107 101 115 0 0 0 s = some (decide (tC b n i1 = 262 + 1)) := fun s ht ha hb => m_word ht ha hb q1 (show 7 < 12 by decide) rfl rfl rfl rfl rfl rfl rfl rfl
    have f0 := P0.1.2.2 rfl
    cases ok1 with
    | false =>
      refine ⟨false, i2, fun _ => [], fun g => Bool.noConfusion g, P1.1.2.1, fun s h3 hS => ?_, fun s pt hp h7 h8 => ?_⟩
      · obtain ⟨s1, e1, t1, a1, c1⟩ := c_beg (t := t) hn hb h3 hS
        obtain ⟨s2, e2, t2, a2, d2, _, _, l2⟩ := c_prY P0 t1 a1 c1 (Nat.le_refl _)
        obtain ⟨s3, e3, a3⟩ := c_prN P1 t2 a2 d2.2.2 l2
        refine ⟨s3, ?_, fun g => Bool.noConfusion g⟩
        apply e1
        rw [it_l (by omega) e2, ob (it_r (by omega) e3)]
        show some (s3.1 25 7, s3) = _
        rw [a3.2.2.1]
        rfl
      · obtain ⟨s1, t1, a1, b1, o1, _, e1⟩ := m_beg (pt := nI pt) hn hk hb h7 h8
        obtain ⟨v, s2, e2, m2, y2, _⟩ := P0.2.2 s1 t1 a1 b1 o1
        obtain ⟨y3, y4, y5, y6⟩ := y2 rfl
        have t2 := MB_TM m2 t1
        obtain ⟨v3, s3, e3, _, _, z3⟩ := P1.2.2 s2 t2 y3 y4 y5
        obtain ⟨g1, g2⟩ := z3 rfl
        obtain ⟨w, ew⟩ := m_92B (x := v) (y := v3) (pt := nI pt) g1
        refine ⟨w, s3, ?_, fun g => Bool.noConfusion g, fun _ => ⟨g1, g2⟩⟩
        rw [e1, ob (w0 s1 t1 a1 b1), ob e2]
        show (if (s2.1 56 31) = 0 then _ else _) = _
        rw [if_pos y4, ob (w1 s2 t2 y3 y4), ob e3]
        exact ew
    | true =>
      have q2 : i2 ≤ n := P1.1.2.1
      obtain ⟨ok2, i3, L2, P2⟩ := bp_part (t := t) (k := k) (b := b) (p := 2) hn (by decide) q2 (fun s _ _ _ => rfl)
      have P2 : PT t k n b 2 i2 ok2 i3 L2 := P2
      have w2 : ∀ s, TM k n b s → AM n b i2 s → s.1 56 31 = 0 → X9_isWord 108 101 110 100 115 0 0 0 s = some (decide (tC b n i2 = 262 + 2)) := fun s ht ha hb => m_word ht ha hb q2 (show 8 < 12 by decide) rfl rfl rfl rfl rfl rfl rfl rfl
      have f1 := P1.1.2.2 rfl
      have q3 : i3 ≤ n := P2.1.2.1
      cases ok2 with
      | false =>
        refine ⟨false, i3, fun _ => [], fun g => Bool.noConfusion g, q3, fun s h3 hS => ?_, fun s pt hp h7 h8 => ?_⟩
        · obtain ⟨s1, e1, t1, a1, c1⟩ := c_beg (t := t) hn hb h3 hS
          obtain ⟨s2, e2, t2, a2, d2, _, _, l2⟩ := c_prY P0 t1 a1 c1 (Nat.le_refl _)
          obtain ⟨s3, e3, t3, a3, d3, _, _, l3⟩ := c_prY P1 t2 a2 d2.2.2 l2
          obtain ⟨s4, e4, a4⟩ := c_prN P2 t3 a3 d3.2.2 l3
          refine ⟨s4, ?_, fun g => Bool.noConfusion g⟩
          apply e1
          rw [it_l (by omega) e2, it_l (by omega) e3, ob (it_r (by omega) e4)]
          show some (s4.1 25 7, s4) = _
          rw [a4.2.2.1]
          rfl
        · obtain ⟨s1, t1, a1, b1, o1, _, e1⟩ := m_beg (pt := nI pt) hn hk hb h7 h8
          obtain ⟨v, s2, e2, m2, y2, _⟩ := P0.2.2 s1 t1 a1 b1 o1
          obtain ⟨y3, y4, y5, y6⟩ := y2 rfl
          have t2 := MB_TM m2 t1
          obtain ⟨v3, s3, e3, m3, x2, _⟩ := P1.2.2 s2 t2 y3 y4 y5
          obtain ⟨x3, x4, x5, x6⟩ := x2 rfl
          have t3 := MB_TM m3 t2
          obtain ⟨v4, s4, e4, _, _, z4⟩ := P2.2.2 s3 t3 x3 x4 x5
          obtain ⟨g1, g2⟩ := z4 rfl
          obtain ⟨w, ew⟩ := m_126B (x := v) (y := v3) (z := v4) (pt := nI pt) g1
          refine ⟨w, s4, ?_, fun g => Bool.noConfusion g, fun _ => ⟨g1, g2⟩⟩
          rw [e1, ob (w0 s1 t1 a1 b1), ob e2]
          show (if (s2.1 56 31) = 0 then _ else _) = _
          rw [if_pos y4, ob (w1 s2 t2 y3 y4), ob e3]
          show X9_read_j92 (nI pt) v v3 s3 = _
          unfold X9_read_j92
          rw [if_pos x4, ob (w2 s3 t3 x3 x4), ob e4]
          exact ew
      | true =>
        have f2 := P2.1.2.2 rfl
        have cls : ∀ s, (∀ j, j < n → s.1 23 j = nI (b j)) → SS s → ∃ s1, X1_parse_23 t (nI n) s = (if tC b n i3 = 0 then some (-1, s1) else some (nI (tA b n i3), s1)) ∧ CDs (fun p => if p = 0 then L0 else if p = 1 then L1 else L2) s1 := by
          intro s h3 hS
          obtain ⟨s1, e1, t1, a1, c1⟩ := c_beg (t := t) hn hb h3 hS
          obtain ⟨s2, e2, t2, a2, d2, u2, v2, l2⟩ := c_prY P0 t1 a1 c1 (Nat.le_refl _)
          obtain ⟨s3, e3, t3, a3, d3, u3, v3, l3⟩ := c_prY P1 t2 a2 d2.2.2 l2
          obtain ⟨s4, e4, t4, a4, d4, u4, v4, l4⟩ := c_prY P2 t3 a3 d3.2.2 l3
          rw [Nat.zero_add] at d3 u2 u3 d4 u4 l3 l4
          refine ⟨s4, ?_, d4.2.2, ⟨?_, ?_, u4⟩, fun j hj => ?_, fun j hj => ?_, d4.2.1⟩
          · apply e1
            rw [it_l (by omega) e2, it_l (by omega) e3, it_l (by omega) e4, ob (it_r (by omega) c_pr3)]
            show (if (s4.1 25 5) = 0 then some (-1, s4) else some (s4.1 25 7, s4)) = _
            rw [a4.2.2.1]
            by_cases q : tC b n i3 = 0
            · rw [if_pos ((tk_eq a4 (X := 0) (w := 0) rfl (by omega)).mpr q), if_pos q]
            · rw [if_neg (fun g => q ((tk_eq a4 (X := 0) (w := 0) rfl (by omega)).mp g)), if_neg q]
          · rw [v4 0 (by decide), v3 0 (by decide)]; exact u2
          · rw [v4 1 (by decide)]; exact u3
          · have hj : j < L0.length := hj
            rw [d4.1 j (by omega), d3.1 j (by omega)]
            have := d2.2.1 j hj
            rw [Nat.zero_add] at this
            exact this
          · have hj : j < L1.length := hj
            show s4.1 26 (L0.length + j) = _
            rw [d4.1 (L0.length + j) (by omega)]
            exact d3.2.1 j hj
        have mod : ∀ s pt, pt < 3 → (∀ j, j < n → s.1 57 (160 * k + j) = nI (b j)) → s.1 58 k = nI n → ∃ v s1, X9_read (nI k) (nI pt) s = (if tC b n i3 = 0 then some (v, s1) else some (v, sI (sI s1 56 31 1) 56 32 (nI (tA b n i3)))) ∧ s1.1 56 31 = 0 ∧ isV (envM s) 31 (if pt = 0 then L0 else if pt = 1 then L1 else L2) v := by
          intro s pt hp h7 h8
          obtain ⟨s1, t1, a1, b1, o1, ev, e1⟩ := m_beg (pt := nI pt) hn hk hb h7 h8
          obtain ⟨v, s2, e2, m2, y2, _⟩ := P0.2.2 s1 t1 a1 b1 o1
          obtain ⟨y3, y4, y5, y6⟩ := y2 rfl
          have t2 := MB_TM m2 t1
          obtain ⟨v3, s3, e3, m3, x2, _⟩ := P1.2.2 s2 t2 y3 y4 y5
          obtain ⟨x3, x4, x5, x6⟩ := x2 rfl
          have t3 := MB_TM m3 t2
          obtain ⟨v4, s4, e4, m4, z2, _⟩ := P2.2.2 s3 t3 x3 x4 x5
          obtain ⟨z3, z4, z5, z6⟩ := z2 rfl
          rw [MB_env (MB_tr m2 m3), ev] at z6
          rw [MB_env m2, ev] at x6
          rw [ev] at y6
          refine ⟨if nI pt = 0 then v else if nI pt = 1 then v3 else v4, s4, ?_, z4, ?_⟩
          · rw [e1, ob (w0 s1 t1 a1 b1), ob e2]
            show (if (s2.1 56 31) = 0 then _ else _) = _
            rw [if_pos y4, ob (w1 s2 t2 y3 y4), ob e3]
            show X9_read_j92 (nI pt) v v3 s3 = _
            unfold X9_read_j92
            rw [if_pos x4, ob (w2 s3 t3 x3 x4), ob e4]
            unfold X9_read_j126
            have kb : kdT b n i3 ≤ 4 := by
              rcases kd_c (b := b) (n := n) (i := i3) with ⟨kk, _⟩ | ⟨kk, _⟩ | ⟨kk, cc, _⟩ | ⟨kk, _⟩ | ⟨kk, _⟩ <;> omega
            rw [if_pos z4, z3.2.1]
            by_cases q : tC b n i3 = 0
            · rw [if_pos (by rw [kd_0.mpr q]; rfl), if_pos q]
              exact m_fin
            · rw [if_neg (show ¬ nI (kdT b n i3) = 0 from fun g => by rw [show (0 : Int32) = nI 0 from rfl, nl_eq (by omega) (by omega)] at g; exact q (kd_0.mp g)), if_neg q, ob (m_fail (k := 0) z3 z4)]
              exact m_fin
          · have hc : pt = 0 ∨ pt = 1 ∨ pt = 2 := by omega
            rcases hc with rfl | rfl | rfl
            · exact y6
            · exact x6
            · exact z6
        by_cases q : tC b n i3 = 0
        · refine ⟨true, i3, fun p => if p = 0 then L0 else if p = 1 then L1 else L2, fun _ => ⟨?_, fun p hp c hc => ?_⟩, q3, fun s h3 hS => ?_, fun s pt hp h7 h8 => ?_⟩
          · show L0.length + L1.length + L2.length ≤ n
            omega
          · have hp : p = 0 ∨ p = 1 ∨ p = 2 := by omega
            rcases hp with rfl | rfl | rfl
            · exact f0.2.2 c hc
            · exact f1.2.2 c hc
            · exact f2.2.2 c hc
          · obtain ⟨s1, e1, d1⟩ := cls s h3 hS
            rw [if_pos q] at e1
            exact ⟨s1, e1, fun _ => d1⟩
          · obtain ⟨v, s1, e1, g1, g2⟩ := mod s pt hp h7 h8
            rw [if_pos q] at e1
            exact ⟨v, s1, e1, fun _ => ⟨g1, g2⟩, fun g => Bool.noConfusion g⟩
        · refine ⟨false, i3, fun _ => [], fun g => Bool.noConfusion g, q3, fun s h3 hS => ?_, fun s pt hp h7 h8 => ?_⟩
          · obtain ⟨s1, e1, d1⟩ := cls s h3 hS
            rw [if_neg q] at e1
            exact ⟨s1, e1, fun g => Bool.noConfusion g⟩
          · obtain ⟨v, s1, e1, g1, g2⟩ := mod s pt hp h7 h8
            rw [if_neg q] at e1
            exact ⟨v, _, e1, fun g => Bool.noConfusion g, fun _ => ⟨by rw [sI_oth (by decide), sI_same], sI_same⟩⟩
end
