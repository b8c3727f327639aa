/-! A PART OF A TEXT -/
theorem kd_0 {b : Nat → Nat} {n i : Nat} : kdT b n i = 0 ↔ tC b n i = 0 := by
  rcases kd_c (b := b) (n := n) (i := i) with ⟨kk, cc, _⟩ | ⟨kk, cc, _⟩ | ⟨kk, cc, _⟩ | ⟨kk, cc, cs, _⟩ | ⟨kk, cc, _⟩
  · omega
  · have := wtk_b (b := b) (x := tA b n i) (y := tN b n i) 12
    omega
  · omega
  · have := isS_n cs
    omega
  · omega
section
variable {t : mTX} {k n : Nat} {b : Nat → Nat}
theorem m_j48B {x : Int32} {s : mSG} (h : s.1 56 31 = 1) : X9_part_j48 x s = some (x, s) := by
  unfold X9_part_j48
  rw [if_neg (by rw [h]; decide)]
theorem m_j34B {x : Int32} {s : mSG} (h : s.1 56 31 = 1) : X9_part_j34 x s = some (x, s) := by
  unfold X9_part_j34
  rw [m_signB h, if_neg (by decide), ob (m_failB h), m_j48B h]
theorem bp_part {Fw : mSG → Option (Int32 × mSG)} {p i : Nat} (hn : n ≤ 160) (hp : p < 3) (hi : i ≤ n) (eW : ∀ s, TM k n b s → AM n b i s → s.1 56 31 = 0 → Fw s = X9_part (b2i (decide (tC b n i = 262 + p))) s) : ∃ ok i' L, BPf n i ok i' L ∧ (∀ c s, TC n b s → AT n b i s → s.1 25 2 = nI c → c ≤ i → ∃ s1, X1_parse_23_b38 t (nI p) s = some (bif ok then .inl (nI (p + 1), sI s1 27 p (s1.1 25 2)) else .inr (.inl s1)) ∧ AT n b i' s1 ∧ CB s s1 ∧ (ok = true → CD c L s s1)) ∧ MHf k n b Fw 31 0 i ok i' L := by
  have hN := tN_b (b := b) hi
  have hA := tA_b (b := b) hi
  have e3 : ¬ (3 : Int32) ≤ nI p := gl_le (x := 3) (m := 3) rfl hp (by omega)
  have eX : (262 : Int32) + nI p = nI (262 + p) := nI_add 262 p
  by_cases q : tC b n i = 262 + p
  · have hNN := hN.2.2 (tC_0 (by omega))
    obtain ⟨ok, i3, L, ⟨p1, p2, p3⟩, cH, mH⟩ := (dp_0 (t := t) (k := k) (b := b) hn).2.2 60 (by decide) (tN b n i) hN.2.1
    have cQ : ∀ c s, TC n b s → AT n b i s → s.1 25 2 = nI c → c ≤ i → ∃ s2, X1_parse_23_b38 t (nI p) s = (if ok = true then (X1_takes t 59 s2).bind (fun r5 => if r5.1 = true then (if mInb (nI p) 3 = true then some (.inl (nI p + 1, sI r5.2 27 (nI p).toNatClampNeg (r5.2.1 25 2))) else none) else some (.inr (.inl r5.2))) else some (.inr (.inl s2))) ∧ TC n b s2 ∧ AT n b i3 s2 ∧ CB s s2 ∧ (ok = true → CD c L s s2) := by
      intro c s ht ha hc hci
      obtain ⟨s1, e1, a1, b1, w1, w2⟩ := c_nxt (t := t) ht ha hi
      obtain ⟨s2, e2, a2, b2, d2⟩ := cH c s1 (CB_TC b1 ht) a1 (w2.trans hc) (by omega)
      have e2 : X1_R t 60 0 0 s1 = some (ok, s2) := e2
      refine ⟨s2, ?_, CB_TC b2 (CB_TC b1 ht), a2, CB_tr b1 b2, fun g => CD_app (CD_nil w1 (w2.trans hc)) (d2 g)⟩
      unfold X1_parse_23_b38
      rw [if_neg e3, eX, c_tk_y ha (w := 262 + p) rfl (by omega) q, ob e1]
      show (X1_R t 60 0 0 s1).bind _ = _
      rw [ob e2]
    have mQ : ∀ s, TM k n b s → AM n b i s → s.1 56 31 = 0 → s.1 56 30 = nI 0 → ∃ v s2, Fw s = X9_part_j34 v s2 ∧ TM k n b s2 ∧ MB s s2 ∧ (ok = true → AM n b i3 s2 ∧ s2.1 56 31 = 0 ∧ s2.1 56 30 = nI 0 ∧ isV (envM s) 31 L v) ∧ (ok = false → s2.1 56 31 = 1 ∧ s2.1 56 32 = nI (tA b n i3)) := by
      intro s ht ha hb ho
      obtain ⟨s1, e1, a1, b1, w1, w2⟩ := m_nxt ht ha hi (kd_4 (by omega))
      have hb1 := w2.trans hb
      obtain ⟨v, s2, e2, b2, y2, z2⟩ := mH s1 (MB_TM b1 ht) a1 hb1 (w1.trans ho)
      rw [MB_env b1] at y2
      refine ⟨v, s2, ?_, MB_TM b2 (MB_TM b1 ht), MB_tr b1 b2, y2, z2⟩
      rw [eW s ht ha hb, decide_eq_true q]
      unfold X9_part X9_part_j8 X9_part_j19
      rw [if_neg (show ¬ b2i true = 0 by decide), if_pos hb, ob e1, if_pos hb1, ob e2]
    cases ok with
    | false =>
      refine ⟨false, i3, [], ⟨by omega, p2, fun g => Bool.noConfusion g⟩, fun c s ht ha hc hci => ?_, fun s ht ha hb ho => ?_⟩
      · obtain ⟨s2, e2, _, a2, b2, _⟩ := cQ c s ht ha hc hci
        exact ⟨s2, e2, a2, b2, fun g => Bool.noConfusion g⟩
      · obtain ⟨v, s2, e2, t2, b2, _, z2⟩ := mQ s ht ha hb ho
        obtain ⟨g1, g2⟩ := z2 rfl
        exact ⟨v, s2, by rw [e2, m_j34B g1], b2, fun g => Bool.noConfusion g, fun _ => ⟨g1, g2⟩⟩
    | true =>
      obtain ⟨p4, p5, p6⟩ := p3 rfl
      by_cases q9 : tC b n i3 = 59
      · have hN3 := tN_b (b := b) p2
        have hA3 := tA_b (b := b) p2
        refine ⟨true, tN b n i3, L, ⟨by omega, hN3.2.1, fun _ => ⟨by omega, p5, p6⟩⟩, fun c s ht ha hc hci => ?_, fun s ht ha hb ho => ?_⟩
        · obtain ⟨s2, e2, t2, a2, b2, d2⟩ := cQ c s ht ha hc hci
          have d2 := d2 rfl
          obtain ⟨s3, e3', a3, b3, w1, w2⟩ := c_nxt (t := t) t2 a2 p2
          refine ⟨s3, ?_, a3, CB_tr b2 b3, fun _ => ?_⟩
          · rw [e2, if_pos rfl, c_tk_y a2 (X := 59) (w := 59) rfl (by omega) q9, ob e3']
            show (if mInb (nI p) 3 = true then (some (Sum.inl (nI p + 1, sI s3 27 (nI p).toNatClampNeg (s3.1 25 2))) : Option ((Int32 × mSG) ⊕ (mSG ⊕ mSG))) else none) = _
            rw [if_pos (gl_inb hp (by omega)), nl_cl (by omega), nI_1]
            rfl
          · have := CD_app d2 (CD_nil w1 (w2.trans d2.2.2))
            rw [List.append_nil] at this
            exact this
        · obtain ⟨v, s2, e2, t2, b2, y2, _⟩ := mQ s ht ha hb ho
          obtain ⟨g1, g2, g3, g4⟩ := y2 rfl
          obtain ⟨s3, e3', a3, b3, w1, w2⟩ := m_nxt t2 g1 p2 (kd_4 (by omega))
          refine ⟨v, s3, ?_, MB_tr b2 b3, fun _ => ⟨a3, w2.trans g2, w1.trans g3, g4⟩, fun g => Bool.noConfusion g⟩
          rw [e2]
          unfold X9_part_j34 X9_part_j48
          rw [m_sign (x := 59) (c := 59) rfl g1 g2 (by decide), if_pos (decide_eq_true q9), if_pos g2, ob e3']
      · refine ⟨false, i3, [], ⟨by omega, p2, fun g => Bool.noConfusion g⟩, fun c s ht ha hc hci => ?_, fun s ht ha hb ho => ?_⟩
        · obtain ⟨s2, e2, t2, a2, b2, d2⟩ := cQ c s ht ha hc hci
          refine ⟨s2, ?_, a2, b2, fun g => Bool.noConfusion g⟩
          rw [e2, if_pos rfl, c_tk_n a2 (X := 59) (w := 59) rfl (by omega) q9]
          rfl
        · obtain ⟨v, s2, e2, t2, b2, y2, _⟩ := mQ s ht ha hb ho
          obtain ⟨g1, g2, g3, g4⟩ := y2 rfl
          obtain ⟨f1, f2, f3⟩ := m_failF (n := n) (b := b) (i := i3) (s := s2)
          refine ⟨v, _, ?_, MB_tr b2 f3, fun g => Bool.noConfusion g, fun _ => ⟨f1, f2⟩⟩
          rw [e2]
          unfold X9_part_j34
          rw [m_sign (x := 59) (c := 59) rfl g1 g2 (by decide), if_neg (by rw [decide_eq_false q9]; decide), ob (m_fail (k := 0) g1 g2), m_j48B f1]
  · refine ⟨false, i, [], ⟨Nat.le_refl _, hi, fun g => Bool.noConfusion g⟩, fun c s ht ha hc hci => ⟨s, ?_, ha, CB_rf, fun g => Bool.noConfusion g⟩, fun s ht ha hb ho => ?_⟩
    · unfold X1_parse_23_b38
      rw [if_neg e3, eX, c_tk_n ha (w := 262 + p) rfl (by omega) q]
      rfl
    · obtain ⟨f1, f2, f3⟩ := m_failF (n := n) (b := b) (i := i) (s := s)
      refine ⟨0, _, ?_, f3, fun g => Bool.noConfusion g, fun _ => ⟨f1, f2⟩⟩
      rw [eW s ht ha hb, decide_eq_false q]
      unfold X9_part X9_part_j8 X9_part_j19
      rw [if_pos (show b2i false = 0 from rfl), ob (m_fail (k := 0) ha hb), if_neg (by rw [f1]; decide), if_neg (by rw [f1]; decide), m_j34B f1]
end
