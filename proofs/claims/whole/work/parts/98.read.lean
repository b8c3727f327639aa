/-! A TEXT, READ -/
theorem bnd160 {n : Nat} (h : n ≤ 160) : X8_bounded (nI n) 0 (J9_min 160 (Int32.ofNat 160)) = nI n := by
  have e0 : (0 : Int32).toInt = 0 := rfl
  have e9 : (160 : Int32).toInt = 160 := rfl
  have em : J9_min 160 (Int32.ofNat 160) = 160 := by decide
  have en := nI_toInt (n := n) (by omega)
  rw [em]
  refine Int32.toInt_inj.mp ?_
  unfold X8_bounded J9_max J9_min
  simp only [Int32.lt_iff_toInt_lt]
  repeat' split
  all_goals omega
def PT (t : mTX) (k n : Nat) (b : Nat → Nat) (p i : Nat) (ok : Bool) (i' : Nat) (L : List xC) : Prop := BPf n i ok i' L ∧ (∀ c s, TC n b s → AT n b i s → s.1 25 2 = nI c → c ≤ i → ∃ s1, X1_parse_23_b38 t (nI p) s = some (bif ok then .inl (nI (p + 1), sI s1 27 p (s1.1 25 2)) else .inr (.inl s1)) ∧ AT n b i' s1 ∧ CB s s1 ∧ (ok = true → CD c L s s1)) ∧ MHf k n b (fun s => X9_part (b2i (decide (tC b n i = 262 + p))) s) 31 0 i ok i' L
/-- the code of a text, as the reader leaves it -/
def CDs (L : Nat → List xC) (s : mSG) : Prop := s.1 25 2 = nI ((L 0).length + (L 1).length + (L 2).length) ∧ (s.1 27 0 = nI (L 0).length ∧ s.1 27 1 = nI ((L 0).length + (L 1).length) ∧ s.1 27 2 = nI ((L 0).length + (L 1).length + (L 2).length)) ∧ (∀ j, j < (L 0).length → s.1 26 j = xEnc ((L 0).getD j (0, 0))) ∧ (∀ j, j < (L 1).length → s.1 26 ((L 0).length + j) = xEnc ((L 1).getD j (0, 0))) ∧ (∀ j, j < (L 2).length → s.1 26 ((L 0).length + (L 1).length + j) = xEnc ((L 2).getD j (0, 0)))
section
variable {t : mTX} {k n : Nat} {b : Nat → Nat}
theorem c_prY {p i i' c : Nat} {L : List xC} {s : mSG} (h : PT t k n b p i true i' L) (ht : TC n b s) (ha : AT n b i s) (hc : s.1 25 2 = nI c) (hci : c ≤ i) : ∃ s', X1_parse_23_b38 t (nI p) s = some (.inl (nI (p + 1), s')) ∧ TC n b s' ∧ AT n b i' s' ∧ CD c L s s' ∧ s'.1 27 p = nI (c + L.length) ∧ (∀ j, j ≠ p → s'.1 27 j = s.1 27 j) ∧ c + L.length ≤ i' := by
  obtain ⟨⟨p1, p2, p3⟩, cH, _⟩ := h
  obtain ⟨p4, p5, p6⟩ := p3 rfl
  obtain ⟨s1, e1, a1, b1, d1⟩ := cH c s ht ha hc hci
  have d1 := d1 rfl
  refine ⟨sI s1 27 p (s1.1 25 2), e1, ?_, ?_, ⟨fun j hj => ?_, fun j hj => ?_, ?_⟩, by rw [sI_same]; exact d1.2.2, fun j hj => ?_, by omega⟩
  · exact TC_sI (CB_TC b1 ht) (by omega)
  · exact AT_eq a1 (by rw [sI_adr (by decide)]) (by rw [sI_adr (by decide)]) (by rw [sI_adr (by decide)]) (by rw [sI_adr (by decide)])
  · rw [sI_adr (by decide)]; exact d1.1 j hj
  · rw [sI_adr (by decide)]; exact d1.2.1 j hj
  · rw [sI_adr (by decide)]; exact d1.2.2
  · rw [sI_oth hj, b1.2.1 27 (by decide) (by decide)]
theorem c_prN {p i i' c : Nat} {L : List xC} {s : mSG} (h : PT t k n b p i false i' L) (ht : TC n b s) (ha : AT n b i s) (hc : s.1 25 2 = nI c) (hci : c ≤ i) : ∃ s', X1_parse_23_b38 t (nI p) s = some (.inr (.inl s')) ∧ AT n b i' s' := by
  obtain ⟨s1, e1, a1, _⟩ := h.2.1 c s ht ha hc hci
  exact ⟨s1, e1, a1⟩
theorem c_pr3 {s : mSG} : X1_parse_23_b38 t (nI 3) s = some (.inr (.inr s)) := by
  unfold X1_parse_23_b38
  rw [if_pos (by decide)]
/-- the program begins -/
theorem c_beg {s : mSG} (hn : n ≤ 160) (hb : ∀ j, j < n → b j ≤ 255) (h3 : ∀ j, j < n → s.1 23 j = nI (b j)) (hS : SS s) : ∃ s1, (∀ o, (iter (fun v : Int32 × mSG => X1_parse_23_b38 t v.1 v.2) mFU (nI 0, s1)).bind (fun e38 => Sum.elim (fun e38_0 => some (e38_0.1 25 7, e38_0)) (fun e38_1 => if (e38_1.1 25 5) = 0 then some ((-1), e38_1) else some (e38_1.1 25 7, e38_1)) e38) = o → X1_parse_23 t (nI n) s = o) ∧ TC n b s1 ∧ AT n b 0 s1 ∧ s1.1 25 2 = nI 0 := by
  have t0 : TC n b (sI (sI (sI (sQ s 25 3 23) 25 4 (nI n)) 25 2 0) 25 8 0) := by
    refine ⟨?_, ?_, hn, fun j hj => ⟨?_, hb j hj⟩, fun i hi => ?_⟩
    · show mUp s.2.1 25 3 (some 23) 25 3 = some 23
      exact mUp_at
    · rw [sI_oth (by decide), sI_oth (by decide), sI_same]
    · rw [sI_adr (by decide), sI_adr (by decide), sI_adr (by decide)]; exact h3 j hj
    · rw [sI_adr (by decide), sI_adr (by decide), sI_adr (by decide)]; exact hS.2 i hi
  obtain ⟨s1, e1, a1, k1⟩ := c_advance (t := t) t0 (Nat.zero_le n) sI_same
  refine ⟨s1, fun o ho => ?_, CK_TC k1 t0, a1, ?_⟩
  · unfold X1_parse_23 X1_parse_23_l38
    rw [bnd160 hn, ob e1, ← ho]
    rfl
  · rw [k1.1 2 (by decide) (by decide) (by decide) (by decide), sI_oth (by decide), sI_same]
    rfl
/-- the model begins -/
theorem m_beg {s : mSG} {pt : Int32} (hn : n ≤ 160) (hk : k < 6) (hb : ∀ j, j < n → b j ≤ 255) (h7 : ∀ j, j < n → s.1 57 (160 * k + j) = nI (b j)) (h8 : s.1 58 k = nI n) : ∃ s1, TM k n b s1 ∧ AM n b 0 s1 ∧ s1.1 56 31 = 0 ∧ s1.1 56 30 = nI 0 ∧ envM s1 = envM s ∧ X9_read (nI k) pt s = (X9_isWord 119 97 110 116 115 0 0 0 s1).bind (fun r3 => (X9_part (b2i r3) s1).bind (fun r4 => if (r4.2.1 56 31) = 0 then (X9_isWord 116 97 107 101 115 0 0 0 r4.2).bind (fun r6 => (X9_part (b2i r6) r4.2).bind (fun r7 => X9_read_j92 pt r4.1 r7.1 r7.2)) else X9_read_j92 pt r4.1 0 r4.2)) := by
  have t0 : TM k n b (sI (sI (sI (sI (sI s 56 24 (nI (160 * k))) 56 25 (nI n)) 56 26 0) 56 30 0) 56 31 0) := by
    refine ⟨?_, ?_, hn, hk, fun j hj => ⟨?_, hb j hj⟩⟩
    · rw [sI_oth (by decide), sI_oth (by decide), sI_oth (by decide), sI_oth (by decide), sI_same]
    · rw [sI_oth (by decide), sI_oth (by decide), sI_oth (by decide), sI_same]
    · rw [sI_adr (by decide), sI_adr (by decide), sI_adr (by decide), sI_adr (by decide), sI_adr (by decide)]; exact h7 j hj
  obtain ⟨s1, e1, a1, k1⟩ := m_next t0 (Nat.zero_le n) (by rw [sI_oth (by decide), sI_oth (by decide), sI_same]; rfl)
  refine ⟨s1, MK_TM k1 t0, a1, ?_, ?_, ?_, ?_⟩
  · rw [k1.1 31 (by decide) (by decide) (by decide), sI_same]
  · rw [k1.1 30 (by decide) (by decide) (by decide), sI_oth (by decide), sI_same]
    rfl
  · funext i
    unfold envM
    by_cases q : i < 6
    · rw [if_pos q, if_pos q, k1.1 _ (by omega) (by omega) (by omega), sI_oth (by omega), sI_oth (by omega), sI_oth (by omega), sI_oth (by omega), sI_oth (by omega)]
    · rw [if_neg q, if_neg q]
  · unfold X9_read
    rw [if_pos (gl_inb hk (by omega)), nl_cl (by omega), h8, show (160 : Int32) * nI k = nI (160 * k) from pk_mul 160 k, ob e1]
theorem m_fin {x y z pt : Int32} {s : mSG} : X9_read_j146 pt x y z s = some (if pt = 0 then x else if pt = 1 then y else z, s) := by
  unfold X9_read_j146
  by_cases q : pt = 0
  · rw [if_pos q, if_pos q]
  · rw [if_neg q, if_neg q]
    by_cases q1 : pt = 1
    · rw [if_pos q1, if_pos q1]
    · rw [if_neg q1, if_neg q1]
theorem m_126B {x y z pt : Int32} {s : mSG} (h : s.1 56 31 = 1) : ∃ v, X9_read_j126 pt x y z s = some (v, s) := by
  unfold X9_read_j126
  rw [if_neg (by rw [h]; decide)]
  exact ⟨_, m_fin⟩
theorem m_92B {x y pt : Int32} {s : mSG} (h : s.1 56 31 = 1) : ∃ v, X9_read_j92 pt x y s = some (v, s) := by
  unfold X9_read_j92
  rw [if_neg (by rw [h]; decide)]
  exact m_126B h
end
