/-! TOKENS OF THE MODEL -/
def kdT (b : Nat → Nat) (n i : Nat) : Nat := if tA b n i < n then (if isL b (tA b n i) = true then 1 else if isD b (tA b n i) = true then (if tN b n i - tA b n i ≤ 4 then 2 else 4) else if isS (b (tA b n i)) = true then 3 else 4) else 0
/-- the text k, of n bytes, that the model reads -/
def TM (k n : Nat) (b : Nat → Nat) (s : mSG) : Prop := s.1 56 24 = nI (160 * k) ∧ s.1 56 25 = nI n ∧ n ≤ 160 ∧ k < 6 ∧ ∀ j, j < n → s.1 57 (160 * k + j) = nI (b j) ∧ b j ≤ 255
/-- all but a token's cells -/
def MK (s0 s : mSG) : Prop := (∀ j, j ≠ 26 → j ≠ 27 → j ≠ 28 → s.1 56 j = s0.1 56 j) ∧ (∀ a, a ≠ 56 → s.1 a = s0.1 a) ∧ s.2.1 = s0.2.1
theorem MK_rf {s : mSG} : MK s s := ⟨fun _ _ _ _ => rfl, fun _ _ => rfl, rfl⟩
theorem MK_tr {s s' s'' : mSG} (h : MK s s') (h' : MK s' s'') : MK s s'' := ⟨fun j a b c => (h'.1 j a b c).trans (h.1 j a b c), fun a ha => (h'.2.1 a ha).trans (h.2.1 a ha), h'.2.2.trans h.2.2⟩
theorem MK_sI {s0 s : mSG} {k : Nat} {v : Int32} (h : MK s0 s) (hk : k = 26 ∨ k = 27 ∨ k = 28) : MK s0 (sI s 56 k v) := by
  obtain ⟨h1, h2, h3⟩ := h
  refine ⟨fun j a1 a2 a3 => ?_, fun a ha => ?_, h3⟩
  · rw [sI_oth (by omega)]; exact h1 j a1 a2 a3
  · rw [← h2 a ha]
    funext j
    rw [sI_adr ha]
theorem MK_sJ {s0 s : mSG} {v : Int64} (h : MK s0 s) : MK s0 (sJ s 56 29 v) := h
theorem MK_TM {s0 s : mSG} {k n : Nat} {b : Nat → Nat} (h : MK s0 s) (ht : TM k n b s0) : TM k n b s := by
  obtain ⟨h1, h2, h3⟩ := h
  obtain ⟨t1, t2, t3, t4, t5⟩ := ht
  exact ⟨by rw [h1 24 (by decide) (by decide) (by decide)]; exact t1, by rw [h1 25 (by decide) (by decide) (by decide)]; exact t2, t3, t4, fun j hj => by rw [h2 57 (by decide)]; exact t5 j hj⟩
theorem sJ_at {s : mSG} {a k : Nat} {v : Int64} : (sJ s a k v).2.2 a k = v := by
  show mUp s.2.2 a k v a k = v
  exact mUp_at
section
variable {k n : Nat} {b : Nat → Nat}
theorem m_byte {s : mSG} (h : TM k n b s) {j : Nat} (hj : j ≤ 400) : X9_byteAt (nI j) s = some (if j < n then nI (b j) else -1) := by
  obtain ⟨t1, t2, t3, t4, t5⟩ := h
  unfold X9_byteAt
  rw [t2]
  by_cases q : j < n
  · rw [if_neg (nI_ge q (by omega)), t1, nI_add, if_pos (gl_inb (show 160 * k + j < 960 by omega) (by omega)), nl_cl (by omega), (t5 j q).1, if_pos q]
  · rw [if_pos (nI_le (by omega) (by omega)), if_neg q]
theorem in_nI {c lo hi : Nat} (hc : c ≤ 255) (hl : lo ≤ 255) (hh : hi ≤ 255) {A B : Int64} (hA : A = (nI lo).toInt64) (hB : B = (nI hi).toInt64) : X9_in (nI c).toInt64 A B = decide (lo ≤ c ∧ c ≤ hi) := by
  rw [b_dec (m_in (nI c) (nI lo) (nI hi) A B hA hB)]
  refine decide_eq_decide.mpr ?_
  rw [nl_le (by omega) (by omega), nl_le (by omega) (by omega)]
theorem in_m1 {lo hi : Nat} (hl : lo ≤ 255) {A B : Int64} (hA : A = (nI lo).toInt64) (hB : B = (nI hi).toInt64) : X9_in (-1 : Int32).toInt64 A B = false := by
  rw [b_dec (m_in (-1) (nI lo) (nI hi) A B hA hB)]
  refine decide_eq_false (fun g => ?_)
  have := g.1
  rw [show (-1 : Int32) = -nI 1 from rfl, nl_leN (by omega) (by omega) (by omega)] at this
  exact this
theorem m_skip {s0 : mSG} {i : Nat} (ht : TM k n b s0) (hi : i ≤ n) (h26 : s0.1 56 26 = nI i) : ∃ s, X9_next_l0 s0 = some s ∧ (s.1 56 26 = nI (scn (isW b) n i) ∧ s.2.2 = s0.2.2 ∧ MK s0 s) := by
  have hn := ht.2.2.1
  unfold X9_next_l0
  refine lpE (fun j (s : mSG) => s.1 56 26 = nI j ∧ i ≤ j ∧ scn (isW b) n j = scn (isW b) n i ∧ s.2.2 = s0.2.2 ∧ MK s0 s) _ n (by unfold mFU; omega) ?_ ?_ (k := i) hi (x := s0) ⟨h26, Nat.le_refl _, rfl, rfl, MK_rf⟩
  · intro j s hj hv
    obtain ⟨g1, g2, g3, g5, g4⟩ := hv
    have t' := MK_TM g4 ht
    have c2 := (t'.2.2.2.2 j hj).2
    have head : X9_next_b0 s = if nI (b j) = 32 then some (.inl (sI s 56 26 (nI (j + 1)))) else if nI (b j) = 10 then some (.inl (sI s 56 26 (nI (j + 1)))) else some (.inr s) := by
      unfold X9_next_b0 X9_next_j26_0
      rw [g1, ob (m_byte t' (by omega)), if_pos hj, ob (m_byte t' (by omega)), if_pos hj, nI_1]
    have q32 : (nI (b j) = 32) = (b j = 32) := nl_eq (b := 32) (by omega) (by omega)
    have q10 : (nI (b j) = 10) = (b j = 10) := nl_eq (b := 10) (by omega) (by omega)
    by_cases q : b j = 32 ∨ b j = 10
    · refine Or.inl ⟨sI s 56 26 (nI (j + 1)), ?_, sI_same, by omega, by rw [← g3, scn_y hj (decide_eq_true q)], g5, MK_sI g4 (by omega)⟩
      rw [head]
      by_cases q1 : b j = 32
      · rw [if_pos (q32.mpr q1)]
      · rw [if_neg (fun g => q1 (q32.mp g)), if_pos (q10.mpr (by omega))]
    · refine Or.inr ⟨s, ?_, by rw [g1, ← g3, scn_n hj (decide_eq_false q)], g5, g4⟩
      rw [head, if_neg (fun g => q (Or.inl (q32.mp g))), if_neg (fun g => q (Or.inr (q10.mp g)))]
  · intro s hv
    obtain ⟨g1, g2, g3, g5, g4⟩ := hv
    have t' := MK_TM g4 ht
    refine ⟨s, ?_, by rw [g1, ← g3, scn_e (Nat.le_refl _)], g5, g4⟩
    unfold X9_next_b0
    rw [g1, ob (m_byte t' (by omega)), if_neg (show ¬ n < n by omega), if_neg (show ¬ (-1 : Int32) = 32 by decide), ob (m_byte t' (by omega)), if_neg (show ¬ n < n by omega), if_neg (show ¬ (-1 : Int32) = 10 by decide)]
theorem m_letters {s0 : mSG} {i : Nat} (ht : TM k n b s0) (hi : i ≤ n) (h26 : s0.1 56 26 = nI i) : ∃ s, X9_next_l100 s0 = some s ∧ (s.1 56 26 = nI (scn (isL b) n i) ∧ s.1 56 27 = s0.1 56 27 ∧ s.1 56 28 = s0.1 56 28 ∧ MK s0 s) := by
  have hn := ht.2.2.1
  unfold X9_next_l100
  refine lpE (fun j (s : mSG) => s.1 56 26 = nI j ∧ i ≤ j ∧ scn (isL b) n j = scn (isL b) n i ∧ s.1 56 27 = s0.1 56 27 ∧ s.1 56 28 = s0.1 56 28 ∧ MK s0 s) _ n (by unfold mFU; omega) ?_ ?_ (k := i) hi (x := s0) ⟨h26, Nat.le_refl _, rfl, rfl, rfl, MK_rf⟩
  · intro j s hj hv
    obtain ⟨g1, g2, g3, g5, g6, g4⟩ := hv
    have t' := MK_TM g4 ht
    have c2 := (t'.2.2.2.2 j hj).2
    have head : X9_next_b100 s = if isL b j = true then some (.inl (sI s 56 26 (nI (j + 1)))) else some (.inr s) := by
      unfold X9_next_b100
      rw [g1, ob (m_byte t' (by omega)), if_pos hj, in_nI (lo := 97) (hi := 122) (A := 97) (B := 122) c2 (by omega) (by omega) rfl rfl, nI_1]
      rfl
    by_cases q : isL b j = true
    · exact Or.inl ⟨sI s 56 26 (nI (j + 1)), by rw [head, if_pos q], sI_same, by omega, by rw [← g3, scn_y hj q], by rw [sI_oth (by decide)]; exact g5, by rw [sI_oth (by decide)]; exact g6, MK_sI g4 (by omega)⟩
    · exact Or.inr ⟨s, by rw [head, if_neg q], by rw [g1, ← g3, scn_n hj (Bool.eq_false_iff.mpr q)], g5, g6, g4⟩
  · intro s hv
    obtain ⟨g1, g2, g3, g5, g6, g4⟩ := hv
    have t' := MK_TM g4 ht
    refine ⟨s, ?_, by rw [g1, ← g3, scn_e (Nat.le_refl _)], g5, g6, g4⟩
    unfold X9_next_b100
    rw [g1, ob (m_byte t' (by omega)), if_neg (show ¬ n < n by omega), in_m1 (lo := 97) (hi := 122) (A := 97) (B := 122) (by omega) rfl rfl, if_neg (by decide)]
theorem m_digits {s0 : mSG} {i : Nat} (ht : TM k n b s0) (hi : i ≤ n) (h26 : s0.1 56 26 = nI i) (h29 : s0.2.2 56 29 = 0) : ∃ e, X9_next_l160 (0, s0) = some e ∧ (e.1 = nI (scn (isD b) n i - i) ∧ e.2.1 56 26 = nI (scn (isD b) n i) ∧ (scn (isD b) n i - i ≤ 4 → e.2.2.2 56 29 = lN (dvl b i (scn (isD b) n i - i))) ∧ e.2.1 56 28 = s0.1 56 28 ∧ MK s0 e.2) := by
  have hn := ht.2.2.1
  unfold X9_next_l160
  refine lpE (fun j (v : Int32 × mSG) => v.1 = nI (j - i) ∧ v.2.1 56 26 = nI j ∧ i ≤ j ∧ scn (isD b) n j = scn (isD b) n i ∧ (j - i ≤ 4 → v.2.2.2 56 29 = lN (dvl b i (j - i))) ∧ v.2.1 56 28 = s0.1 56 28 ∧ MK s0 v.2) (fun e : Int32 × mSG => e.1 = nI (scn (isD b) n i - i) ∧ e.2.1 56 26 = nI (scn (isD b) n i) ∧ (scn (isD b) n i - i ≤ 4 → e.2.2.2 56 29 = lN (dvl b i (scn (isD b) n i - i))) ∧ e.2.1 56 28 = s0.1 56 28 ∧ MK s0 e.2) n (by unfold mFU; omega) ?_ ?_ (k := i) hi (x := (0, s0)) ⟨by rw [Nat.sub_self]; rfl, h26, Nat.le_refl _, rfl, fun _ => by rw [Nat.sub_self]; exact h29, rfl, MK_rf⟩
  · intro j v hj hv
    obtain ⟨z, s⟩ := v
    obtain ⟨g0, g1, g2, g3, g5, g6, g4⟩ := hv
    have g0 : z = nI (j - i) := g0
    subst g0
    have g1 : s.1 56 26 = nI j := g1
    have g5 : j - i ≤ 4 → s.2.2 56 29 = lN (dvl b i (j - i)) := g5
    have g6 : s.1 56 28 = s0.1 56 28 := g6
    have g4 : MK s0 s := g4
    have t' := MK_TM g4 ht
    have c2 := (t'.2.2.2.2 j hj).2
    have head : X9_next_b160 (nI (j - i)) s = if isD b j = true then (if 4 ≤ nI (j - i) then some (.inl (nI (j - i + 1), sI (sJ s 56 29 (s.2.2 56 29)) 56 26 (nI (j + 1)))) else some (.inl (nI (j - i + 1), sI (sJ s 56 29 (10 * s.2.2 56 29 + (nI (b j)).toInt64 - 48)) 56 26 (nI (j + 1))))) else some (.inr (nI (j - i), s)) := by
      unfold X9_next_b160 X9_next_j216_160
      rw [g1, ob (m_byte t' (by omega)), if_pos hj, in_nI (lo := 48) (hi := 57) (A := 48) (B := 57) c2 (by omega) (by omega) rfl rfl, ob (m_byte t' (by omega)), if_pos hj, nI_1, nI_1]
      rfl
    by_cases q : isD b j = true
    · have q' := of_decide_eq_true q
      rw [if_pos q] at head
      by_cases q4 : j - i < 4
      · rw [if_neg (show ¬ (4 : Int32) ≤ nI (j - i) from nI_ge (b := 4) q4 (by omega))] at head
        refine Or.inl ⟨_, head, by rw [show j + 1 - i = j - i + 1 by omega], sI_same, by omega, by rw [← g3, scn_y hj q], fun _ => ?_, by rw [sI_oth (by decide)]; exact g6, MK_sI (MK_sJ g4) (by omega)⟩
        show (sJ s 56 29 (10 * s.2.2 56 29 + (nI (b j)).toInt64 - 48)).2.2 56 29 = _
        rw [sJ_at, g5 (by omega), nI_l (by omega), show (10 : Int64) * lN (dvl b i (j - i)) = lN (10 * dvl b i (j - i)) from lN_mul 10 _, lN_add, show (48 : Int64) = lN 48 from rfl, lN_sub (by omega), show j + 1 - i = (j - i) + 1 by omega]
        show lN _ = lN (dvl b i (j - i) * 10 + (b (i + (j - i)) - 48))
        rw [show i + (j - i) = j by omega]
        congr 1
        omega
      · rw [if_pos (show (4 : Int32) ≤ nI (j - i) from nI_le (a := 4) (by omega) (by omega))] at head
        exact Or.inl ⟨_, head, by rw [show j + 1 - i = j - i + 1 by omega], sI_same, by omega, by rw [← g3, scn_y hj q], fun g => absurd g (by omega), by rw [sI_oth (by decide)]; exact g6, MK_sI (MK_sJ g4) (by omega)⟩
    · rw [if_neg q] at head
      have es : scn (isD b) n i = j := by rw [← g3, scn_n hj (Bool.eq_false_iff.mpr q)]
      exact Or.inr ⟨_, head, by rw [es], by rw [es]; exact g1, by rw [es]; exact g5, g6, g4⟩
  · intro v hv
    obtain ⟨z, s⟩ := v
    obtain ⟨g0, g1, g2, g3, g5, g6, g4⟩ := hv
    have g1 : s.1 56 26 = nI n := g1
    have t' := MK_TM g4 ht
    have es : scn (isD b) n i = n := by rw [← g3, scn_e (Nat.le_refl _)]
    refine ⟨(z, s), ?_, by rw [es]; exact g0, by rw [es]; exact g1, by rw [es]; exact g5, g6, g4⟩
    show X9_next_b160 z s = _
    unfold X9_next_b160
    rw [g1, ob (m_byte t' (by omega)), if_neg (show ¬ n < n by omega), in_m1 (lo := 48) (hi := 57) (A := 48) (B := 57) (by omega) rfl rfl, if_neg (by decide)]
/-- the model has read a token from i on -/
def AM (n : Nat) (b : Nat → Nat) (i : Nat) (s : mSG) : Prop := s.1 56 28 = nI (tA b n i) ∧ s.1 56 27 = nI (kdT b n i) ∧ (kdT b n i ≠ 4 → s.1 56 26 = nI (tN b n i)) ∧ (kdT b n i = 2 → s.2.2 56 29 = lN (tV b n i)) ∧ (kdT b n i = 3 → s.2.2 56 29 = lN (tC b n i))
theorem isS_c : ∀ c, c < 256 → (isS c = true ↔ (c = 40 ∨ c = 41 ∨ c = 59 ∨ c = 43 ∨ c = 45 ∨ c = 42 ∨ c = 60 ∨ c = 61)) := fun c _ => ⟨of_decide_eq_true, decide_eq_true⟩
theorem m_next {s0 : mSG} {i : Nat} (ht : TM k n b s0) (hi : i ≤ n) (h26 : s0.1 56 26 = nI i) : ∃ s, X9_next s0 = some s ∧ AM n b i s ∧ MK s0 s := by
  have hn := ht.2.2.1
  obtain ⟨s1, e1, a1, l1, k1⟩ := m_skip ht hi h26
  have hA := tA_b (b := b) hi
  have a1 : s1.1 56 26 = nI (tA b n i) := a1
  have k2 : MK s0 (sI s1 56 28 (nI (tA b n i))) := MK_sI k1 (by omega)
  have t2 := MK_TM k2 ht
  unfold X9_next
  rw [ob e1, a1, ob (m_byte t2 (by omega))]
  have hNe : tN b n i = if tA b n i < n then (if isL b (tA b n i) = true then scn (isL b) n (tA b n i) else if isD b (tA b n i) = true then scn (isD b) n (tA b n i) else tA b n i + 1) else tA b n i := rfl
  have hCe : tC b n i = if tA b n i < n then (if isL b (tA b n i) = true then wtk b (tA b n i) (tN b n i) 12 else if isD b (tA b n i) = true then (if tN b n i - tA b n i ≤ 4 then 2 else 1) else if isS (b (tA b n i)) = true then b (tA b n i) else 1) else 0 := rfl
  have hKe : kdT b n i = if tA b n i < n then (if isL b (tA b n i) = true then 1 else if isD b (tA b n i) = true then (if tN b n i - tA b n i ≤ 4 then 2 else 4) else if isS (b (tA b n i)) = true then 3 else 4) else 0 := rfl
  have hVe : tV b n i = dvl b (tA b n i) (tN b n i - tA b n i) := rfl
  unfold AM
  generalize tA b n i = x at hA a1 k2 t2 hNe hCe hKe hVe
  by_cases q : x < n
  · rw [if_pos q] at hNe hCe hKe
    have c2 := (t2.2.2.2.2 x q).2
    rw [if_pos q, if_pos (nI_pos' (by omega)), in_nI (lo := 97) (hi := 122) (A := 97) (B := 122) c2 (by omega) (by omega) rfl rfl, in_nI (lo := 48) (hi := 57) (A := 48) (B := 57) c2 (by omega) (by omega) rfl rfl]
    by_cases qL : isL b x = true
    · rw [if_pos qL] at hNe hCe hKe
      rw [if_pos (show decide (97 ≤ b x ∧ b x ≤ 122) = true from qL)]
      have k3 : MK s0 (sI (sI (sI s1 56 28 (nI x)) 56 27 4) 56 27 1) := MK_sI (MK_sI k2 (by omega)) (by omega)
      obtain ⟨s4, e4, l4, l5, l6, k4⟩ := m_letters (MK_TM k3 ht) (show x ≤ n by omega) (by rw [sI_oth (by decide), sI_oth (by decide), sI_oth (by decide)]; exact a1)
      rw [ob e4]
      refine ⟨s4, rfl, ⟨by rw [l6, sI_oth (by decide), sI_oth (by decide), sI_same], by rw [l5, sI_same, hKe]; rfl, fun _ => by rw [l4, hNe], fun g => absurd g (by omega), fun g => absurd g (by omega)⟩, MK_tr k3 k4⟩
    · rw [if_neg qL] at hNe hCe hKe
      rw [if_neg (show ¬ decide (97 ≤ b x ∧ b x ≤ 122) = true from qL)]
      by_cases qD : isD b x = true
      · rw [if_pos qD] at hNe hCe hKe
        rw [if_pos (show decide (48 ≤ b x ∧ b x ≤ 57) = true from qD)]
        have k3 : MK s0 (sJ (sI (sI (sI s1 56 28 (nI x)) 56 27 4) 56 27 2) 56 29 0) := MK_sJ (MK_sI (MK_sI k2 (by omega)) (by omega))
        obtain ⟨⟨z, s4⟩, e4, d0, d1, d2, d3, k4⟩ := m_digits (MK_TM k3 ht) (show x ≤ n by omega) (by show (sI (sI (sI s1 56 28 (nI x)) 56 27 4) 56 27 2).1 56 26 = _; rw [sI_oth (by decide), sI_oth (by decide), sI_oth (by decide)]; exact a1) sJ_at
        have d0 : z = _ := d0
        subst d0
        have d1 : s4.1 56 26 = nI (scn (isD b) n x) := d1
        have d3 : s4.1 56 28 = nI x := d3.trans (by show (sI (sI (sI s1 56 28 (nI x)) 56 27 4) 56 27 2).1 56 28 = _; rw [sI_oth (by decide), sI_oth (by decide), sI_same])
        have sb := scn_b (p := isD b) (show x ≤ n by omega)
        rw [ob e4]
        rw [← hNe] at d1 d2 sb ⊢
        have kk : MK s0 s4 := MK_tr k3 k4
        by_cases q4 : tN b n i - x ≤ 4
        · rw [if_pos q4] at hKe hCe
          rw [if_pos (show nI (tN b n i - x) ≤ 4 from nI_le (b := 4) q4 (by omega))]
          refine ⟨_, rfl, ⟨by rw [sI_oth (by decide)]; exact d3, by rw [sI_same, hKe]; rfl, fun _ => by rw [sI_oth (by decide)]; exact d1, fun _ => by rw [hVe]; exact d2 q4, fun g => absurd g (by omega)⟩, MK_sI kk (by omega)⟩
        · rw [if_neg q4] at hKe hCe
          rw [if_neg (show ¬ nI (tN b n i - x) ≤ 4 from nI_ge (a := 4) (by omega) (by omega))]
          refine ⟨_, rfl, ⟨by rw [sI_oth (by decide)]; exact d3, by rw [sI_same, hKe]; rfl, fun g => absurd hKe g, fun g => absurd g (by omega), fun g => absurd g (by omega)⟩, MK_sI kk (by omega)⟩
      · rw [if_neg qD] at hNe hCe hKe
        rw [if_neg (show ¬ decide (48 ≤ b x ∧ b x ≤ 57) = true from qD)]
        have k3 : MK s0 (sI (sI s1 56 28 (nI x)) 56 27 4) := MK_sI k2 (by omega)
        by_cases qS : isS (b x) = true
        · rw [if_pos qS] at hCe hKe
          have good : ∃ s, X9_next_j300 (nI (b x)) (sI (sI s1 56 28 (nI x)) 56 27 4) = some s ∧ ((s.1 56 28 = nI x ∧ s.1 56 27 = nI (kdT b n i) ∧ (kdT b n i ≠ 4 → s.1 56 26 = nI (tN b n i)) ∧ (kdT b n i = 2 → s.2.2 56 29 = lN (tV b n i)) ∧ (kdT b n i = 3 → s.2.2 56 29 = lN (tC b n i))) ∧ MK s0 s) := by
            unfold X9_next_j300
            have e26 : (sI (sI s1 56 28 (nI x)) 56 27 4).1 56 26 = nI x := by rw [sI_oth (by decide), sI_oth (by decide)]; exact a1
            rw [e26, nI_1]
            refine ⟨_, rfl, ⟨?_, ?_, fun _ => ?_, fun g => absurd g (by omega), fun _ => ?_⟩, MK_sI (MK_sJ (MK_sI k3 (by omega))) (by omega)⟩
            · rw [sI_oth (by decide)]
              show (sI (sI (sI s1 56 28 (nI x)) 56 27 4) 56 27 3).1 56 28 = _
              rw [sI_oth (by decide), sI_oth (by decide), sI_same]
            · rw [sI_oth (by decide)]
              show (sI (sI (sI s1 56 28 (nI x)) 56 27 4) 56 27 3).1 56 27 = _
              rw [sI_same, hKe]
              rfl
            · rw [sI_same, hNe]
            · show (sJ (sI (sI (sI s1 56 28 (nI x)) 56 27 4) 56 27 3) 56 29 (nI (b x)).toInt64).2.2 56 29 = _
              rw [sJ_at, hCe, nI_l (by omega)]
          have ne : ∀ c, c < 256 → (nI (b x) = nI c) = (b x = c) := fun c hc => nl_eq (by omega) (by omega)
          have hs := of_decide_eq_true qS
          rw [show (40 : Int32) = nI 40 from rfl, show (41 : Int32) = nI 41 from rfl, show (59 : Int32) = nI 59 from rfl, show (43 : Int32) = nI 43 from rfl, show (45 : Int32) = nI 45 from rfl, show (42 : Int32) = nI 42 from rfl, show (60 : Int32) = nI 60 from rfl, show (61 : Int32) = nI 61 from rfl]
          by_cases h1 : b x = 40
          · rw [if_pos ((ne 40 (by omega)).mpr h1)]; exact good
          · rw [if_neg (fun g => h1 ((ne 40 (by omega)).mp g))]
            by_cases h2 : b x = 41
            · rw [if_pos ((ne 41 (by omega)).mpr h2)]; exact good
            · rw [if_neg (fun g => h2 ((ne 41 (by omega)).mp g))]
              by_cases h3 : b x = 59
              · rw [if_pos ((ne 59 (by omega)).mpr h3)]; exact good
              · rw [if_neg (fun g => h3 ((ne 59 (by omega)).mp g))]
                by_cases h4 : b x = 43
                · rw [if_pos ((ne 43 (by omega)).mpr h4)]; exact good
                · rw [if_neg (fun g => h4 ((ne 43 (by omega)).mp g))]
                  by_cases h5 : b x = 45
                  · rw [if_pos ((ne 45 (by omega)).mpr h5)]; exact good
                  · rw [if_neg (fun g => h5 ((ne 45 (by omega)).mp g))]
                    by_cases h6 : b x = 42
                    · rw [if_pos ((ne 42 (by omega)).mpr h6)]; exact good
                    · rw [if_neg (fun g => h6 ((ne 42 (by omega)).mp g))]
                      by_cases h7 : b x = 60
                      · rw [if_pos ((ne 60 (by omega)).mpr h7)]; exact good
                      · rw [if_neg (fun g => h7 ((ne 60 (by omega)).mp g)), if_pos ((ne 61 (by omega)).mpr (by omega))]
                        exact good
        · rw [if_neg qS] at hCe hKe
          have hs : ¬ (b x = 40 ∨ b x = 41 ∨ b x = 59 ∨ b x = 43 ∨ b x = 45 ∨ b x = 42 ∨ b x = 60 ∨ b x = 61) := fun g => qS (decide_eq_true g)
          have ne : ∀ c, c < 256 → (nI (b x) = nI c) = (b x = c) := fun c hc => nl_eq (by omega) (by omega)
          rw [show (40 : Int32) = nI 40 from rfl, show (41 : Int32) = nI 41 from rfl, show (59 : Int32) = nI 59 from rfl, show (43 : Int32) = nI 43 from rfl, show (45 : Int32) = nI 45 from rfl, show (42 : Int32) = nI 42 from rfl, show (60 : Int32) = nI 60 from rfl, show (61 : Int32) = nI 61 from rfl]
          rw [if_neg (fun g => hs (by have := (ne 40 (by omega)).mp g; omega)), if_neg (fun g => hs (by have := (ne 41 (by omega)).mp g; omega)), if_neg (fun g => hs (by have := (ne 59 (by omega)).mp g; omega)), if_neg (fun g => hs (by have := (ne 43 (by omega)).mp g; omega)), if_neg (fun g => hs (by have := (ne 45 (by omega)).mp g; omega)), if_neg (fun g => hs (by have := (ne 42 (by omega)).mp g; omega)), if_neg (fun g => hs (by have := (ne 60 (by omega)).mp g; omega)), if_neg (fun g => hs (by have := (ne 61 (by omega)).mp g; omega))]
          exact ⟨_, rfl, ⟨by rw [sI_oth (by decide), sI_same], by rw [sI_same, hKe]; rfl, fun g => absurd hKe g, fun g => absurd g (by omega), fun g => absurd g (by omega)⟩, k3⟩
  · rw [if_neg q] at hNe hCe hKe
    rw [if_neg q, if_neg (show ¬ (0 : Int32) ≤ -1 by decide), k1.1 25 (by decide) (by decide) (by decide), ht.2.1]
    exact ⟨_, rfl, ⟨by rw [sI_same, show n = x by omega], by rw [sI_oth (by decide), sI_same, hKe]; rfl, fun _ => by rw [sI_oth (by decide), sI_oth (by decide), sI_oth (by decide), sI_oth (by decide), hNe]; exact a1, fun g => absurd g (by omega), fun g => absurd g (by omega)⟩, MK_sI (MK_sI (MK_sI k2 (by omega)) (by omega)) (by omega)⟩
end
