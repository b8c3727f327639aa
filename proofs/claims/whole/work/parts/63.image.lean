/-! image, back -/
theorem sC_ne {s : mSG} {a b sp dp n c k : Nat} (h : c ≠ b) : (sC s a b sp dp n).1 c k = s.1 c k := by
  show mUr s.1 b _ c k = _
  rw [mUr_ne h]
theorem sC_row {s : mSG} {a b sp dp n : Nat} : (sC s a b sp dp n).1 b = va_cpy (s.1 a) (s.1 b) sp dp n := by
  show mUr s.1 b _ b = _
  unfold mUr
  simp
theorem sC_at {s : mSG} {a b n j : Nat} (h : j < n) : (sC s a b 0 0 n).1 b j = s.1 a j := by
  rw [sC_row, pk_cpy_in (Nat.zero_le _) (by omega), Nat.zero_add, Nat.sub_zero]
theorem c_bec_12_7 {A : Ab} {s : mSG} (h : RS 7 8 9 10 11 A s) (h5 : A.pp ≤ 5) : ∃ s', X5_become_12_7 s = some s' ∧ RS 12 13 14 15 16 A s' := by
  obtain ⟨k1, k2, k3, k4, k5, k6, k7, k8, k9, k10, k11, k12⟩ := h
  refine ⟨(sI (sI (sI (sC (sC (sC (sC s 8 13 0 0 64) 9 14 0 0 30) 10 15 0 0 25) 11 16 0 0 24) 12 4 (s.1 7 4)) 12 5 (s.1 7 5)) 12 6 (s.1 7 6)), rfl, ?_⟩
  have gm : ∀ i, i < 64 → (sI (sI (sI (sC (sC (sC (sC s 8 13 0 0 64) 9 14 0 0 30) 10 15 0 0 25) 11 16 0 0 24) 12 4 (s.1 7 4)) 12 5 (s.1 7 5)) 12 6 (s.1 7 6)).1 13 i = s.1 8 i := fun i hi => by
    rw [sI_adr (by decide), sI_adr (by decide), sI_adr (by decide), sC_ne (by decide), sC_ne (by decide), sC_ne (by decide), sC_at hi]
  have gt : ∀ i, i < 30 → (sI (sI (sI (sC (sC (sC (sC s 8 13 0 0 64) 9 14 0 0 30) 10 15 0 0 25) 11 16 0 0 24) 12 4 (s.1 7 4)) 12 5 (s.1 7 5)) 12 6 (s.1 7 6)).1 14 i = s.1 9 i := fun i hi => by
    rw [sI_adr (by decide), sI_adr (by decide), sI_adr (by decide), sC_ne (by decide), sC_ne (by decide), sC_at hi, sC_ne (by decide)]
  have gd : ∀ i, i < 25 → (sI (sI (sI (sC (sC (sC (sC s 8 13 0 0 64) 9 14 0 0 30) 10 15 0 0 25) 11 16 0 0 24) 12 4 (s.1 7 4)) 12 5 (s.1 7 5)) 12 6 (s.1 7 6)).1 15 i = s.1 10 i := fun i hi => by
    rw [sI_adr (by decide), sI_adr (by decide), sI_adr (by decide), sC_ne (by decide), sC_at hi, sC_ne (by decide), sC_ne (by decide)]
  have gr : ∀ i, i < 24 → (sI (sI (sI (sC (sC (sC (sC s 8 13 0 0 64) 9 14 0 0 30) 10 15 0 0 25) 11 16 0 0 24) 12 4 (s.1 7 4)) 12 5 (s.1 7 5)) 12 6 (s.1 7 6)).1 16 i = s.1 11 i := fun i hi => by
    rw [sI_adr (by decide), sI_adr (by decide), sI_adr (by decide), sC_at hi, sC_ne (by decide), sC_ne (by decide), sC_ne (by decide)]
  refine ⟨fun i hi => (gm i hi).trans (k1 i hi), fun p hp => (gt _ (by omega)).trans (k2 p hp), fun p hp => (gt _ (by omega)).trans (k3 p hp), fun p hp => (gt _ (by omega)).trans (k4 p hp), fun p hp => (gt _ (by omega)).trans (k5 p hp), fun p hp => (gt _ (by omega)).trans (k6 p hp), fun p hp => (gt _ (by omega)).trans (k7 p hp), fun i hi => (gd i hi).trans (k8 i hi), fun i hi => (gr i hi).trans (k9 i hi), ?_, ?_, ?_⟩
  · rw [sI_oth (by decide), sI_oth (by decide), sI_same]; exact k10
  · rw [sI_oth (by decide), sI_same]; exact k11
  · rw [sI_same]; exact k12
theorem c_bec_7_12 {A : Ab} {s : mSG} (h : RS 12 13 14 15 16 A s) (h5 : A.pp ≤ 5) : ∃ s', X5_become_7_12 s = some s' ∧ RS 7 8 9 10 11 A s' := by
  obtain ⟨k1, k2, k3, k4, k5, k6, k7, k8, k9, k10, k11, k12⟩ := h
  refine ⟨(sI (sI (sI (sC (sC (sC (sC s 13 8 0 0 64) 14 9 0 0 30) 15 10 0 0 25) 16 11 0 0 24) 7 4 (s.1 12 4)) 7 5 (s.1 12 5)) 7 6 (s.1 12 6)), rfl, ?_⟩
  have gm : ∀ i, i < 64 → (sI (sI (sI (sC (sC (sC (sC s 13 8 0 0 64) 14 9 0 0 30) 15 10 0 0 25) 16 11 0 0 24) 7 4 (s.1 12 4)) 7 5 (s.1 12 5)) 7 6 (s.1 12 6)).1 8 i = s.1 13 i := fun i hi => by
    rw [sI_adr (by decide), sI_adr (by decide), sI_adr (by decide), sC_ne (by decide), sC_ne (by decide), sC_ne (by decide), sC_at hi]
  have gt : ∀ i, i < 30 → (sI (sI (sI (sC (sC (sC (sC s 13 8 0 0 64) 14 9 0 0 30) 15 10 0 0 25) 16 11 0 0 24) 7 4 (s.1 12 4)) 7 5 (s.1 12 5)) 7 6 (s.1 12 6)).1 9 i = s.1 14 i := fun i hi => by
    rw [sI_adr (by decide), sI_adr (by decide), sI_adr (by decide), sC_ne (by decide), sC_ne (by decide), sC_at hi, sC_ne (by decide)]
  have gd : ∀ i, i < 25 → (sI (sI (sI (sC (sC (sC (sC s 13 8 0 0 64) 14 9 0 0 30) 15 10 0 0 25) 16 11 0 0 24) 7 4 (s.1 12 4)) 7 5 (s.1 12 5)) 7 6 (s.1 12 6)).1 10 i = s.1 15 i := fun i hi => by
    rw [sI_adr (by decide), sI_adr (by decide), sI_adr (by decide), sC_ne (by decide), sC_at hi, sC_ne (by decide), sC_ne (by decide)]
  have gr : ∀ i, i < 24 → (sI (sI (sI (sC (sC (sC (sC s 13 8 0 0 64) 14 9 0 0 30) 15 10 0 0 25) 16 11 0 0 24) 7 4 (s.1 12 4)) 7 5 (s.1 12 5)) 7 6 (s.1 12 6)).1 11 i = s.1 16 i := fun i hi => by
    rw [sI_adr (by decide), sI_adr (by decide), sI_adr (by decide), sC_at hi, sC_ne (by decide), sC_ne (by decide), sC_ne (by decide)]
  refine ⟨fun i hi => (gm i hi).trans (k1 i hi), fun p hp => (gt _ (by omega)).trans (k2 p hp), fun p hp => (gt _ (by omega)).trans (k3 p hp), fun p hp => (gt _ (by omega)).trans (k4 p hp), fun p hp => (gt _ (by omega)).trans (k5 p hp), fun p hp => (gt _ (by omega)).trans (k6 p hp), fun p hp => (gt _ (by omega)).trans (k7 p hp), fun i hi => (gd i hi).trans (k8 i hi), fun i hi => (gr i hi).trans (k9 i hi), ?_, ?_, ?_⟩
  · rw [sI_oth (by decide), sI_oth (by decide), sI_same]; exact k10
  · rw [sI_oth (by decide), sI_same]; exact k11
  · rw [sI_same]; exact k12
theorem c_bec_17_7 {A : Ab} {s : mSG} (h : RS 7 8 9 10 11 A s) (h5 : A.pp ≤ 5) : ∃ s', X5_become_17_7 s = some s' ∧ RS 17 18 19 20 21 A s' := by
  obtain ⟨k1, k2, k3, k4, k5, k6, k7, k8, k9, k10, k11, k12⟩ := h
  refine ⟨(sI (sI (sI (sC (sC (sC (sC s 8 18 0 0 64) 9 19 0 0 30) 10 20 0 0 25) 11 21 0 0 24) 17 4 (s.1 7 4)) 17 5 (s.1 7 5)) 17 6 (s.1 7 6)), rfl, ?_⟩
  have gm : ∀ i, i < 64 → (sI (sI (sI (sC (sC (sC (sC s 8 18 0 0 64) 9 19 0 0 30) 10 20 0 0 25) 11 21 0 0 24) 17 4 (s.1 7 4)) 17 5 (s.1 7 5)) 17 6 (s.1 7 6)).1 18 i = s.1 8 i := fun i hi => by
    rw [sI_adr (by decide), sI_adr (by decide), sI_adr (by decide), sC_ne (by decide), sC_ne (by decide), sC_ne (by decide), sC_at hi]
  have gt : ∀ i, i < 30 → (sI (sI (sI (sC (sC (sC (sC s 8 18 0 0 64) 9 19 0 0 30) 10 20 0 0 25) 11 21 0 0 24) 17 4 (s.1 7 4)) 17 5 (s.1 7 5)) 17 6 (s.1 7 6)).1 19 i = s.1 9 i := fun i hi => by
    rw [sI_adr (by decide), sI_adr (by decide), sI_adr (by decide), sC_ne (by decide), sC_ne (by decide), sC_at hi, sC_ne (by decide)]
  have gd : ∀ i, i < 25 → (sI (sI (sI (sC (sC (sC (sC s 8 18 0 0 64) 9 19 0 0 30) 10 20 0 0 25) 11 21 0 0 24) 17 4 (s.1 7 4)) 17 5 (s.1 7 5)) 17 6 (s.1 7 6)).1 20 i = s.1 10 i := fun i hi => by
    rw [sI_adr (by decide), sI_adr (by decide), sI_adr (by decide), sC_ne (by decide), sC_at hi, sC_ne (by decide), sC_ne (by decide)]
  have gr : ∀ i, i < 24 → (sI (sI (sI (sC (sC (sC (sC s 8 18 0 0 64) 9 19 0 0 30) 10 20 0 0 25) 11 21 0 0 24) 17 4 (s.1 7 4)) 17 5 (s.1 7 5)) 17 6 (s.1 7 6)).1 21 i = s.1 11 i := fun i hi => by
    rw [sI_adr (by decide), sI_adr (by decide), sI_adr (by decide), sC_at hi, sC_ne (by decide), sC_ne (by decide), sC_ne (by decide)]
  refine ⟨fun i hi => (gm i hi).trans (k1 i hi), fun p hp => (gt _ (by omega)).trans (k2 p hp), fun p hp => (gt _ (by omega)).trans (k3 p hp), fun p hp => (gt _ (by omega)).trans (k4 p hp), fun p hp => (gt _ (by omega)).trans (k5 p hp), fun p hp => (gt _ (by omega)).trans (k6 p hp), fun p hp => (gt _ (by omega)).trans (k7 p hp), fun i hi => (gd i hi).trans (k8 i hi), fun i hi => (gr i hi).trans (k9 i hi), ?_, ?_, ?_⟩
  · rw [sI_oth (by decide), sI_oth (by decide), sI_same]; exact k10
  · rw [sI_oth (by decide), sI_same]; exact k11
  · rw [sI_same]; exact k12
theorem m_image_l2 (s0 : mSG) : ∃ s', X9_image_l2 (0, s0) = some s' ∧ (∀ i, i < 64 → s'.1 76 i = s0.1 60 i) ∧ ∀ a, a ≠ 76 → s'.1 a = s0.1 a := by
  unfold X9_image_l2
  refine lpN (fun i (v : Int32 × mSG) => v.1 = nI i ∧ (∀ j, j < i → v.2.1 76 j = s0.1 60 j) ∧ ∀ a, a ≠ 76 → v.2.1 a = s0.1 a) (fun s' : mSG => (∀ i, i < 64 → s'.1 76 i = s0.1 60 i) ∧ ∀ a, a ≠ 76 → s'.1 a = s0.1 a) 64 (by unfold mFU; omega) ?_ ?_ (k := 0) (by omega) (x := (0, s0)) ⟨rfl, fun j hj => absurd hj (Nat.not_lt_zero j), fun _ _ => rfl⟩
  · intro i v hi hv
    obtain ⟨x, s⟩ := v
    obtain ⟨e, r, g⟩ := hv
    have e : x = nI i := e
    subst e
    have r : ∀ j, j < i → s.1 76 j = s0.1 60 j := r
    have g : ∀ a, a ≠ 76 → s.1 a = s0.1 a := g
    refine ⟨(nI (i + 1), sI s 76 i (s.1 60 i)), ?_, rfl, fun j hj => ?_, fun a ha => ?_⟩
    · show X9_image_b2 (nI i) s = _
      unfold X9_image_b2
      rw [if_neg (gl_le (x := 64) (m := 64) rfl hi (by omega)), if_pos (gl_inb hi (by omega)), nl_cl (by omega), nI_1]
    · show (sI s 76 i (s.1 60 i)).1 76 j = _
      by_cases q : j = i
      · subst q
        rw [sI_same, g 60 (by decide)]
      · rw [sI_oth q]
        exact r j (by omega)
    · rw [← g a ha]
      funext k
      show (sI s 76 i (s.1 60 i)).1 a k = s.1 a k
      rw [sI_adr ha]
  · intro v hv
    obtain ⟨x, s⟩ := v
    obtain ⟨e, r, g⟩ := hv
    have e : x = nI 64 := e
    subst e
    refine ⟨s, ?_, r, g⟩
    show X9_image_b2 (nI 64) s = _
    unfold X9_image_b2
    rw [if_pos (show (64 : Int32) ≤ nI 64 from by decide)]
theorem m_image_l28 (s0 : mSG) : ∃ s', X9_image_l28 (0, s0) = some s' ∧ (∀ i, i < 25 → s'.1 78 i = s0.1 67 i) ∧ ∀ a, a ≠ 78 → s'.1 a = s0.1 a := by
  unfold X9_image_l28
  refine lpN (fun i (v : Int32 × mSG) => v.1 = nI i ∧ (∀ j, j < i → v.2.1 78 j = s0.1 67 j) ∧ ∀ a, a ≠ 78 → v.2.1 a = s0.1 a) (fun s' : mSG => (∀ i, i < 25 → s'.1 78 i = s0.1 67 i) ∧ ∀ a, a ≠ 78 → s'.1 a = s0.1 a) 25 (by unfold mFU; omega) ?_ ?_ (k := 0) (by omega) (x := (0, s0)) ⟨rfl, fun j hj => absurd hj (Nat.not_lt_zero j), fun _ _ => rfl⟩
  · intro i v hi hv
    obtain ⟨x, s⟩ := v
    obtain ⟨e, r, g⟩ := hv
    have e : x = nI i := e
    subst e
    have r : ∀ j, j < i → s.1 78 j = s0.1 67 j := r
    have g : ∀ a, a ≠ 78 → s.1 a = s0.1 a := g
    refine ⟨(nI (i + 1), sI s 78 i (s.1 67 i)), ?_, rfl, fun j hj => ?_, fun a ha => ?_⟩
    · show X9_image_b28 (nI i) s = _
      unfold X9_image_b28
      rw [if_neg (gl_le (x := 25) (m := 25) rfl hi (by omega)), if_pos (gl_inb hi (by omega)), nl_cl (by omega), nI_1]
    · show (sI s 78 i (s.1 67 i)).1 78 j = _
      by_cases q : j = i
      · subst q
        rw [sI_same, g 67 (by decide)]
      · rw [sI_oth q]
        exact r j (by omega)
    · rw [← g a ha]
      funext k
      show (sI s 78 i (s.1 67 i)).1 a k = s.1 a k
      rw [sI_adr ha]
  · intro v hv
    obtain ⟨x, s⟩ := v
    obtain ⟨e, r, g⟩ := hv
    have e : x = nI 25 := e
    subst e
    refine ⟨s, ?_, r, g⟩
    show X9_image_b28 (nI 25) s = _
    unfold X9_image_b28
    rw [if_pos (show (25 : Int32) ≤ nI 25 from by decide)]
theorem m_image_l54 (s0 : mSG) : ∃ s', X9_image_l54 (0, s0) = some s' ∧ (∀ i, i < 24 → s'.1 79 i = s0.1 68 i) ∧ ∀ a, a ≠ 79 → s'.1 a = s0.1 a := by
  unfold X9_image_l54
  refine lpN (fun i (v : Int32 × mSG) => v.1 = nI i ∧ (∀ j, j < i → v.2.1 79 j = s0.1 68 j) ∧ ∀ a, a ≠ 79 → v.2.1 a = s0.1 a) (fun s' : mSG => (∀ i, i < 24 → s'.1 79 i = s0.1 68 i) ∧ ∀ a, a ≠ 79 → s'.1 a = s0.1 a) 24 (by unfold mFU; omega) ?_ ?_ (k := 0) (by omega) (x := (0, s0)) ⟨rfl, fun j hj => absurd hj (Nat.not_lt_zero j), fun _ _ => rfl⟩
  · intro i v hi hv
    obtain ⟨x, s⟩ := v
    obtain ⟨e, r, g⟩ := hv
    have e : x = nI i := e
    subst e
    have r : ∀ j, j < i → s.1 79 j = s0.1 68 j := r
    have g : ∀ a, a ≠ 79 → s.1 a = s0.1 a := g
    refine ⟨(nI (i + 1), sI s 79 i (s.1 68 i)), ?_, rfl, fun j hj => ?_, fun a ha => ?_⟩
    · show X9_image_b54 (nI i) s = _
      unfold X9_image_b54
      rw [if_neg (gl_le (x := 24) (m := 24) rfl hi (by omega)), if_pos (gl_inb hi (by omega)), nl_cl (by omega), nI_1]
    · show (sI s 79 i (s.1 68 i)).1 79 j = _
      by_cases q : j = i
      · subst q
        rw [sI_same, g 68 (by decide)]
      · rw [sI_oth q]
        exact r j (by omega)
    · rw [← g a ha]
      funext k
      show (sI s 79 i (s.1 68 i)).1 a k = s.1 a k
      rw [sI_adr ha]
  · intro v hv
    obtain ⟨x, s⟩ := v
    obtain ⟨e, r, g⟩ := hv
    have e : x = nI 24 := e
    subst e
    refine ⟨s, ?_, r, g⟩
    show X9_image_b54 (nI 24) s = _
    unfold X9_image_b54
    rw [if_pos (show (24 : Int32) ≤ nI 24 from by decide)]
theorem m_back_l13 (s0 : mSG) : ∃ s', X9_back_l13 (0, s0) = some s' ∧ (∀ i, i < 64 → s'.1 60 i = s0.1 76 i) ∧ ∀ a, a ≠ 60 → s'.1 a = s0.1 a := by
  unfold X9_back_l13
  refine lpN (fun i (v : Int32 × mSG) => v.1 = nI i ∧ (∀ j, j < i → v.2.1 60 j = s0.1 76 j) ∧ ∀ a, a ≠ 60 → v.2.1 a = s0.1 a) (fun s' : mSG => (∀ i, i < 64 → s'.1 60 i = s0.1 76 i) ∧ ∀ a, a ≠ 60 → s'.1 a = s0.1 a) 64 (by unfold mFU; omega) ?_ ?_ (k := 0) (by omega) (x := (0, s0)) ⟨rfl, fun j hj => absurd hj (Nat.not_lt_zero j), fun _ _ => rfl⟩
  · intro i v hi hv
    obtain ⟨x, s⟩ := v
    obtain ⟨e, r, g⟩ := hv
    have e : x = nI i := e
    subst e
    have r : ∀ j, j < i → s.1 60 j = s0.1 76 j := r
    have g : ∀ a, a ≠ 60 → s.1 a = s0.1 a := g
    refine ⟨(nI (i + 1), sI s 60 i (s.1 76 i)), ?_, rfl, fun j hj => ?_, fun a ha => ?_⟩
    · show X9_back_b13 (nI i) s = _
      unfold X9_back_b13
      rw [if_neg (gl_le (x := 64) (m := 64) rfl hi (by omega)), if_pos (gl_inb hi (by omega)), nl_cl (by omega), nI_1]
    · show (sI s 60 i (s.1 76 i)).1 60 j = _
      by_cases q : j = i
      · subst q
        rw [sI_same, g 76 (by decide)]
      · rw [sI_oth q]
        exact r j (by omega)
    · rw [← g a ha]
      funext k
      show (sI s 60 i (s.1 76 i)).1 a k = s.1 a k
      rw [sI_adr ha]
  · intro v hv
    obtain ⟨x, s⟩ := v
    obtain ⟨e, r, g⟩ := hv
    have e : x = nI 64 := e
    subst e
    refine ⟨s, ?_, r, g⟩
    show X9_back_b13 (nI 64) s = _
    unfold X9_back_b13
    rw [if_pos (show (64 : Int32) ≤ nI 64 from by decide)]
theorem m_back_l39 (s0 : mSG) : ∃ s', X9_back_l39 (0, s0) = some s' ∧ (∀ i, i < 25 → s'.1 67 i = s0.1 78 i) ∧ ∀ a, a ≠ 67 → s'.1 a = s0.1 a := by
  unfold X9_back_l39
  refine lpN (fun i (v : Int32 × mSG) => v.1 = nI i ∧ (∀ j, j < i → v.2.1 67 j = s0.1 78 j) ∧ ∀ a, a ≠ 67 → v.2.1 a = s0.1 a) (fun s' : mSG => (∀ i, i < 25 → s'.1 67 i = s0.1 78 i) ∧ ∀ a, a ≠ 67 → s'.1 a = s0.1 a) 25 (by unfold mFU; omega) ?_ ?_ (k := 0) (by omega) (x := (0, s0)) ⟨rfl, fun j hj => absurd hj (Nat.not_lt_zero j), fun _ _ => rfl⟩
  · intro i v hi hv
    obtain ⟨x, s⟩ := v
    obtain ⟨e, r, g⟩ := hv
    have e : x = nI i := e
    subst e
    have r : ∀ j, j < i → s.1 67 j = s0.1 78 j := r
    have g : ∀ a, a ≠ 67 → s.1 a = s0.1 a := g
    refine ⟨(nI (i + 1), sI s 67 i (s.1 78 i)), ?_, rfl, fun j hj => ?_, fun a ha => ?_⟩
    · show X9_back_b39 (nI i) s = _
      unfold X9_back_b39
      rw [if_neg (gl_le (x := 25) (m := 25) rfl hi (by omega)), if_pos (gl_inb hi (by omega)), nl_cl (by omega), nI_1]
    · show (sI s 67 i (s.1 78 i)).1 67 j = _
      by_cases q : j = i
      · subst q
        rw [sI_same, g 78 (by decide)]
      · rw [sI_oth q]
        exact r j (by omega)
    · rw [← g a ha]
      funext k
      show (sI s 67 i (s.1 78 i)).1 a k = s.1 a k
      rw [sI_adr ha]
  · intro v hv
    obtain ⟨x, s⟩ := v
    obtain ⟨e, r, g⟩ := hv
    have e : x = nI 25 := e
    subst e
    refine ⟨s, ?_, r, g⟩
    show X9_back_b39 (nI 25) s = _
    unfold X9_back_b39
    rw [if_pos (show (25 : Int32) ≤ nI 25 from by decide)]
theorem m_back_l65 (s0 : mSG) : ∃ s', X9_back_l65 (0, s0) = some s' ∧ (∀ i, i < 24 → s'.1 68 i = s0.1 79 i) ∧ ∀ a, a ≠ 68 → s'.1 a = s0.1 a := by
  unfold X9_back_l65
  refine lpN (fun i (v : Int32 × mSG) => v.1 = nI i ∧ (∀ j, j < i → v.2.1 68 j = s0.1 79 j) ∧ ∀ a, a ≠ 68 → v.2.1 a = s0.1 a) (fun s' : mSG => (∀ i, i < 24 → s'.1 68 i = s0.1 79 i) ∧ ∀ a, a ≠ 68 → s'.1 a = s0.1 a) 24 (by unfold mFU; omega) ?_ ?_ (k := 0) (by omega) (x := (0, s0)) ⟨rfl, fun j hj => absurd hj (Nat.not_lt_zero j), fun _ _ => rfl⟩
  · intro i v hi hv
    obtain ⟨x, s⟩ := v
    obtain ⟨e, r, g⟩ := hv
    have e : x = nI i := e
    subst e
    have r : ∀ j, j < i → s.1 68 j = s0.1 79 j := r
    have g : ∀ a, a ≠ 68 → s.1 a = s0.1 a := g
    refine ⟨(nI (i + 1), sI s 68 i (s.1 79 i)), ?_, rfl, fun j hj => ?_, fun a ha => ?_⟩
    · show X9_back_b65 (nI i) s = _
      unfold X9_back_b65
      rw [if_neg (gl_le (x := 24) (m := 24) rfl hi (by omega)), if_pos (gl_inb hi (by omega)), nl_cl (by omega), nI_1]
    · show (sI s 68 i (s.1 79 i)).1 68 j = _
      by_cases q : j = i
      · subst q
        rw [sI_same, g 79 (by decide)]
      · rw [sI_oth q]
        exact r j (by omega)
    · rw [← g a ha]
      funext k
      show (sI s 68 i (s.1 79 i)).1 a k = s.1 a k
      rw [sI_adr ha]
  · intro v hv
    obtain ⟨x, s⟩ := v
    obtain ⟨e, r, g⟩ := hv
    have e : x = nI 24 := e
    subst e
    refine ⟨s, ?_, r, g⟩
    show X9_back_b65 (nI 24) s = _
    unfold X9_back_b65
    rw [if_pos (show (24 : Int32) ≤ nI 24 from by decide)]
theorem m_image_l80 (s0 : mSG) : ∃ s', X9_image_l80 (0, s0) = some s' ∧ (∀ j, j < 5 → s'.1 77 j = s0.1 65 j ∧ s'.1 77 (5 + j) = s0.1 63 j ∧ s'.1 77 (10 + j) = s0.1 66 j ∧ s'.1 77 (15 + j) = s0.1 64 j ∧ s'.1 77 (20 + j) = s0.1 62 j) ∧ ∀ a, a ≠ 77 → s'.1 a = s0.1 a := by
  unfold X9_image_l80
  refine lpN (fun i (v : Int32 × mSG) => v.1 = nI i ∧ (∀ j, j < i → v.2.1 77 j = s0.1 65 j ∧ v.2.1 77 (5 + j) = s0.1 63 j ∧ v.2.1 77 (10 + j) = s0.1 66 j ∧ v.2.1 77 (15 + j) = s0.1 64 j ∧ v.2.1 77 (20 + j) = s0.1 62 j) ∧ ∀ a, a ≠ 77 → v.2.1 a = s0.1 a) (fun s' : mSG => (∀ j, j < 5 → s'.1 77 j = s0.1 65 j ∧ s'.1 77 (5 + j) = s0.1 63 j ∧ s'.1 77 (10 + j) = s0.1 66 j ∧ s'.1 77 (15 + j) = s0.1 64 j ∧ s'.1 77 (20 + j) = s0.1 62 j) ∧ ∀ a, a ≠ 77 → s'.1 a = s0.1 a) 5 (by unfold mFU; omega) ?_ ?_ (k := 0) (by omega) (x := (0, s0)) ⟨rfl, fun j hj => absurd hj (Nat.not_lt_zero j), fun _ _ => rfl⟩
  · intro i v hi hv
    obtain ⟨x, s⟩ := v
    obtain ⟨e, r, g⟩ := hv
    have e : x = nI i := e
    subst e
    have r : ∀ j, j < i → s.1 77 j = s0.1 65 j ∧ s.1 77 (5 + j) = s0.1 63 j ∧ s.1 77 (10 + j) = s0.1 66 j ∧ s.1 77 (15 + j) = s0.1 64 j ∧ s.1 77 (20 + j) = s0.1 62 j := r
    have g : ∀ a, a ≠ 77 → s.1 a = s0.1 a := g
    refine ⟨(nI (i + 1), (sI (sI (sI (sI (sI s 77 i (s.1 65 i)) 77 (5 + i) (s.1 63 i)) 77 (10 + i) (s.1 66 i)) 77 (15 + i) (s.1 64 i)) 77 (20 + i) (s.1 62 i))), ?_, rfl, fun j hj => ?_, fun a ha => ?_⟩
    · show X9_image_b80 (nI i) s = _
      unfold X9_image_b80
      rw [if_neg (gl_le (x := 5) (m := 5) rfl hi (by omega)), if_pos (gl_inb hi (by omega)), if_pos (gl_inb (show i < 25 by omega) (by omega))]
      rw [show (5 : Int32) + nI i = nI (5 + i) from nI_add 5 i, show (10 : Int32) + nI i = nI (10 + i) from nI_add 10 i, show (15 : Int32) + nI i = nI (15 + i) from nI_add 15 i, show (20 : Int32) + nI i = nI (20 + i) from nI_add 20 i]
      rw [if_pos (gl_inb (show 5 + i < 25 by omega) (by omega)), if_pos (gl_inb (show 10 + i < 25 by omega) (by omega)), if_pos (gl_inb (show 15 + i < 25 by omega) (by omega)), if_pos (gl_inb (show 20 + i < 25 by omega) (by omega)), nl_cl (by omega), nl_cl (by omega), nl_cl (by omega), nl_cl (by omega), nl_cl (by omega), nI_1]
    · show (sI (sI (sI (sI (sI s 77 i (s.1 65 i)) 77 (5 + i) (s.1 63 i)) 77 (10 + i) (s.1 66 i)) 77 (15 + i) (s.1 64 i)) 77 (20 + i) (s.1 62 i)).1 77 j = s0.1 65 j ∧ (sI (sI (sI (sI (sI s 77 i (s.1 65 i)) 77 (5 + i) (s.1 63 i)) 77 (10 + i) (s.1 66 i)) 77 (15 + i) (s.1 64 i)) 77 (20 + i) (s.1 62 i)).1 77 (5 + j) = s0.1 63 j ∧ (sI (sI (sI (sI (sI s 77 i (s.1 65 i)) 77 (5 + i) (s.1 63 i)) 77 (10 + i) (s.1 66 i)) 77 (15 + i) (s.1 64 i)) 77 (20 + i) (s.1 62 i)).1 77 (10 + j) = s0.1 66 j ∧ (sI (sI (sI (sI (sI s 77 i (s.1 65 i)) 77 (5 + i) (s.1 63 i)) 77 (10 + i) (s.1 66 i)) 77 (15 + i) (s.1 64 i)) 77 (20 + i) (s.1 62 i)).1 77 (15 + j) = s0.1 64 j ∧ (sI (sI (sI (sI (sI s 77 i (s.1 65 i)) 77 (5 + i) (s.1 63 i)) 77 (10 + i) (s.1 66 i)) 77 (15 + i) (s.1 64 i)) 77 (20 + i) (s.1 62 i)).1 77 (20 + j) = s0.1 62 j
      by_cases q : j = i
      · subst q
        simp (disch := omega) only [sI_same, sI_oth]
        rw [g 65 (by decide), g 63 (by decide), g 66 (by decide), g 64 (by decide), g 62 (by decide)]
        exact ⟨rfl, rfl, rfl, rfl, rfl⟩
      · have hj' : j < i := by have : j < i + 1 := hj; omega
        simp (disch := omega) only [sI_oth]
        exact r j hj'
    · rw [← g a ha]
      funext k
      show (sI (sI (sI (sI (sI s 77 i (s.1 65 i)) 77 (5 + i) (s.1 63 i)) 77 (10 + i) (s.1 66 i)) 77 (15 + i) (s.1 64 i)) 77 (20 + i) (s.1 62 i)).1 a k = s.1 a k
      rw [sI_adr ha, sI_adr ha, sI_adr ha, sI_adr ha, sI_adr ha]
  · intro v hv
    obtain ⟨x, s⟩ := v
    obtain ⟨e, r, g⟩ := hv
    have e : x = nI 5 := e
    subst e
    refine ⟨s, ?_, r, g⟩
    show X9_image_b80 (nI 5) s = _
    unfold X9_image_b80
    rw [if_pos (show (5 : Int32) ≤ nI 5 from by decide)]
theorem m_back_l91 (s0 : mSG) : ∃ s', X9_back_l91 (0, s0) = some s' ∧ (∀ j, j < 5 → s'.1 65 j = s0.1 77 j ∧ s'.1 63 j = s0.1 77 (5 + j) ∧ s'.1 66 j = s0.1 77 (10 + j) ∧ s'.1 64 j = s0.1 77 (15 + j) ∧ s'.1 62 j = s0.1 77 (20 + j)) ∧ ∀ a, (a < 62 ∨ 66 < a) → s'.1 a = s0.1 a := by
  unfold X9_back_l91
  refine lpN (fun i (v : Int32 × mSG) => v.1 = nI i ∧ (∀ j, j < i → v.2.1 65 j = s0.1 77 j ∧ v.2.1 63 j = s0.1 77 (5 + j) ∧ v.2.1 66 j = s0.1 77 (10 + j) ∧ v.2.1 64 j = s0.1 77 (15 + j) ∧ v.2.1 62 j = s0.1 77 (20 + j)) ∧ ∀ a, (a < 62 ∨ 66 < a) → v.2.1 a = s0.1 a) (fun s' : mSG => (∀ j, j < 5 → s'.1 65 j = s0.1 77 j ∧ s'.1 63 j = s0.1 77 (5 + j) ∧ s'.1 66 j = s0.1 77 (10 + j) ∧ s'.1 64 j = s0.1 77 (15 + j) ∧ s'.1 62 j = s0.1 77 (20 + j)) ∧ ∀ a, (a < 62 ∨ 66 < a) → s'.1 a = s0.1 a) 5 (by unfold mFU; omega) ?_ ?_ (k := 0) (by omega) (x := (0, s0)) ⟨rfl, fun j hj => absurd hj (Nat.not_lt_zero j), fun _ _ => rfl⟩
  · intro i v hi hv
    obtain ⟨x, s⟩ := v
    obtain ⟨e, r, g⟩ := hv
    have e : x = nI i := e
    subst e
    have r : ∀ j, j < i → s.1 65 j = s0.1 77 j ∧ s.1 63 j = s0.1 77 (5 + j) ∧ s.1 66 j = s0.1 77 (10 + j) ∧ s.1 64 j = s0.1 77 (15 + j) ∧ s.1 62 j = s0.1 77 (20 + j) := r
    have g : ∀ a, (a < 62 ∨ 66 < a) → s.1 a = s0.1 a := g
    refine ⟨(nI (i + 1), (sI (sI (sI (sI (sI s 65 i (s.1 77 i)) 63 i (s.1 77 (5 + i))) 66 i (s.1 77 (10 + i))) 64 i (s.1 77 (15 + i))) 62 i (s.1 77 (20 + i)))), ?_, rfl, fun j hj => ?_, fun a ha => ?_⟩
    · show X9_back_b91 (nI i) s = _
      unfold X9_back_b91
      rw [if_neg (gl_le (x := 5) (m := 5) rfl hi (by omega)), if_pos (gl_inb (show i < 25 by omega) (by omega)), if_pos (gl_inb hi (by omega))]
      rw [show (5 : Int32) + nI i = nI (5 + i) from nI_add 5 i, show (10 : Int32) + nI i = nI (10 + i) from nI_add 10 i, show (15 : Int32) + nI i = nI (15 + i) from nI_add 15 i, show (20 : Int32) + nI i = nI (20 + i) from nI_add 20 i]
      rw [if_pos (gl_inb (show 5 + i < 25 by omega) (by omega)), if_pos (gl_inb (show 10 + i < 25 by omega) (by omega)), if_pos (gl_inb (show 15 + i < 25 by omega) (by omega)), if_pos (gl_inb (show 20 + i < 25 by omega) (by omega)), nl_cl (by omega), nl_cl (by omega), nl_cl (by omega), nl_cl (by omega), nl_cl (by omega), nI_1]
    · show (sI (sI (sI (sI (sI s 65 i (s.1 77 i)) 63 i (s.1 77 (5 + i))) 66 i (s.1 77 (10 + i))) 64 i (s.1 77 (15 + i))) 62 i (s.1 77 (20 + i))).1 65 j = s0.1 77 j ∧ (sI (sI (sI (sI (sI s 65 i (s.1 77 i)) 63 i (s.1 77 (5 + i))) 66 i (s.1 77 (10 + i))) 64 i (s.1 77 (15 + i))) 62 i (s.1 77 (20 + i))).1 63 j = s0.1 77 (5 + j) ∧ (sI (sI (sI (sI (sI s 65 i (s.1 77 i)) 63 i (s.1 77 (5 + i))) 66 i (s.1 77 (10 + i))) 64 i (s.1 77 (15 + i))) 62 i (s.1 77 (20 + i))).1 66 j = s0.1 77 (10 + j) ∧ (sI (sI (sI (sI (sI s 65 i (s.1 77 i)) 63 i (s.1 77 (5 + i))) 66 i (s.1 77 (10 + i))) 64 i (s.1 77 (15 + i))) 62 i (s.1 77 (20 + i))).1 64 j = s0.1 77 (15 + j) ∧ (sI (sI (sI (sI (sI s 65 i (s.1 77 i)) 63 i (s.1 77 (5 + i))) 66 i (s.1 77 (10 + i))) 64 i (s.1 77 (15 + i))) 62 i (s.1 77 (20 + i))).1 62 j = s0.1 77 (20 + j)
      by_cases q : j = i
      · subst q
        simp (disch := omega) only [sI_same, sI_adr]
        rw [g 77 (by omega)]
        exact ⟨rfl, rfl, rfl, rfl, rfl⟩
      · have hj' : j < i := by have : j < i + 1 := hj; omega
        simp (disch := omega) only [sI_oth, sI_adr]
        exact r j hj'
    · rw [← g a ha]
      funext k
      show (sI (sI (sI (sI (sI s 65 i (s.1 77 i)) 63 i (s.1 77 (5 + i))) 66 i (s.1 77 (10 + i))) 64 i (s.1 77 (15 + i))) 62 i (s.1 77 (20 + i))).1 a k = s.1 a k
      rw [sI_adr (by omega), sI_adr (by omega), sI_adr (by omega), sI_adr (by omega), sI_adr (by omega)]
  · intro v hv
    obtain ⟨x, s⟩ := v
    obtain ⟨e, r, g⟩ := hv
    have e : x = nI 5 := e
    subst e
    refine ⟨s, ?_, r, g⟩
    show X9_back_b91 (nI 5) s = _
    unfold X9_back_b91
    rw [if_pos (show (5 : Int32) ≤ nI 5 from by decide)]
theorem c_image {A : Ab} {s : mSG} (h : RS 7 8 9 10 11 A s) (h5 : A.pp ≤ 5) : ∃ s', X8_image s = some (nI A.pp, s') ∧ RS 12 13 14 15 16 A s' ∧ s'.1 6 10 = 1 := by
  unfold X8_image
  obtain ⟨s1, e1, r1⟩ := c_bec_12_7 h h5
  rw [ob e1, r1.pp]
  exact ⟨_, rfl, RS_eq r1 rfl rfl rfl rfl rfl, sI_same⟩
theorem m_image {A : Ab} {s : mSG} (h : RM A s) (h5 : A.pp ≤ 5) : ∃ s', X9_image s = some (nI A.pp, s') ∧ s'.1 56 47 = nI A.pp ∧ s'.1 56 48 = nI A.hr ∧ s'.1 56 49 = nI A.ru ∧ (∀ i, i < 64 → s'.1 76 i = nI (A.mud i)) ∧ (∀ i, i < 25 → s'.1 78 i = nI (A.ow i)) ∧ (∀ i, i < 24 → s'.1 79 i = nI (A.rn i)) ∧ (∀ p, p < A.pp → s'.1 77 p = nI (A.st p) ∧ s'.1 77 (5 + p) = nI (A.yd p) ∧ s'.1 77 (10 + p) = nI (A.wt p) ∧ s'.1 77 (15 + p) = nI (A.ld p) ∧ s'.1 77 (20 + p) = nI (A.nu p)) := by
  unfold X9_image
  obtain ⟨s1, e1, p1, g1⟩ := m_image_l2 s
  obtain ⟨s2, e2, p2, g2⟩ := m_image_l28 s1
  obtain ⟨s3, e3, p3, g3⟩ := m_image_l54 s2
  obtain ⟨s4, e4, p4, g4⟩ := m_image_l80 s3
  rw [ob e1, ob e2, ob e3, ob e4]
  have g : ∀ a, a < 76 → s4.1 a = s.1 a := fun a ha => by rw [g4 a (by omega), g3 a (by omega), g2 a (by omega), g1 a (by omega)]
  rw [show s4.1 56 15 = nI A.pp from by rw [g 56 (by omega)]; exact h.pp, show s4.1 56 16 = nI A.hr from by rw [g 56 (by omega)]; exact h.hr, show s4.1 56 4 = nI A.ru from by rw [g 56 (by omega)]; exact h.ru]
  refine ⟨_, rfl, ?_, ?_, ?_, fun i hi => ?_, fun i hi => ?_, fun i hi => ?_, fun p hp => ?_⟩
  · rw [sI_oth (by decide), sI_oth (by decide), sI_same]
  · rw [sI_oth (by decide), sI_same]
  · rw [sI_same]
  · rw [sI_adr (by decide), sI_adr (by decide), sI_adr (by decide), g4 76 (by decide), g3 76 (by decide), g2 76 (by decide), p1 i hi]
    exact h.mud i hi
  · rw [sI_adr (by decide), sI_adr (by decide), sI_adr (by decide), g4 78 (by decide), g3 78 (by decide), p2 i hi, g1 67 (by decide)]
    exact h.ow i hi
  · rw [sI_adr (by decide), sI_adr (by decide), sI_adr (by decide), g4 79 (by decide), p3 i hi, g2 68 (by decide), g1 68 (by decide)]
    exact h.rn i hi
  · have q : ∀ a, a < 76 → s3.1 a = s.1 a := fun a ha => by rw [g3 a (by omega), g2 a (by omega), g1 a (by omega)]
    rw [sI_adr (by decide), sI_adr (by decide), sI_adr (by decide), sI_adr (by decide), sI_adr (by decide), sI_adr (by decide), sI_adr (by decide), sI_adr (by decide), sI_adr (by decide), sI_adr (by decide), sI_adr (by decide), sI_adr (by decide), sI_adr (by decide), sI_adr (by decide), sI_adr (by decide)]
    obtain ⟨w1, w2, w3, w4, w5⟩ := p4 p (by omega)
    rw [w1, w2, w3, w4, w5, q 65 (by omega), q 63 (by omega), q 66 (by omega), q 64 (by omega), q 62 (by omega)]
    exact ⟨h.st p hp, h.yd p hp, h.wt p hp, h.ld p hp, h.nu p hp⟩
theorem L_image {t : mTX} {s : mSG} (h : INV t s) : ∃ v s1 s2, X8_image s = some (v, s1) ∧ X9_image s1 = some (v, s2) ∧ INV t s2 := by
  obtain ⟨tc, V, A, hk, K, ts, tp, sk, sn, si, hv⟩ := h
  obtain ⟨a, b, c, d, e, p, z⟩ := hv
  have h5 := b.2.2.pp
  obtain ⟨s1, e1, r1, w1⟩ := c_image b.1 h5
  have f1 := FR_X8_image _ _ e1
  have b' := NW_k b f1 rfl
  obtain ⟨s2, e2, k1, k2, k3, k4, k5, k6, k7⟩ := m_image b'.2.1 h5
  have f2 := FR_X9_image _ _ e2
  have o2 := OT_k (OT_k ⟨a, p, z⟩ f1 rfl rfl) f2 rfl rfl
  refine ⟨_, _, _, e1, e2, tc, V, A, true, A, ts, tp, sk, sn, si, o2.1, NW_k b' f2 rfl, ?_, TP_k (TP_k d f1 rfl) f2 rfl, SH_k (SH_k e f1 rfl) f2 rfl, o2.2.1, o2.2.2⟩
  refine ⟨((f2 6 10 rfl).1.trans w1), fun q => (by cases q), fun _ => ⟨RS_fr r1 f2 (fun _ => rfl) (fun _ => rfl) (fun _ => rfl) (fun _ => rfl) (fun _ => rfl), b.2.2, Nat.le_refl _, fun _ _ => rfl, k1, k2, k3, k4, k5, k6, k7⟩⟩
theorem c_back {K : Ab} {s : mSG} (h : RS 12 13 14 15 16 K s) (h5 : K.pp ≤ 5) (h6 : s.1 6 10 = 1) : ∃ s', X8_back s = some (nI K.pp, s') ∧ RS 7 8 9 10 11 K s' := by
  unfold X8_back
  obtain ⟨s1, e1, r1⟩ := c_bec_7_12 h h5
  rw [h6, if_neg (by decide), ob e1, r1.pp]
  exact ⟨_, rfl, r1⟩
theorem m_back {K : Ab} {s : mSG} (h5 : K.pp ≤ 5) (hk : ∀ p, p < K.pp → s.1 61 p = nI (K.kd p)) (k1 : s.1 56 47 = nI K.pp) (k2 : s.1 56 48 = nI K.hr) (k3 : s.1 56 49 = nI K.ru) (k4 : ∀ i, i < 64 → s.1 76 i = nI (K.mud i)) (k5 : ∀ i, i < 25 → s.1 78 i = nI (K.ow i)) (k6 : ∀ i, i < 24 → s.1 79 i = nI (K.rn i)) (k7 : ∀ p, p < K.pp → s.1 77 p = nI (K.st p) ∧ s.1 77 (5 + p) = nI (K.yd p) ∧ s.1 77 (10 + p) = nI (K.wt p) ∧ s.1 77 (15 + p) = nI (K.ld p) ∧ s.1 77 (20 + p) = nI (K.nu p)) : ∃ s', X9_back s = some (nI K.pp, s') ∧ RM K s' := by
  unfold X9_back
  obtain ⟨s1, e1, p1, g1⟩ := m_back_l13 s
  obtain ⟨s2, e2, p2, g2⟩ := m_back_l39 s1
  obtain ⟨s3, e3, p3, g3⟩ := m_back_l65 s2
  obtain ⟨s4, e4, p4, g4⟩ := m_back_l91 s3
  rw [k1, if_neg (show ¬ nI K.pp = -1 from gl_neN (b := 1) rfl (by omega) (by omega) (by omega)), ob e1, ob e2, ob e3, ob e4]
  have gg : ∀ k, s4.1 56 k = s.1 56 k := fun k => by rw [g4 56 (by omega), g3 56 (by omega), g2 56 (by omega), g1 56 (by omega)]
  have g61 : s4.1 61 = s.1 61 := by rw [g4 61 (by omega), g3 61 (by omega), g2 61 (by omega), g1 61 (by omega)]
  have g77 : s3.1 77 = s.1 77 := by rw [g3 77 (by omega), g2 77 (by omega), g1 77 (by omega)]
  rw [gg, gg, gg, k1, k2, k3]
  refine ⟨_, rfl, fun i hi => ?_, fun p hp => ?_, fun p hp => ?_, fun p hp => ?_, fun p hp => ?_, fun p hp => ?_, fun p hp => ?_, fun i hi => ?_, fun i hi => ?_, ?_, ?_, ?_⟩
  · rw [sI_adr (by decide), sI_adr (by decide), sI_adr (by decide), g4 60 (by omega), g3 60 (by omega), g2 60 (by omega), p1 i hi]
    exact k4 i hi
  · rw [sI_adr (by decide), sI_adr (by decide), sI_adr (by decide), g61]
    exact hk p hp
  · rw [sI_adr (by decide), sI_adr (by decide), sI_adr (by decide), (p4 p (by omega)).2.2.2.2, g77]
    exact (k7 p hp).2.2.2.2
  · rw [sI_adr (by decide), sI_adr (by decide), sI_adr (by decide), (p4 p (by omega)).2.1, g77]
    exact (k7 p hp).2.1
  · rw [sI_adr (by decide), sI_adr (by decide), sI_adr (by decide), (p4 p (by omega)).2.2.2.1, g77]
    exact (k7 p hp).2.2.2.1
  · rw [sI_adr (by decide), sI_adr (by decide), sI_adr (by decide), (p4 p (by omega)).1, g77]
    exact (k7 p hp).1
  · rw [sI_adr (by decide), sI_adr (by decide), sI_adr (by decide), (p4 p (by omega)).2.2.1, g77]
    exact (k7 p hp).2.2.1
  · rw [sI_adr (by decide), sI_adr (by decide), sI_adr (by decide), g4 67 (by omega), g3 67 (by omega), p2 i hi, g1 78 (by omega)]
    exact k5 i hi
  · rw [sI_adr (by decide), sI_adr (by decide), sI_adr (by decide), g4 68 (by omega), p3 i hi, g2 79 (by omega), g1 79 (by omega)]
    exact k6 i hi
  · rw [sI_oth (by decide), sI_oth (by decide), sI_same]
  · rw [sI_oth (by decide), sI_same]
  · rw [sI_same]
theorem L_back {t : mTX} {s : mSG} (h : INV t s) : ∃ v s1 s2, X8_back s = some (v, s1) ∧ X9_back s1 = some (v, s2) ∧ INV t s2 := by
  have hI := h
  obtain ⟨tc, V, A, hk, K, ts, tp, sk, sn, si, hv⟩ := h
  obtain ⟨a, b, c, d, e, p, z⟩ := hv
  cases hk with
  | false =>
    refine ⟨-3, s, s, ?_, ?_, hI⟩
    · unfold X8_back
      rw [c.1, if_pos (show b2i false = 0 from rfl)]
    · unfold X9_back
      rw [c.2.1 rfl, if_pos rfl]
  | true =>
    have h6 : s.1 6 10 = 1 := c.1
    obtain ⟨k1, k2, k3, k4, k5, k6, k7, k8, k9, k10, k11⟩ := c.2.2 rfl
    obtain ⟨s1, e1, r1⟩ := c_back k1 k2.pp h6
    have f1 := FR_X8_back _ _ e1
    have c1 := KP_k c f1 rfl
    have q61 : ∀ p, p < K.pp → s1.1 61 p = nI (K.kd p) := fun p hp => by
      rw [(f1 61 p rfl).1, b.2.1.kd p (by omega), k4 p hp]
    obtain ⟨k1', k2', k3', k4', k5', k6', k7', k8', k9', k10', k11'⟩ := c1.2.2 rfl
    obtain ⟨s2, e2, r2⟩ := m_back k2.pp q61 k5' k6' k7' k8' k9' k10' k11'
    have f2 := FR_X9_back _ _ e2
    have o2 := OT_k (OT_k ⟨a, p, z⟩ f1 rfl rfl) f2 rfl rfl
    have c2 := KP_k c1 f2 rfl
    refine ⟨_, _, _, e1, e2, tc, V, K, true, K, ts, tp, sk, sn, si, o2.1, ⟨RS_fr r1 f2 (fun _ => rfl) (fun _ => rfl) (fun _ => rfl) (fun _ => rfl) (fun _ => rfl), r2, k2⟩, ?_, TP_k (TP_k d f1 rfl) f2 rfl, SH_k (SH_k e f1 rfl) f2 rfl, o2.2.1, o2.2.2⟩
    obtain ⟨q1, q2, q3⟩ := c2
    refine ⟨q1, q2, fun q => ?_⟩
    obtain ⟨l1, l2, l3, l4, l5⟩ := q3 q
    exact ⟨l1, l2, Nat.le_refl _, fun _ _ => rfl, l5⟩
