/-! TOKENS, WHILE THE PROGRAM IS BEING MADE -/
section
variable {t : mTX} {k n : Nat} {b : Nat → Nat} {rc : Nat → Int32 → mSG → Option (Bool × mSG)} {q : Int32}
theorem zk23 (t : mTX) : mKl (LYC t) 23 = (20, 160) := rfl
theorem zc_skip {s0 : mSG} {i : Nat} (ht : TC n b s0) (hi : i ≤ n) : ∃ s, Z1_advance_l8 t (sI s0 25 7 (nI i)) = some s ∧ (s.1 25 7 = nI (scn (isW b) n i) ∧ CK s0 s) := by
  have hn := ht.2.2.1
  unfold Z1_advance_l8
  refine lpE (fun k (s : mSG) => s.1 25 7 = nI k ∧ i ≤ k ∧ scn (isW b) n k = scn (isW b) n i ∧ CK s0 s) _ n (by unfold mFU; omega) ?_ ?_ (k := i) hi (x := sI s0 25 7 (nI i)) ⟨sI_same, Nat.le_refl _, rfl, CK_sI ⟨fun _ _ _ _ _ => rfl, fun _ _ => rfl, rfl⟩ (by omega)⟩
  · intro k s hk hv
    obtain ⟨g1, g2, g3, g4⟩ := hv
    obtain ⟨t1, t2, t3, t4, t5⟩ := CK_TC g4 ht
    obtain ⟨c1, c2⟩ := t4 k hk
    have head : Z1_advance_b8 t s = if nI (b k) = 32 then some (.inl (sI s 25 7 (nI (k + 1)))) else if nI (b k) = 10 then some (.inl (sI s 25 7 (nI (k + 1)))) else some (.inr s) := by
      unfold Z1_advance_b8 Z1_advance_j47_8
      rw [t2, g1, if_neg (nI_ge hk (by omega)), t1]
      show (if (mKl (LYC t) 23).1 = 20 ∧ mInb (nI k) (mKl (LYC t) 23).2 = true then (if s.1 23 (nI k).toNatClampNeg = 32 then _ else if (mKl (LYC t) 23).1 = 20 ∧ mInb (nI k) (mKl (LYC t) 23).2 = true then _ else none) else none) = _
      have hcn : ((20, 160) : Nat × Nat).1 = 20 ∧ mInb (nI k) ((20, 160) : Nat × Nat).2 = true := ⟨rfl, gl_inb (show k < 160 by omega) (by omega)⟩
      rw [zk23, if_pos hcn, nl_cl (by omega), c1, if_pos hcn, nI_1]
    have q32 : (nI (b k) = 32) = (b k = 32) := nl_eq (b := 32) (by omega) (by omega)
    have q10 : (nI (b k) = 10) = (b k = 10) := nl_eq (b := 10) (by omega) (by omega)
    by_cases q : b k = 32 ∨ b k = 10
    · refine Or.inl ⟨sI s 25 7 (nI (k + 1)), ?_, sI_same, by omega, by rw [← g3, scn_y hk (decide_eq_true q)], CK_sI g4 (by omega)⟩
      rw [head]
      by_cases q1 : b k = 32
      · rw [if_pos (q32.mpr q1)]
      · rw [if_neg (fun g => q1 (q32.mp g)), if_pos (q10.mpr (by omega))]
    · refine Or.inr ⟨s, ?_, by rw [g1, ← g3, scn_n hk (decide_eq_false q)], g4⟩
      rw [head, if_neg (fun g => q (Or.inl (q32.mp g))), if_neg (fun g => q (Or.inr (q10.mp g)))]
  · intro s hv
    obtain ⟨g1, g2, g3, g4⟩ := hv
    obtain ⟨t1, t2, t3, t4, t5⟩ := CK_TC g4 ht
    refine ⟨s, ?_, by rw [g1, ← g3, scn_e (Nat.le_refl _)], g4⟩
    unfold Z1_advance_b8
    rw [t2, g1, if_pos (nI_le (Nat.le_refl _) (by omega))]
theorem zc_letters {s0 : mSG} {i : Nat} (ht : TC n b s0) (hi : i ≤ n) (h8 : s0.1 25 8 = nI i) : ∃ s, Z1_readWord_l0 t s0 = some s ∧ (s.1 25 8 = nI (scn (isL b) n i) ∧ s.1 25 7 = s0.1 25 7 ∧ CK s0 s) := by
  have hn := ht.2.2.1
  unfold Z1_readWord_l0
  refine lpE (fun k (s : mSG) => s.1 25 8 = nI k ∧ i ≤ k ∧ scn (isL b) n k = scn (isL b) n i ∧ s.1 25 7 = s0.1 25 7 ∧ CK s0 s) _ n (by unfold mFU; omega) ?_ ?_ (k := i) hi (x := s0) ⟨h8, Nat.le_refl _, rfl, rfl, fun _ _ _ _ _ => rfl, fun _ _ => rfl, rfl⟩
  · intro k s hk hv
    obtain ⟨g1, g2, g3, g5, g4⟩ := hv
    obtain ⟨t1, t2, t3, t4, t5⟩ := CK_TC g4 ht
    obtain ⟨c1, c2⟩ := t4 k hk
    have head : Z1_readWord_b0 t s = if isL b k = true then some (.inl (sI s 25 8 (nI (k + 1)))) else some (.inr s) := by
      unfold Z1_readWord_b0
      rw [t2, g1, if_neg (nI_ge hk (by omega)), t1]
      show (if (mKl (LYC t) 23).1 = 20 ∧ mInb (nI k) (mKl (LYC t) 23).2 = true then _ else none) = _
      rw [zk23, if_pos ⟨rfl, gl_inb (show k < 160 by omega) (by omega)⟩, nl_cl (by omega), c1, nI_isL c2, nI_1]
      rfl
    by_cases q : isL b k = true
    · exact Or.inl ⟨sI s 25 8 (nI (k + 1)), by rw [head, if_pos q], sI_same, by omega, by rw [← g3, scn_y hk q], by rw [sI_oth (by decide)]; exact g5, CK_sI g4 (by omega)⟩
    · exact Or.inr ⟨s, by rw [head, if_neg q], by rw [g1, ← g3, scn_n hk (Bool.eq_false_iff.mpr q)], g5, g4⟩
  · intro s hv
    obtain ⟨g1, g2, g3, g5, g4⟩ := hv
    obtain ⟨t1, t2, t3, t4, t5⟩ := CK_TC g4 ht
    refine ⟨s, ?_, by rw [g1, ← g3, scn_e (Nat.le_refl _)], g5, g4⟩
    unfold Z1_readWord_b0
    rw [t2, g1, if_pos (nI_le (Nat.le_refl _) (by omega))]
theorem zc_digits {s0 : mSG} {i : Nat} (ht : TC n b s0) (hi : i ≤ n) (h8 : s0.1 25 8 = nI i) : ∃ s, Z1_readNumber_l5 t (sI s0 25 6 0) = some s ∧ (s.1 25 8 = nI (scn (isD b) n i) ∧ s.1 25 6 = nI (dvl b i (scn (isD b) n i - i)) ∧ s.1 25 7 = s0.1 25 7 ∧ CK s0 s) := by
  have hn := ht.2.2.1
  unfold Z1_readNumber_l5
  refine lpE (fun k (s : mSG) => s.1 25 8 = nI k ∧ i ≤ k ∧ scn (isD b) n k = scn (isD b) n i ∧ s.1 25 6 = nI (dvl b i (k - i)) ∧ s.1 25 7 = s0.1 25 7 ∧ CK s0 s) _ n (by unfold mFU; omega) ?_ ?_ (k := i) hi (x := sI s0 25 6 0) ⟨by rw [sI_oth (by decide)]; exact h8, Nat.le_refl _, rfl, by rw [sI_same, Nat.sub_self]; rfl, by rw [sI_oth (by decide)], CK_sI ⟨fun _ _ _ _ _ => rfl, fun _ _ => rfl, rfl⟩ (by omega)⟩
  · intro k s hk hv
    obtain ⟨g1, g2, g3, g6, g5, g4⟩ := hv
    obtain ⟨t1, t2, t3, t4, t5⟩ := CK_TC g4 ht
    obtain ⟨c1, c2⟩ := t4 k hk
    have head : Z1_readNumber_b5 t s = if isD b k = true then some (.inl (sI (sI s 25 6 (nI (dvl b i (k - i)) * 10 + nI (b k) - 48)) 25 8 (nI (k + 1)))) else some (.inr s) := by
      unfold Z1_readNumber_b5
      rw [t2, g1, if_neg (nI_ge hk (by omega)), t1]
      show (if (mKl (LYC t) 23).1 = 20 ∧ mInb (nI k) (mKl (LYC t) 23).2 = true then (if X1_isDigit (s.1 23 (nI k).toNatClampNeg) = true then (if (mKl (LYC t) 23).1 = 20 ∧ mInb (nI k) (mKl (LYC t) 23).2 = true then _ else none) else _) else none) = _
      have hcn : ((20, 160) : Nat × Nat).1 = 20 ∧ mInb (nI k) ((20, 160) : Nat × Nat).2 = true := ⟨rfl, gl_inb (show k < 160 by omega) (by omega)⟩
      rw [zk23, if_pos hcn, nl_cl (by omega), c1, nI_isD c2, if_pos hcn, nI_1, g6]
      rfl
    by_cases q : isD b k = true
    · have q' := of_decide_eq_true q
      refine Or.inl ⟨_, by rw [head, if_pos q], sI_same, by omega, by rw [← g3, scn_y hk q], ?_, by rw [sI_oth (by decide), sI_oth (by decide)]; exact g5, CK_sI (CK_sI g4 (by omega)) (by omega)⟩
      rw [sI_oth (by decide), sI_same, show nI (dvl b i (k - i)) * 10 = nI (dvl b i (k - i) * 10) from pk_mul _ 10, nI_add, show nI (dvl b i (k - i) * 10 + b k) - 48 = nI (dvl b i (k - i) * 10 + b k - 48) from pk_sub (b := 48) (by omega), show k + 1 - i = (k - i) + 1 by omega]
      show nI _ = nI (dvl b i (k - i) * 10 + (b (i + (k - i)) - 48))
      rw [show i + (k - i) = k by omega]
      congr 1
      omega
    · exact Or.inr ⟨s, by rw [head, if_neg q], by rw [g1, ← g3, scn_n hk (Bool.eq_false_iff.mpr q)], by rw [g6, ← g3, scn_n hk (Bool.eq_false_iff.mpr q)], g5, g4⟩
  · intro s hv
    obtain ⟨g1, g2, g3, g6, g5, g4⟩ := hv
    obtain ⟨t1, t2, t3, t4, t5⟩ := CK_TC g4 ht
    refine ⟨s, ?_, by rw [g1, ← g3, scn_e (Nat.le_refl _)], by rw [g6, ← g3, scn_e (Nat.le_refl _)], g5, g4⟩
    unfold Z1_readNumber_b5
    rw [t2, g1, if_pos (nI_le (Nat.le_refl _) (by omega))]
theorem zc_spelled {s : mSG} {x y k : Nat} (ht : TC n b s) (h7 : s.1 25 7 = nI x) (h8 : s.1 25 8 = nI y) (hxy : x ≤ y) (hy : y ≤ n) (hk : k < 12) : Z1_isSpelled t (nI (wS k)) (nI (wE k)) s = some (spl b x y k) := by
  obtain ⟨t1, t2, t3, t4, t5⟩ := ht
  have hw : wS k ≤ wE k ∧ wE k ≤ 54 := by
    have : ∀ k, k < 12 → wS k ≤ wE k ∧ wE k ≤ 54 := by decide
    exact this k hk
  unfold Z1_isSpelled spl
  rw [h7, h8, pk_sub hw.1, pk_sub hxy]
  by_cases q : y - x = wE k - wS k
  · rw [if_pos (by rw [q]), decide_eq_true q, Bool.true_and]
    have key : ∃ e, Z1_isSpelled_l19 t (nI (wS k)) (nI (wE k)) s (nI (wS k)) = some e ∧ Sum.elim (fun _ : Unit => false) (fun _ : Unit => true) e = allB (fun j => decide (wL (wS k + j) = b (x + j))) (wE k - wS k) := by
      unfold Z1_isSpelled_l19
      refine lpE (fun i (v : Int32) => v = nI i ∧ wS k ≤ i ∧ allB (fun j => decide (wL (wS k + j) = b (x + j))) (i - wS k) = true) (fun e : Unit ⊕ Unit => Sum.elim (fun _ : Unit => false) (fun _ : Unit => true) e = allB (fun j => decide (wL (wS k + j) = b (x + j))) (wE k - wS k)) (wE k) (by unfold mFU; omega) ?_ ?_ (k := wS k) hw.1 (x := nI (wS k)) ⟨rfl, Nat.le_refl _, by rw [Nat.sub_self]; rfl⟩
      · intro i v hi hv
        obtain ⟨e, e2, e3⟩ := hv
        subst e
        have hx : x + (i - wS k) < n := by omega
        obtain ⟨c1, c2⟩ := t4 (x + (i - wS k)) hx
        have hl := wL_b i (by omega)
        have ec : mChr 3 (nI i) s = nI (wL i) := by
          show ((s.1 5 (nI i).toNatClampNeg &&& 255).toUInt32 % 65536).toInt32 = _
          rw [nl_cl (by omega), t5 i (by omega)]
          exact chr_nI (by omega)
        have head : Z1_isSpelled_b19 t (nI (wS k)) (nI (wE k)) (nI i) s = if nI (wL i) = nI (b (x + (i - wS k))) then some (.inl (nI (i + 1))) else some (.inr (.inl ())) := by
          unfold Z1_isSpelled_b19
          rw [if_neg (nI_ge hi (by omega)), if_pos (gl_inb (show i < 55 by omega) (by omega)), t1, h7, nI_add, pk_sub (show wS k ≤ x + i by omega), ec, show x + i - wS k = x + (i - wS k) by omega]
          show (if (mKl (LYC t) 23).1 = 20 ∧ mInb (nI (x + (i - wS k))) (mKl (LYC t) 23).2 = true then _ else none) = _
          rw [zk23, if_pos ⟨rfl, gl_inb (show x + (i - wS k) < 160 by omega) (by omega)⟩, nl_cl (by omega), c1, nI_1]
        have qe : (nI (wL i) = nI (b (x + (i - wS k)))) = (wL i = b (x + (i - wS k))) := nl_eq (by omega) (by omega)
        by_cases g : wL i = b (x + (i - wS k))
        · refine Or.inl ⟨nI (i + 1), by rw [head, if_pos (qe.mpr g)], rfl, by omega, ?_⟩
          rw [show i + 1 - wS k = (i - wS k) + 1 by omega]
          show (allB _ (i - wS k) && decide (wL (wS k + (i - wS k)) = b (x + (i - wS k)))) = true
          rw [e3, show wS k + (i - wS k) = i by omega, decide_eq_true g]
          rfl
        · refine Or.inr ⟨.inl (), by rw [head, if_neg (fun h => g (qe.mp h))], ?_⟩
          show false = _
          symm
          refine Bool.eq_false_iff.mpr (fun h => ?_)
          have := (allB_iff _).mp h (i - wS k) (by omega)
          have := of_decide_eq_true this
          rw [show wS k + (i - wS k) = i by omega] at this
          exact g this
      · intro v hv
        obtain ⟨e, e2, e3⟩ := hv
        subst e
        refine ⟨.inr (), ?_, e3.symm⟩
        unfold Z1_isSpelled_b19
        rw [if_pos (nI_le (Nat.le_refl _) (by omega))]
    obtain ⟨e, he, hv⟩ := key
    rw [ob he, ← hv]
    cases e <;> rfl
  · rw [if_neg (show ¬ nI (wE k - wS k) = nI (y - x) from by rw [nl_eq (by omega) (by omega)]; exact fun g => q g.symm), decide_eq_false q]
    rfl
theorem zc_words {s0 : mSG} {x y : Nat} (ht : TC n b s0) (h7 : s0.1 25 7 = nI x) (h8 : s0.1 25 8 = nI y) (hxy : x ≤ y) (hy : y ≤ n) : ∃ s, Z1_readWord_l52 t (256, 0, 0, sI s0 25 5 1) = some s ∧ (s.1 25 5 = nI (wtk b x y 12) ∧ s.1 25 7 = nI x ∧ s.1 25 8 = nI y ∧ CK s0 s) := by
  unfold Z1_readWord_l52
  refine lpN (fun i (v : Int32 × Int32 × Int32 × mSG) => v.1 = nI (256 + wCn i) ∧ (wCn i < 12 → v.2.1 = nI (wS (wCn i))) ∧ v.2.2.1 = nI i ∧ v.2.2.2.1 25 5 = nI (wtk b x y (wCn i)) ∧ v.2.2.2.1 25 7 = nI x ∧ v.2.2.2.1 25 8 = nI y ∧ CK s0 v.2.2.2) (fun s : mSG => s.1 25 5 = nI (wtk b x y 12) ∧ s.1 25 7 = nI x ∧ s.1 25 8 = nI y ∧ CK s0 s) 55 (by unfold mFU; omega) ?_ ?_ (k := 0) (by omega) (x := (256, 0, 0, sI s0 25 5 1)) ⟨rfl, fun _ => rfl, rfl, sI_same, by show (sI s0 25 5 1).1 25 7 = _; rw [sI_oth (by decide)]; exact h7, by show (sI s0 25 5 1).1 25 8 = _; rw [sI_oth (by decide)]; exact h8, CK_sI ⟨fun _ _ _ _ _ => rfl, fun _ _ => rfl, rfl⟩ (by omega)⟩
  · intro i v hi hv
    obtain ⟨y1, y2, y3, s⟩ := v
    obtain ⟨g1, g2, g3, g4, g5, g6, g7⟩ := hv
    have g1 : y1 = nI (256 + wCn i) := g1
    have g2 : wCn i < 12 → y2 = nI (wS (wCn i)) := g2
    have g3 : y3 = nI i := g3
    subst g1 g3
    have g4 : s.1 25 5 = nI (wtk b x y (wCn i)) := g4
    have g5 : s.1 25 7 = nI x := g5
    have g6 : s.1 25 8 = nI y := g6
    have g7 : CK s0 s := g7
    have ht' := CK_TC g7 ht
    have hl := wL_b i hi
    have ec : mChr 3 (nI i) s = nI (wL i) := by
      show ((s.1 5 (nI i).toNatClampNeg &&& 255).toUInt32 % 65536).toInt32 = _
      rw [nl_cl (by omega), ht'.2.2.2.2 i hi]
      exact chr_nI (by omega)
    have q32 : (nI (wL i) = 32) = (wL i = 32) := nl_eq (b := 32) (by omega) (by omega)
    obtain ⟨w1, w2⟩ := wCn_s i hi
    by_cases q : wL i = 32
    · obtain ⟨u1, u2, u3, u4, u5⟩ := w1 q
      have sp := zc_spelled (t := t) (x := x) (y := y) (k := wCn i) ht' g5 g6 hxy hy u3
      rw [← g2 u3, ← u1] at sp
      have st : nI (i + 1) = nI (i + 1) := rfl
      have nx : wCn (i + 1) < 12 → nI (i + 1) = nI (wS (wCn (i + 1))) := fun h => by rw [u2, u4, if_neg (by omega)]
      have head : ∀ o, (if spl b x y (wCn i) = true then some (.inl (nI (256 + wCn i + 1), nI (i + 1), nI (i + 1), sI s 25 5 (nI (256 + wCn i)))) else some (.inl (nI (256 + wCn i + 1), nI (i + 1), nI (i + 1), s))) = o → Z1_readWord_b52 t (nI (256 + wCn i)) y2 (nI i) s = o := by
        intro o ho
        rw [← ho]
        unfold Z1_readWord_b52 Z1_readWord_j86_52 Z1_readWord_j93_52
        rw [if_neg (gl_le (x := 55) (m := 55) rfl hi (by omega)), if_pos (gl_inb hi (by omega)), ec, if_pos (q32.mpr q), ob sp, nI_1, nI_1]
      have ew : wtk b x y (wCn (i + 1)) = if spl b x y (wCn i) = true then 256 + wCn i else wtk b x y (wCn i) := by rw [u2]; rfl
      by_cases qs : spl b x y (wCn i) = true
      · refine ⟨(nI (256 + wCn i + 1), nI (i + 1), nI (i + 1), sI s 25 5 (nI (256 + wCn i))), head _ (by rw [if_pos qs]), ?_, nx, rfl, ?_, ?_, ?_, CK_sI g7 (by omega)⟩
        · show nI (256 + wCn i + 1) = nI (256 + wCn (i + 1))
          rw [u2]
          rfl
        · show (sI s 25 5 (nI (256 + wCn i))).1 25 5 = _
          rw [sI_same, ew, if_pos qs]
        · show (sI s 25 5 (nI (256 + wCn i))).1 25 7 = _
          rw [sI_oth (by decide)]; exact g5
        · show (sI s 25 5 (nI (256 + wCn i))).1 25 8 = _
          rw [sI_oth (by decide)]; exact g6
      · refine ⟨(nI (256 + wCn i + 1), nI (i + 1), nI (i + 1), s), head _ (by rw [if_neg qs]), ?_, nx, rfl, ?_, g5, g6, g7⟩
        · show nI (256 + wCn i + 1) = nI (256 + wCn (i + 1))
          rw [u2]
          rfl
        · show s.1 25 5 = _
          rw [ew, if_neg qs]
          exact g4
    · have u := w2 q
      refine ⟨(nI (256 + wCn i), y2, nI (i + 1), s), ?_, by rw [u], fun h => by rw [u] at h ⊢; exact g2 h, rfl, by rw [u]; exact g4, g5, g6, g7⟩
      show Z1_readWord_b52 t (nI (256 + wCn i)) y2 (nI i) s = _
      unfold Z1_readWord_b52 Z1_readWord_j93_52
      rw [if_neg (gl_le (x := 55) (m := 55) rfl hi (by omega)), if_pos (gl_inb hi (by omega)), ec, if_neg (fun g => q (q32.mp g)), nI_1]
  · intro v hv
    obtain ⟨y1, y2, y3, s⟩ := v
    obtain ⟨g1, g2, g3, g4, g5, g6, g7⟩ := hv
    have g3 : y3 = nI 55 := g3
    subst g3
    have e12 : wCn 55 = 12 := by decide
    rw [e12] at g4
    refine ⟨s, ?_, g4, g5, g6, g7⟩
    show Z1_readWord_b52 t y1 y2 (nI 55) s = _
    unfold Z1_readWord_b52
    rw [if_pos (show (55 : Int32) ≤ nI 55 from by decide)]
theorem zc_advance {s0 : mSG} {i : Nat} (ht : TC n b s0) (hi : i ≤ n) (h8 : s0.1 25 8 = nI i) : ∃ s, Z1_advance t s0 = some s ∧ AT n b i s ∧ CK s0 s := by
  have hn := ht.2.2.1
  obtain ⟨s1, e1, a1, k1⟩ := zc_skip (t := t) ht hi
  have hA := tA_b (b := b) hi
  have a1 : s1.1 25 7 = nI (tA b n i) := a1
  have t1 := CK_TC k1 ht
  unfold Z1_advance Z1_advance_j60
  rw [h8, ob e1, a1, t1.2.1]
  have hNe : tN b n i = if tA b n i < n then (if isL b (tA b n i) = true then scn (isL b) n (tA b n i) else if isD b (tA b n i) = true then scn (isD b) n (tA b n i) else tA b n i + 1) else tA b n i := rfl
  have hCe : tC b n i = if tA b n i < n then (if isL b (tA b n i) = true then wtk b (tA b n i) (tN b n i) 12 else if isD b (tA b n i) = true then (if tN b n i - tA b n i ≤ 4 then 2 else 1) else if isS (b (tA b n i)) = true then b (tA b n i) else 1) else 0 := rfl
  have hVe : tV b n i = dvl b (tA b n i) (tN b n i - tA b n i) := rfl
  unfold AT
  generalize tA b n i = x at hA a1 hNe hCe hVe
  by_cases q : x < n
  · rw [if_pos q] at hNe hCe
    have k2 : CK s0 (sI s1 25 8 (nI x)) := CK_sI k1 (by omega)
    have t2 := CK_TC k2 ht
    obtain ⟨c1, c2⟩ := t2.2.2.2.1 x q
    rw [if_pos (nI_lt q (by omega)), t1.1]
    show ∃ s, (if (mKl (LYC t) 23).1 = 20 ∧ mInb (nI x) (mKl (LYC t) 23).2 = true then (if X1_isLetter ((sI s1 25 8 (nI x)).1 23 (nI x).toNatClampNeg) = true then (Z1_readWord t (sI s1 25 8 (nI x))).bind (fun r9 => some r9) else if X1_isDigit ((sI s1 25 8 (nI x)).1 23 (nI x).toNatClampNeg) = true then (Z1_readNumber t (sI s1 25 8 (nI x))).bind (fun r8 => some r8) else if X1_isSign ((sI s1 25 8 (nI x)).1 23 (nI x).toNatClampNeg) = true then some (sI (sI (sI s1 25 8 (nI x)) 25 8 (nI x + 1)) 25 5 ((sI s1 25 8 (nI x)).1 23 (nI x).toNatClampNeg)) else some (sI (sI (sI s1 25 8 (nI x)) 25 8 (nI x + 1)) 25 5 1)) else none) = some s ∧ _
    rw [zk23, if_pos ⟨rfl, gl_inb (show x < 160 by omega) (by omega)⟩, nl_cl (by omega), c1, nI_isL c2, nI_isD c2, nI_isS _ (by omega), nI_1]
    have e7 : (sI s1 25 8 (nI x)).1 25 7 = nI x := by rw [sI_oth (by decide)]; exact a1
    by_cases qL : isL b x = true
    · rw [if_pos qL] at hNe hCe
      rw [if_pos (show decide (97 ≤ b x ∧ b x ≤ 122) = true from qL)]
      obtain ⟨s3, e3, l1, l2, k3⟩ := zc_letters (t := t) t2 (show x ≤ n by omega) sI_same
      have sb := scn_b (p := isL b) (show x ≤ n by omega)
      obtain ⟨s4, e4, w1, w2, w3, k4⟩ := zc_words (t := t) (CK_TC k3 t2) (l2.trans e7) l1 sb.1 sb.2.1
      refine ⟨s4, ?_, ⟨?_, fun g => ?_, w2, ?_⟩, ?_⟩
      · unfold Z1_readWord Z1_readWord_j39
        rw [ob e3, ob e4]
        rfl
      · rw [w1, hCe, hNe]
      · exfalso
        have := wtk_b (b := b) (x := x) (y := tN b n i) 12
        omega
      · rw [w3, hNe]
      · refine ⟨fun k a b c d => ?_, fun a ha => ?_, ?_⟩
        · rw [k4.1 k a b c d, k3.1 k a b c d, k2.1 k a b c d]
        · rw [k4.2.1 a ha, k3.2.1 a ha, k2.2.1 a ha]
        · rw [k4.2.2, k3.2.2, k2.2.2]
    · rw [if_neg qL] at hNe hCe
      rw [if_neg (show ¬ decide (97 ≤ b x ∧ b x ≤ 122) = true from qL)]
      by_cases qD : isD b x = true
      · rw [if_pos qD] at hNe hCe
        rw [if_pos (show decide (48 ≤ b x ∧ b x ≤ 57) = true from qD)]
        obtain ⟨s3, e3, l1, l3, l2, k3⟩ := zc_digits (t := t) t2 (show x ≤ n by omega) sI_same
        have sb := scn_b (p := isD b) (show x ≤ n by omega)
        rw [← hNe] at l1 l3 sb
        have kk : ∀ v, CK s0 (sI s3 25 5 v) := fun v => by
          refine CK_sI ⟨fun k a b c d => ?_, fun a ha => ?_, ?_⟩ (by omega)
          · rw [k3.1 k a b c d, k2.1 k a b c d]
          · rw [k3.2.1 a ha, k2.2.1 a ha]
          · rw [k3.2.2, k2.2.2]
        unfold Z1_readNumber Z1_readNumber_j68
        rw [ob e3, l1, l2, e7, pk_sub sb.1]
        by_cases q4 : tN b n i - x ≤ 4
        · rw [if_pos q4] at hCe
          rw [if_pos (show nI (tN b n i - x) ≤ 4 from nI_le (b := 4) q4 (by omega))]
          refine ⟨_, rfl, ⟨by rw [sI_same, hCe]; rfl, fun _ => by rw [sI_oth (by decide), l3, hVe], by rw [sI_oth (by decide), l2]; exact e7, by rw [sI_oth (by decide)]; exact l1⟩, kk _⟩
        · rw [if_neg q4] at hCe
          rw [if_neg (show ¬ nI (tN b n i - x) ≤ 4 from nI_ge (a := 4) (by omega) (by omega))]
          refine ⟨_, rfl, ⟨by rw [sI_same, hCe]; rfl, fun g => absurd g (by omega), by rw [sI_oth (by decide), l2]; exact e7, by rw [sI_oth (by decide)]; exact l1⟩, kk _⟩
      · rw [if_neg qD] at hNe hCe
        rw [if_neg (show ¬ decide (48 ≤ b x ∧ b x ≤ 57) = true from qD)]
        by_cases qS : isS (b x) = true
        · rw [if_pos qS] at hCe
          rw [if_pos qS]
          refine ⟨_, rfl, ⟨by rw [sI_same, hCe], fun g => ?_, by rw [sI_oth (by decide), sI_oth (by decide)]; exact e7, by rw [sI_oth (by decide), sI_same, hNe]⟩, CK_sI (CK_sI k2 (by omega)) (by omega)⟩
          exfalso
          have := of_decide_eq_true qS
          omega
        · rw [if_neg qS] at hCe
          rw [if_neg qS]
          exact ⟨_, rfl, ⟨by rw [sI_same, hCe]; rfl, fun g => absurd g (by omega), by rw [sI_oth (by decide), sI_oth (by decide)]; exact e7, by rw [sI_oth (by decide), sI_same, hNe]⟩, CK_sI (CK_sI k2 (by omega)) (by omega)⟩
  · rw [if_neg q] at hNe hCe
    rw [if_neg (nI_nlt (by omega) (by omega))]
    exact ⟨_, rfl, ⟨by rw [sI_same, hCe]; rfl, fun g => absurd g (by omega), by rw [sI_oth (by decide), sI_oth (by decide)]; exact a1, by rw [sI_oth (by decide), sI_same, hNe]⟩, CK_sI (CK_sI k1 (by omega)) (by omega)⟩
theorem zc_nxt {t : mTX} {n : Nat} {b : Nat → Nat} {i : Nat} {s : mSG} (ht : TC n b s) (h : AT n b i s) (hi : i ≤ n) : ∃ s1, Z1_advance t s = some s1 ∧ AT n b (tN b n i) s1 ∧ CB s s1 ∧ s1.1 26 = s.1 26 ∧ s1.1 25 2 = s.1 25 2 := by
  obtain ⟨s1, e, a, c⟩ := zc_advance (t := t) ht (tN_b (b := b) hi).2.1 h.2.2.2
  exact ⟨s1, e, a, CB_CK c, c.2.1 26 (by decide), c.1 2 (by decide) (by decide) (by decide) (by decide)⟩
def zlpC (t : mTX) (n : Nat) (b : Nat → Nat) (C : mSG → Option (Bool × mSG)) (bd : Int32 × mSG → Option ((Int32 × mSG) ⊕ (mSG ⊕ mSG))) (sep : Nat → Option Nat) : Prop := (∀ i s x, AT n b i s → sep (tC b n i) = none → bd (x, s) = some (.inr (.inr s))) ∧ (∀ i s j o, AT n b i s → j < 160 → sep (tC b n i) = some o → bd (nI j, s) = (Z1_advance t s).bind (fun r => (C r).bind (fun r4 => if r4.1 = true then (X1_emit (xOc o) r4.2).bind (fun r5 => some (.inl (nI (j + 1), r5))) else some (.inr (.inl r4.2)))))
theorem zc_tk_n {i w : Nat} {X : Int32} {s : mSG} (h : AT n b i s) (hX : X = nI w) (hw : w < 1000) (hc : ¬ tC b n i = w) : Z1_takes t X s = some (false, s) := by
  unfold Z1_takes
  rw [if_neg (fun g => hc ((tk_eq h hX hw).mp g))]
theorem zc_tk_y {i w : Nat} {X : Int32} {s : mSG} (h : AT n b i s) (hX : X = nI w) (hw : w < 1000) (hc : tC b n i = w) : Z1_takes t X s = (Z1_advance t s).bind (fun r2 => some (true, r2)) := by
  unfold Z1_takes
  rw [if_pos ((tk_eq h hX hw).mpr hc)]
theorem zlpC_T : zlpC t n b (rc 5 q) (fun v => Z1_readsTerm_b12 t rc q v.1 v.2) spT := by
  constructor
  · intro i s x ha hs
    have hc := sp1_n hs
    show Z1_readsTerm_b12 t rc q x s = _
    unfold Z1_readsTerm_b12
    by_cases g : 160 ≤ x
    · rw [if_pos g]
    · rw [if_neg g, zc_tk_n ha (X := 42) (w := 42) rfl (by omega) hc]
      rfl
  · intro i s j o ha hj hs
    obtain ⟨hc, rfl⟩ := sp1_y hs
    show Z1_readsTerm_b12 t rc q (nI j) s = _
    unfold Z1_readsTerm_b12
    rw [if_neg (gl_le (x := 160) (m := 160) rfl hj (by omega)), zc_tk_y ha (X := 42) (w := 42) rfl (by omega) hc, nI_1]
    cases Z1_advance t s <;> rfl
theorem zlpC_B : zlpC t n b (rc 2 q) (fun v => Z1_readsBoth_b12 t rc q v.1 v.2) spB := by
  constructor
  · intro i s x ha hs
    have hc := sp1_n hs
    show Z1_readsBoth_b12 t rc q x s = _
    unfold Z1_readsBoth_b12
    by_cases g : 160 ≤ x
    · rw [if_pos g]
    · rw [if_neg g, zc_tk_n ha (X := 266) (w := 266) rfl (by omega) hc]
      rfl
  · intro i s j o ha hj hs
    obtain ⟨hc, rfl⟩ := sp1_y hs
    show Z1_readsBoth_b12 t rc q (nI j) s = _
    unfold Z1_readsBoth_b12
    rw [if_neg (gl_le (x := 160) (m := 160) rfl hj (by omega)), zc_tk_y ha (X := 266) (w := 266) rfl (by omega) hc, nI_1]
    cases Z1_advance t s <;> rfl
theorem zlpC_E : zlpC t n b (rc 1 q) (fun v => Z1_readsEither_b12 t rc q v.1 v.2) spE := by
  constructor
  · intro i s x ha hs
    have hc := sp1_n hs
    show Z1_readsEither_b12 t rc q x s = _
    unfold Z1_readsEither_b12
    by_cases g : 160 ≤ x
    · rw [if_pos g]
    · rw [if_neg g, zc_tk_n ha (X := 265) (w := 265) rfl (by omega) hc]
      rfl
  · intro i s j o ha hj hs
    obtain ⟨hc, rfl⟩ := sp1_y hs
    show Z1_readsEither_b12 t rc q (nI j) s = _
    unfold Z1_readsEither_b12
    rw [if_neg (gl_le (x := 160) (m := 160) rfl hj (by omega)), zc_tk_y ha (X := 265) (w := 265) rfl (by omega) hc, nI_1]
    cases Z1_advance t s <;> rfl
theorem zlpC_S : zlpC t n b (rc 4 q) (fun v => Z1_readsSum_b12 t rc q v.1 v.2) spS := by
  constructor
  · intro i s x ha hs
    obtain ⟨h3, h5⟩ := spS_n hs
    show Z1_readsSum_b12 t rc q x s = _
    unfold Z1_readsSum_b12
    by_cases g : 160 ≤ x
    · rw [if_pos g]
    · rw [if_neg g, if_neg (fun g => h3 ((tk_eq ha (X := 43) (w := 43) rfl (by omega)).mp g)), if_neg (fun g => h5 ((tk_eq ha (X := 45) (w := 45) rfl (by omega)).mp g))]
  · intro i s j o ha hj hs
    show Z1_readsSum_b12 t rc q (nI j) s = _
    unfold Z1_readsSum_b12 Z1_readsSum_j37_12 Z1_readsSum_j70_12
    rw [if_neg (gl_le (x := 160) (m := 160) rfl hj (by omega)), nI_1]
    rcases spS_y hs with ⟨hc, rfl⟩ | ⟨hc, rfl⟩
    · have e := (tk_eq ha (X := 43) (w := 43) rfl (by omega)).mpr hc
      rw [if_pos e, e]
      rfl
    · have e := (tk_eq ha (X := 45) (w := 45) rfl (by omega)).mpr hc
      have ne : ¬ (45 : Int32) = 43 := by decide
      rw [e, if_neg ne, if_pos rfl]
      rfl
def zcNotT (t : mTX) (rc : Nat → Int32 → mSG → Option (Bool × mSG)) (q : Int32) (s : mSG) : Option (Bool × mSG) :=
  if (s.1 25 5) = 60 then Z1_readsNot_j67 t rc q (s.1 25 5) s
  else if (s.1 25 5) = 61 then Z1_readsNot_j67 t rc q (s.1 25 5) s
  else some (true, s)
def zcNotB (t : mTX) (rc : Nat → Int32 → mSG → Option (Bool × mSG)) (q : Int32) (s : mSG) : Option (Bool × mSG) :=
  (Z1_opens t q s).bind (fun r2 =>
    if r2.1 = true then
      (rc 2 (q + 1) r2.2).bind (fun r3 =>
      if r3.1 = true then
        (X1_emit (-13) r3.2).bind (fun r4 =>
        some (true, r4))
      else
        some (false, r3.2))
    else
      some (false, r2.2))
theorem zcN_0 {i : Nat} {s : mSG} (ha : AT n b i s) (hs : spN (tC b n i) = none) : zcNotT t rc q s = some (true, s) := by
  obtain ⟨h3, h5⟩ := spN_n hs
  unfold zcNotT
  rw [if_neg (fun g => h3 ((tk_eq ha (X := 60) (w := 60) rfl (by omega)).mp g)), if_neg (fun g => h5 ((tk_eq ha (X := 61) (w := 61) rfl (by omega)).mp g))]
def zcNegB (t : mTX) (rc : Nat → Int32 → mSG → Option (Bool × mSG)) (q : Int32) (s : mSG) : Option (Bool × mSG) :=
  (Z1_opens t q s).bind (fun r9 =>
    if r9.1 = true then
      (rc 5 (q + 1) r9.2).bind (fun r10 =>
      if r10.1 = true then
        (X1_emit (-19) r10.2).bind (fun r11 =>
        some (true, r11))
      else
        some (false, r10.2))
    else
      some (false, r9.2))
def zcParB (t : mTX) (rc : Nat → Int32 → mSG → Option (Bool × mSG)) (q : Int32) (s : mSG) : Option (Bool × mSG) :=
  (Z1_opens t q s).bind (fun r13 =>
      if r13.1 = true then
        (rc 0 (q + 1) r13.2).bind (fun r14 =>
        if r14.1 = true then
          (Z1_takes t 41 r14.2).bind (fun r15 =>
          if r15.1 = true then
            some (true, r15.2)
          else
            some (false, r15.2))
        else
          some (false, r14.2))
      else
        some (false, r13.2))
end
