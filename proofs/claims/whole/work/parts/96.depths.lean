/-! THE DEPTHS -/
theorem R_0 {t : mTX} {f : Nat} {q : Int32} : X1_R t (f + 1) 0 q = X1_readsEither_B t (X1_R t f) q := funext fun s => rfl
theorem R_1 {t : mTX} {f : Nat} {q : Int32} : X1_R t (f + 1) 1 q = X1_readsBoth_B t (X1_R t f) q := funext fun s => rfl
theorem R_2 {t : mTX} {f : Nat} {q : Int32} : X1_R t (f + 1) 2 q = X1_readsNot_B t (X1_R t f) q := funext fun s => rfl
theorem R_3 {t : mTX} {f : Nat} {q : Int32} : X1_R t (f + 1) 3 q = X1_readsSum_B t (X1_R t f) q := funext fun s => rfl
theorem R_4 {t : mTX} {f : Nat} {q : Int32} : X1_R t (f + 1) 4 q = X1_readsTerm_B t (X1_R t f) q := funext fun s => rfl
theorem R_5 {t : mTX} {f : Nat} {q : Int32} : X1_R t (f + 1) 5 q = X1_readsOne_B t (X1_R t f) q := funext fun s => rfl
theorem BP_mono {k n : Nat} {b : Nat → Nat} {C : mSG → Option (Bool × mSG)} {F : mSG → Option (Int32 × mSG)} {dd dd' d i : Nat} (h : BP k n b C F dd d i) (hd : dd ≤ dd') : BP k n b C F dd' d i := by
  obtain ⟨ok, i', L, P, cH, mH⟩ := h
  refine ⟨ok, i', L, P, cH, fun s ht ha hb ho => ?_⟩
  obtain ⟨v, s1, e1, b1, y1, z1⟩ := mH s ht ha hb ho
  refine ⟨v, s1, e1, b1, fun g => ?_, z1⟩
  obtain ⟨g1, g2, g3, g4⟩ := y1 g
  exact ⟨g1, g2, g3, isV_mono g4 hd⟩
def LV (t : mTX) (k n : Nat) (b : Nat → Nat) (lev d g a : Nat) (F : mSG → Option (Int32 × mSG)) : Prop := ∀ f, g ≤ f → ∀ i, i ≤ n → BP k n b (X1_R t f lev (nI d)) F a d i
def gLst (bd : Int32 → mSG → Option ((Int32 × mSG) ⊕ (Int32 × mSG))) (F : mSG → Option (Int32 × mSG)) (s : mSG) : Option (Int32 × mSG) := (F s).bind (fun r1 => (iter (fun v : Int32 × mSG => bd v.1 v.2) mFU (r1.1, r1.2)).bind (fun e5 => some (e5.1, e5.2)))
def gNotG (Fn : mSG → Option (Int32 × mSG)) (s : mSG) : Option (Int32 × mSG) := (X9_opens s).bind (fun r3 =>
    if r3.1 = true then
      (Fn r3.2).bind (fun r4 =>
      if r4.1 = 0 then
        some (1, sI r4.2 56 30 ((r4.2.1 56 30) - 1))
      else
        some (0, sI r4.2 56 30 ((r4.2.1 56 30) - 1)))
    else
      some (0, r3.2))
def gZ (s : mSG) : Option (Int32 × mSG) := (X9_opens s).bind (fun r3 => some (0, r3.2))
def gNot (G F : mSG → Option (Int32 × mSG)) (s : mSG) : Option (Int32 × mSG) := (X9_isWord 110 111 116 0 0 0 0 0 s).bind (fun r1 => if r1 = true then G s else (F s).bind (fun r2 => gNotT F r2.1 r2.2))
def gNegG (Fa : mSG → Option (Int32 × mSG)) (s : mSG) : Option (Int32 × mSG) := (X9_opens s).bind (fun r7 =>
    if r7.1 = true then
      (Fa r7.2).bind (fun r8 =>
      some (-r8.1, sI r8.2 56 30 ((r8.2.1 56 30) - 1)))
    else
      some (0, r7.2))
def gParG (Fe : mSG → Option (Int32 × mSG)) (s : mSG) : Option (Int32 × mSG) := (X9_opens s).bind (fun r4 =>
      if r4.1 = true then
        (Fe r4.2).bind (fun r5 =>
        if X9_isSign 41 r5.2 = true then
          gJ r5.1 r5.2
        else
          (X9_fail r5.2).bind (fun r6 =>
          gJ r5.1 r6))
      else
        some (0, r4.2))
def gAtom (Gn Gp : mSG → Option (Int32 × mSG)) (s : mSG) : Option (Int32 × mSG) := if X9_isSign 45 s = true then Gn s else if X9_isSign 40 s = true then Gp s else if (s.1 56 31) = 0 then (if (s.1 56 27) = 2 then (X9_next s).bind (fun r3 => some ((s.2.2 56 29).toInt32, r3)) else gAtJ 0 s) else gAtJ 0 s
section
variable {t : mTX} {k n : Nat} {b : Nat → Nat} {d g a : Nat} {F F' Fn Fe : mSG → Option (Int32 × mSG)}
theorem lv_T (hn : n ≤ 160) (eF : ∀ s, F' s = gLst (gMulB F) F s) (h : LV t k n b 5 d g a F) : LV t k n b 4 d (g + 1) (a + 1) F' := fun f hf i hi => by
  obtain ⟨f, rfl⟩ : ∃ f', f = f' + 1 := ⟨f - 1, by omega⟩
  rw [R_4]
  exact bp_list spT_ok (lpC_T (rc := X1_R t f) (q := nI d)) lpM_T hn (fun s => rfl) eF (h f (by omega)) i hi
theorem lv_S (hn : n ≤ 160) (eF : ∀ s, F' s = gLst (gAddB F) F s) (h : LV t k n b 4 d g a F) : LV t k n b 3 d (g + 1) (a + 1) F' := fun f hf i hi => by
  obtain ⟨f, rfl⟩ : ∃ f', f = f' + 1 := ⟨f - 1, by omega⟩
  rw [R_3]
  exact bp_list spS_ok (lpC_S (rc := X1_R t f) (q := nI d)) lpM_S hn (fun s => rfl) eF (h f (by omega)) i hi
theorem lv_B (hn : n ≤ 160) (eF : ∀ s, F' s = gLst (gAndB F) F s) (h : LV t k n b 2 d g a F) : LV t k n b 1 d (g + 1) (a + 1) F' := fun f hf i hi => by
  obtain ⟨f, rfl⟩ : ∃ f', f = f' + 1 := ⟨f - 1, by omega⟩
  rw [R_1]
  exact bp_list spB_ok (lpC_B (rc := X1_R t f) (q := nI d)) lpM_B hn (fun s => rfl) eF (h f (by omega)) i hi
theorem lv_E (hn : n ≤ 160) (eF : ∀ s, F' s = gLst (gOrB F) F s) (h : LV t k n b 1 d g a F) : LV t k n b 0 d (g + 1) (a + 1) F' := fun f hf i hi => by
  obtain ⟨f, rfl⟩ : ∃ f', f = f' + 1 := ⟨f - 1, by omega⟩
  rw [R_0]
  exact bp_list spE_ok (lpC_E (rc := X1_R t f) (q := nI d)) lpM_E hn (fun s => rfl) eF (h f (by omega)) i hi
theorem lv_N5 (hn : n ≤ 160) (eF : ∀ s, F' s = gNot gZ F s) (h : LV t k n b 3 5 g a F) : LV t k n b 2 5 (g + 1) (a + 1) F' := fun f hf i hi => by
  obtain ⟨f, rfl⟩ : ∃ f', f = f' + 1 := ⟨f - 1, by omega⟩
  rw [R_2]
  refine bp_not hi hn eF (fun _ => bp_full hi (fun s => ?_) (fun s => rfl)) (h f (by omega))
  unfold cNotB
  rw [ob c_op_n]
  rfl
theorem lv_N {g' a' : Nat} (hn : n ≤ 160) (hd : d < 5) (ha : a' ≤ a + 1) (hg : g' ≤ g) (eF : ∀ s, F' s = gNot (gNotG Fn) F s) (h : LV t k n b 3 d g a F) (h' : LV t k n b 2 (d + 1) g' a' Fn) : LV t k n b 2 d (g + 1) (a + 1) F' := fun f hf i hi => by
  obtain ⟨f, rfl⟩ : ∃ f', f = f' + 1 := ⟨f - 1, by omega⟩
  rw [R_2]
  refine bp_not hi hn eF (fun hc => ?_) (h f (by omega))
  refine bp_un (t := t) (x := (3, 0)) (u := fun v => b01 (v = 0)) hi hn hd (by omega) (by omega) True.intro (fun env L v hv => isV_not hv) (fun s => ?_) (fun s => ?_) (fun i hi => BP_mono (h' f (by omega) i hi) ha)
  · unfold cNotB
    rw [nI_1]
    rfl
  · have e : ∀ (v : Int32) (S : mSG), (if v = 0 then some (1, S) else some (0, S)) = some (b01 (v = 0), S) := fun v S => by
      unfold b01
      by_cases q : v = 0
      · rw [if_pos q, if_pos q]
      · rw [if_neg q, if_neg q]
    unfold gNotG
    simp only [e]
theorem lv_A5 (hn : n ≤ 160) (eF : ∀ s, F' s = gAtom gZ gZ s) : LV t k n b 5 5 1 1 F' := fun f hf i hi => by
  obtain ⟨f, rfl⟩ : ∃ f', f = f' + 1 := ⟨f - 1, by omega⟩
  rw [R_5]
  refine bp_atom hi hn (Nat.le_refl _) eF (fun _ => bp_full hi (fun s => ?_) (fun s => rfl)) (fun _ => bp_full hi (fun s => ?_) (fun s => rfl))
  · unfold cNegB
    rw [ob c_op_n]
    rfl
  · unfold cParB
    rw [ob c_op_n]
    rfl
theorem lv_A {g' a' : Nat} (hn : n ≤ 160) (hd : d < 5) (ha : a' ≤ a) (h1 : 1 ≤ a) (hg : g' ≤ g) (eF : ∀ s, F' s = gAtom (gNegG F) (gParG Fe) s) (h : LV t k n b 5 (d + 1) g' a' F) (h' : LV t k n b 0 (d + 1) g a Fe) : LV t k n b 5 d (g + 1) a F' := fun f hf i hi => by
  obtain ⟨f, rfl⟩ : ∃ f', f = f' + 1 := ⟨f - 1, by omega⟩
  rw [R_5]
  refine bp_atom hi hn h1 eF (fun hc => ?_) (fun hc => ?_)
  · refine bp_un (t := t) (x := (2, 0)) (u := fun v => -v) hi hn hd (by omega) (by omega) True.intro (fun env L v hv => isV_neg hv) (fun s => ?_) (fun s => rfl) (fun i hi => BP_mono (h f (by omega) i hi) ha)
    unfold cNegB
    rw [nI_1]
    rfl
  · refine bp_par (t := t) hi hn hd (by omega) (by omega) (fun s => ?_) (fun s => rfl) (h' f (by omega))
    unfold cParB
    rw [nI_1]
theorem dp_5 (hn : n ≤ 160) : LV t k n b 5 5 1 1 X9_atom5 ∧ LV t k n b 2 5 4 4 X9_not5 ∧ LV t k n b 0 5 6 6 X9_either5 := by
  have A : LV t k n b 5 5 1 1 X9_atom5 := lv_A5 hn (fun s => rfl)
  have T : LV t k n b 4 5 2 2 X9_term5 := lv_T hn (fun s => rfl) A
  have S : LV t k n b 3 5 3 3 X9_added5 := lv_S hn (fun s => rfl) T
  have N : LV t k n b 2 5 4 4 X9_not5 := lv_N5 hn (fun s => rfl) S
  have B : LV t k n b 1 5 5 5 X9_both5 := lv_B hn (fun s => rfl) N
  exact ⟨A, N, lv_E hn (fun s => rfl) B⟩
theorem dp_4 (hn : n ≤ 160) : LV t k n b 5 4 7 6 X9_atom4 ∧ LV t k n b 2 4 10 9 X9_not4 ∧ LV t k n b 0 4 12 11 X9_either4 := by
  obtain ⟨A1, N1, E1⟩ := dp_5 (t := t) (k := k) (b := b) hn
  have A : LV t k n b 5 4 7 6 X9_atom4 := lv_A (g := 6) (g' := 1) (a' := 1) hn (by decide) (by decide) (by decide) (by decide) (fun s => rfl) A1 E1
  have T : LV t k n b 4 4 8 7 X9_term4 := lv_T hn (fun s => rfl) A
  have S : LV t k n b 3 4 9 8 X9_added4 := lv_S hn (fun s => rfl) T
  have N : LV t k n b 2 4 10 9 X9_not4 := lv_N (g' := 4) (a' := 4) hn (by decide) (by decide) (by decide) (fun s => rfl) S N1
  have B : LV t k n b 1 4 11 10 X9_both4 := lv_B hn (fun s => rfl) N
  exact ⟨A, N, lv_E hn (fun s => rfl) B⟩
theorem dp_3 (hn : n ≤ 160) : LV t k n b 5 3 13 11 X9_atom3 ∧ LV t k n b 2 3 16 14 X9_not3 ∧ LV t k n b 0 3 18 16 X9_either3 := by
  obtain ⟨A1, N1, E1⟩ := dp_4 (t := t) (k := k) (b := b) hn
  have A : LV t k n b 5 3 13 11 X9_atom3 := lv_A (g := 12) (g' := 7) (a' := 6) hn (by decide) (by decide) (by decide) (by decide) (fun s => rfl) A1 E1
  have T : LV t k n b 4 3 14 12 X9_term3 := lv_T hn (fun s => rfl) A
  have S : LV t k n b 3 3 15 13 X9_added3 := lv_S hn (fun s => rfl) T
  have N : LV t k n b 2 3 16 14 X9_not3 := lv_N (g' := 10) (a' := 9) hn (by decide) (by decide) (by decide) (fun s => rfl) S N1
  have B : LV t k n b 1 3 17 15 X9_both3 := lv_B hn (fun s => rfl) N
  exact ⟨A, N, lv_E hn (fun s => rfl) B⟩
theorem dp_2 (hn : n ≤ 160) : LV t k n b 5 2 19 16 X9_atom2 ∧ LV t k n b 2 2 22 19 X9_not2 ∧ LV t k n b 0 2 24 21 X9_either2 := by
  obtain ⟨A1, N1, E1⟩ := dp_3 (t := t) (k := k) (b := b) hn
  have A : LV t k n b 5 2 19 16 X9_atom2 := lv_A (g := 18) (g' := 13) (a' := 11) hn (by decide) (by decide) (by decide) (by decide) (fun s => rfl) A1 E1
  have T : LV t k n b 4 2 20 17 X9_term2 := lv_T hn (fun s => rfl) A
  have S : LV t k n b 3 2 21 18 X9_added2 := lv_S hn (fun s => rfl) T
  have N : LV t k n b 2 2 22 19 X9_not2 := lv_N (g' := 16) (a' := 14) hn (by decide) (by decide) (by decide) (fun s => rfl) S N1
  have B : LV t k n b 1 2 23 20 X9_both2 := lv_B hn (fun s => rfl) N
  exact ⟨A, N, lv_E hn (fun s => rfl) B⟩
theorem dp_1 (hn : n ≤ 160) : LV t k n b 5 1 25 21 X9_atom1 ∧ LV t k n b 2 1 28 24 X9_not1 ∧ LV t k n b 0 1 30 26 X9_either1 := by
  obtain ⟨A1, N1, E1⟩ := dp_2 (t := t) (k := k) (b := b) hn
  have A : LV t k n b 5 1 25 21 X9_atom1 := lv_A (g := 24) (g' := 19) (a' := 16) hn (by decide) (by decide) (by decide) (by decide) (fun s => rfl) A1 E1
  have T : LV t k n b 4 1 26 22 X9_term1 := lv_T hn (fun s => rfl) A
  have S : LV t k n b 3 1 27 23 X9_added1 := lv_S hn (fun s => rfl) T
  have N : LV t k n b 2 1 28 24 X9_not1 := lv_N (g' := 22) (a' := 19) hn (by decide) (by decide) (by decide) (fun s => rfl) S N1
  have B : LV t k n b 1 1 29 25 X9_both1 := lv_B hn (fun s => rfl) N
  exact ⟨A, N, lv_E hn (fun s => rfl) B⟩
theorem dp_0 (hn : n ≤ 160) : LV t k n b 5 0 31 26 X9_atom0 ∧ LV t k n b 2 0 34 29 X9_not0 ∧ LV t k n b 0 0 36 31 X9_either0 := by
  obtain ⟨A1, N1, E1⟩ := dp_1 (t := t) (k := k) (b := b) hn
  have A : LV t k n b 5 0 31 26 X9_atom0 := lv_A (g := 30) (g' := 25) (a' := 21) hn (by decide) (by decide) (by decide) (by decide) (fun s => rfl) A1 E1
  have T : LV t k n b 4 0 32 27 X9_term0 := lv_T hn (fun s => rfl) A
  have S : LV t k n b 3 0 33 28 X9_added0 := lv_S hn (fun s => rfl) T
  have N : LV t k n b 2 0 34 29 X9_not0 := lv_N (g' := 28) (a' := 24) hn (by decide) (by decide) (by decide) (fun s => rfl) S N1
  have B : LV t k n b 1 0 35 30 X9_both0 := lv_B hn (fun s => rfl) N
  exact ⟨A, N, lv_E hn (fun s => rfl) B⟩
end
