/-! THE LAW: its cases -/
def lawL (x : Int32) : mLV := [some (.ref 0), some (.ref 6), some (.ref 56), some (.int x)]
/-- from pc on the law comes to its end, and says 1 -/
def LQ (D : Nat) (t : mTX) (s : mSG) (x : Int32) (pc : Nat) : Prop := ∃ sE tE, TB tE ∧ tE.1 = t.1 ∧ mLe (LAY t) (LAY tE) ∧ Ex (Runs (D + 80)) cd_L_law (some (.int 1), sE, LAY tE) pc (lawL x) [] s (LAY t)
theorem gi {t : mTX} {i k : Nat} (hl : t.1 ≤ 100000) (hi : i + 6 ≤ t.1) (hk : k < 6) {x : Int32} (hx : x = nI k) : mInb (nI i + x) t.1 = true := by
  rw [hx, nI_add]
  exact gl_inb (by omega) (by omega)
theorem law_mud (D : Nat) (t : mTX) (s : mSG) (i : Nat) (h : INV t s) (hB : TB t) (hl : t.1 ≤ 100000) (hi : i + 6 ≤ t.1) (IH : ∀ t1 s2, INV t1 s2 → TB t1 → t1.1 = t.1 → LQ D t1 s2 (nI (i + 6)) 18) : LQ D t s (nI i) 168 := by
  obtain ⟨v, s1, s2, e1, e2, h2⟩ := L_mud h (s.1 0 (nI i + 1).toNatClampNeg) (s.1 0 (nI i + 2).toNatClampNeg) (s.1 0 (nI i + 3).toNatClampNeg)
  have z : s1.1 0 = s.1 0 := funext fun j => (FR_X8_mud _ _ _ _ _ e1 0 j rfl).1
  rw [← z] at e2
  obtain ⟨sE, tE, b1, b2, b3, eE⟩ := IH t s2 h2 hB rfl
  rw [show nI (i + 6) = nI i + 6 from (nI_add i 6).symm] at eE
  refine ⟨sE, tE, b1, b2, b3, ?_⟩
  refine Ex_gd 6 (g := mInb (nI i + 1) t.1 = true) (fun _ => rfl) (gi (k := 1) hl hi (by decide) rfl) ?_
  refine Ex_gd 5 (g := mInb (nI i + 2) t.1 = true) (fun _ => rfl) (gi (k := 2) hl hi (by decide) rfl) ?_
  refine Ex_gd 5 (g := mInb (nI i + 3) t.1 = true) (fun _ => rfl) (gi (k := 3) hl hi (by decide) rfl) ?_
  refine Ex_callN 1 (fun _ => rfl) (T_X8_mud (D + 74) t _ _ _ s (v, s1) e1) (mLe_refl _) b3 ?_
  refine Ex_gd 6 (g := mInb (nI i + 1) t.1 = true) (fun _ => rfl) (gi (k := 1) hl hi (by decide) rfl) ?_
  refine Ex_gd 5 (g := mInb (nI i + 2) t.1 = true) (fun _ => rfl) (gi (k := 2) hl hi (by decide) rfl) ?_
  refine Ex_gd 5 (g := mInb (nI i + 3) t.1 = true) (fun _ => rfl) (gi (k := 3) hl hi (by decide) rfl) ?_
  refine Ex_callN 1 (fun _ => rfl) (T_X9_mud (D + 77) t _ _ _ s1 (v, s2) e2) (mLe_refl _) b3 ?_
  refine Ex_brT 1 (c := v = v) (fun _ => rfl) rfl ?_
  exact Ex_st 2 (fun _ => rfl) eE
theorem law_far (D : Nat) (t : mTX) (s : mSG) (i : Nat) (h : INV t s) (hB : TB t) (hl : t.1 ≤ 100000) (hi : i + 6 ≤ t.1) (IH : ∀ t1 s2, INV t1 s2 → TB t1 → t1.1 = t.1 → LQ D t1 s2 (nI (i + 6)) 18) : LQ D t s (nI i) 211 := by
  obtain ⟨v, e1, e2⟩ := L_far h (s.1 0 (nI i + 1).toNatClampNeg) (s.1 0 (nI i + 2).toNatClampNeg)
  obtain ⟨sE, tE, b1, b2, b3, eE⟩ := IH t s h hB rfl
  rw [show nI (i + 6) = nI i + 6 from (nI_add i 6).symm] at eE
  refine ⟨sE, tE, b1, b2, b3, ?_⟩
  refine Ex_gd 6 (g := mInb (nI i + 1) t.1 = true) (fun _ => rfl) (gi (k := 1) hl hi (by decide) rfl) ?_
  refine Ex_gd 5 (g := mInb (nI i + 2) t.1 = true) (fun _ => rfl) (gi (k := 2) hl hi (by decide) rfl) ?_
  refine Ex_callN 1 (fun _ => rfl) (T_X8_far (D + 75) t _ _ s v e1) (mLe_refl _) b3 ?_
  refine Ex_gd 6 (g := mInb (nI i + 1) t.1 = true) (fun _ => rfl) (gi (k := 1) hl hi (by decide) rfl) ?_
  refine Ex_gd 5 (g := mInb (nI i + 2) t.1 = true) (fun _ => rfl) (gi (k := 2) hl hi (by decide) rfl) ?_
  refine Ex_callN 1 (fun _ => rfl) (T_X9_far (D + 77) t _ _ s v e2) (mLe_refl _) b3 ?_
  refine Ex_brT 1 (c := v = v) (fun _ => rfl) rfl ?_
  exact Ex_st 2 (fun _ => rfl) eE
theorem law_one (D : Nat) (t : mTX) (s : mSG) (i : Nat) (h : INV t s) (hB : TB t) (hl : t.1 ≤ 100000) (hi : i + 6 ≤ t.1) (IH : ∀ t1 s2, INV t1 s2 → TB t1 → t1.1 = t.1 → LQ D t1 s2 (nI (i + 6)) 18) : LQ D t s (nI i) 244 := by
  obtain ⟨v, s1, s2, e1, e2, h2⟩ := L_one h (s.1 0 (nI i + 1).toNatClampNeg) (s.1 0 (nI i + 2).toNatClampNeg) (s.1 0 (nI i + 3).toNatClampNeg)
  have z : s1.1 0 = s.1 0 := funext fun j => (FR_X8_one _ _ _ _ _ e1 0 j rfl).1
  rw [← z] at e2
  obtain ⟨sE, tE, b1, b2, b3, eE⟩ := IH t s2 h2 hB rfl
  rw [show nI (i + 6) = nI i + 6 from (nI_add i 6).symm] at eE
  refine ⟨sE, tE, b1, b2, b3, ?_⟩
  refine Ex_gd 6 (g := mInb (nI i + 1) t.1 = true) (fun _ => rfl) (gi (k := 1) hl hi (by decide) rfl) ?_
  refine Ex_gd 5 (g := mInb (nI i + 2) t.1 = true) (fun _ => rfl) (gi (k := 2) hl hi (by decide) rfl) ?_
  refine Ex_gd 5 (g := mInb (nI i + 3) t.1 = true) (fun _ => rfl) (gi (k := 3) hl hi (by decide) rfl) ?_
  refine Ex_callN 1 (fun _ => rfl) (T_X8_one (D + 76) t _ _ _ s (v, s1) e1) (mLe_refl _) b3 ?_
  refine Ex_gd 6 (g := mInb (nI i + 1) t.1 = true) (fun _ => rfl) (gi (k := 1) hl hi (by decide) rfl) ?_
  refine Ex_gd 5 (g := mInb (nI i + 2) t.1 = true) (fun _ => rfl) (gi (k := 2) hl hi (by decide) rfl) ?_
  refine Ex_gd 5 (g := mInb (nI i + 3) t.1 = true) (fun _ => rfl) (gi (k := 3) hl hi (by decide) rfl) ?_
  refine Ex_callN 1 (fun _ => rfl) (T_X9_one (D + 78) t _ _ _ s1 (v, s2) e2) (mLe_refl _) b3 ?_
  refine Ex_brT 1 (c := v = v) (fun _ => rfl) rfl ?_
  exact Ex_st 2 (fun _ => rfl) eE
theorem law_set (D : Nat) (t : mTX) (s : mSG) (i : Nat) (h : INV t s) (hB : TB t) (hl : t.1 ≤ 100000) (hi : i + 6 ≤ t.1) (IH : ∀ t1 s2, INV t1 s2 → TB t1 → t1.1 = t.1 → LQ D t1 s2 (nI (i + 6)) 18) : LQ D t s (nI i) 287 := by
  obtain ⟨v, s1, s2, e1, e2, h2⟩ := L_set h (s.1 0 (nI i + 1).toNatClampNeg) (s.1 0 (nI i + 2).toNatClampNeg) (s.1 0 (nI i + 3).toNatClampNeg)
  have z : s1.1 0 = s.1 0 := funext fun j => (FR_X8_set _ _ _ _ _ e1 0 j rfl).1
  rw [← z] at e2
  obtain ⟨sE, tE, b1, b2, b3, eE⟩ := IH t s2 h2 hB rfl
  rw [show nI (i + 6) = nI i + 6 from (nI_add i 6).symm] at eE
  refine ⟨sE, tE, b1, b2, b3, ?_⟩
  refine Ex_gd 6 (g := mInb (nI i + 1) t.1 = true) (fun _ => rfl) (gi (k := 1) hl hi (by decide) rfl) ?_
  refine Ex_gd 5 (g := mInb (nI i + 2) t.1 = true) (fun _ => rfl) (gi (k := 2) hl hi (by decide) rfl) ?_
  refine Ex_gd 5 (g := mInb (nI i + 3) t.1 = true) (fun _ => rfl) (gi (k := 3) hl hi (by decide) rfl) ?_
  refine Ex_callN 1 (fun _ => rfl) (T_X8_set (D + 76) t _ _ _ s (v, s1) e1) (mLe_refl _) b3 ?_
  refine Ex_gd 6 (g := mInb (nI i + 1) t.1 = true) (fun _ => rfl) (gi (k := 1) hl hi (by decide) rfl) ?_
  refine Ex_gd 5 (g := mInb (nI i + 2) t.1 = true) (fun _ => rfl) (gi (k := 2) hl hi (by decide) rfl) ?_
  refine Ex_gd 5 (g := mInb (nI i + 3) t.1 = true) (fun _ => rfl) (gi (k := 3) hl hi (by decide) rfl) ?_
  refine Ex_callN 1 (fun _ => rfl) (T_X9_set (D + 77) t _ _ _ s1 (v, s2) e2) (mLe_refl _) b3 ?_
  refine Ex_brT 1 (c := v = v) (fun _ => rfl) rfl ?_
  exact Ex_st 2 (fun _ => rfl) eE
theorem law_told (D : Nat) (t : mTX) (s : mSG) (i : Nat) (h : INV t s) (hB : TB t) (hl : t.1 ≤ 100000) (hi : i + 6 ≤ t.1) (IH : ∀ t1 s2, INV t1 s2 → TB t1 → t1.1 = t.1 → LQ D t1 s2 (nI (i + 6)) 18) : LQ D t s (nI i) 330 := by
  obtain ⟨v, s1, e1, e2, h2⟩ := L_told h (s.1 0 (nI i + 1).toNatClampNeg) (s.1 0 (nI i + 2).toNatClampNeg)
  have z : s1.1 0 = s.1 0 := funext fun j => (FR_X8_told _ _ _ _ e1 0 j rfl).1
  rw [← z] at e2
  obtain ⟨sE, tE, b1, b2, b3, eE⟩ := IH t s1 h2 hB rfl
  rw [show nI (i + 6) = nI i + 6 from (nI_add i 6).symm] at eE
  refine ⟨sE, tE, b1, b2, b3, ?_⟩
  refine Ex_gd 6 (g := mInb (nI i + 1) t.1 = true) (fun _ => rfl) (gi (k := 1) hl hi (by decide) rfl) ?_
  refine Ex_gd 5 (g := mInb (nI i + 2) t.1 = true) (fun _ => rfl) (gi (k := 2) hl hi (by decide) rfl) ?_
  refine Ex_callN 1 (fun _ => rfl) (T_X8_told (D + 75) t _ _ s (v, s1) e1) (mLe_refl _) b3 ?_
  refine Ex_gd 6 (g := mInb (nI i + 1) t.1 = true) (fun _ => rfl) (gi (k := 1) hl hi (by decide) rfl) ?_
  refine Ex_gd 5 (g := mInb (nI i + 2) t.1 = true) (fun _ => rfl) (gi (k := 2) hl hi (by decide) rfl) ?_
  refine Ex_callN 1 (fun _ => rfl) (T_X9_told (D + 77) t _ _ s1 v e2) (mLe_refl _) b3 ?_
  refine Ex_brT 1 (c := v = v) (fun _ => rfl) rfl ?_
  exact Ex_st 2 (fun _ => rfl) eE
theorem law_feed (D : Nat) (t : mTX) (s : mSG) (i : Nat) (h : INV t s) (hB : TB t) (hl : t.1 ≤ 100000) (hi : i + 6 ≤ t.1) (IH : ∀ t1 s2, INV t1 s2 → TB t1 → t1.1 = t.1 → LQ D t1 s2 (nI (i + 6)) 18) : LQ D t s (nI i) 363 := by
  obtain ⟨v, s1, s2, e1, e2, h2⟩ := L_feed h (s.1 0 (nI i + 1).toNatClampNeg)
  have z : s1.1 0 = s.1 0 := funext fun j => (FR_X8_feed _ _ _ e1 0 j rfl).1
  rw [← z] at e2
  obtain ⟨sE, tE, b1, b2, b3, eE⟩ := IH t s2 h2 hB rfl
  rw [show nI (i + 6) = nI i + 6 from (nI_add i 6).symm] at eE
  refine ⟨sE, tE, b1, b2, b3, ?_⟩
  refine Ex_gd 6 (g := mInb (nI i + 1) t.1 = true) (fun _ => rfl) (gi (k := 1) hl hi (by decide) rfl) ?_
  refine Ex_callN 1 (fun _ => rfl) (T_X8_feed (D + 78) t _ s (v, s1) e1) (mLe_refl _) b3 ?_
  refine Ex_gd 6 (g := mInb (nI i + 1) t.1 = true) (fun _ => rfl) (gi (k := 1) hl hi (by decide) rfl) ?_
  refine Ex_callN 1 (fun _ => rfl) (T_X9_feed (D + 78) t _ s1 (v, s2) e2) (mLe_refl _) b3 ?_
  refine Ex_brT 1 (c := v = v) (fun _ => rfl) rfl ?_
  exact Ex_st 2 (fun _ => rfl) eE
theorem law_text (D : Nat) (t : mTX) (s : mSG) (i : Nat) (h : INV t s) (hB : TB t) (hl : t.1 ≤ 100000) (hi : i + 6 ≤ t.1) (IH : ∀ t1 s2, INV t1 s2 → TB t1 → t1.1 = t.1 → LQ D t1 s2 (nI (i + 6)) 18) : LQ D t s (nI i) 386 := by
  obtain ⟨v, s1, t1, s2, e1, e2, h2, hB1, ht1, le1⟩ := L_text (D + 10) h hB
  obtain ⟨sE, tE, b1, b2, b3, eE⟩ := IH t1 s2 h2 hB1 ht1
  rw [show nI (i + 6) = nI i + 6 from (nI_add i 6).symm] at eE
  refine ⟨sE, tE, b1, b2.trans ht1, mLe_tr le1 b3, ?_⟩
  refine Ex_callN 2 (fun _ => rfl) e1 le1 b3 ?_
  refine Ex_callN 2 (fun _ => rfl) (T_X9_text (D + 37) t1 s1 (v, s2) e2) (mLe_refl _) b3 ?_
  refine Ex_brT 1 (c := v = v) (fun _ => rfl) rfl ?_
  exact Ex_st 2 (fun _ => rfl) eE
theorem law_force (D : Nat) (t : mTX) (s : mSG) (i : Nat) (h : INV t s) (hB : TB t) (hl : t.1 ≤ 100000) (hi : i + 6 ≤ t.1) (IH : ∀ t1 s2, INV t1 s2 → TB t1 → t1.1 = t.1 → LQ D t1 s2 (nI (i + 6)) 18) : LQ D t s (nI i) 399 := by
  obtain ⟨v, s1, s2, e1, e2, h2⟩ := L_force h (s.1 0 (nI i + 1).toNatClampNeg)
  have z : s1.1 0 = s.1 0 := funext fun j => (FR_X8_force _ _ _ e1 0 j rfl).1
  rw [← z] at e2
  obtain ⟨sE, tE, b1, b2, b3, eE⟩ := IH t s2 h2 hB rfl
  rw [show nI (i + 6) = nI i + 6 from (nI_add i 6).symm] at eE
  refine ⟨sE, tE, b1, b2, b3, ?_⟩
  refine Ex_gd 6 (g := mInb (nI i + 1) t.1 = true) (fun _ => rfl) (gi (k := 1) hl hi (by decide) rfl) ?_
  refine Ex_callN 1 (fun _ => rfl) (T_X8_force (D + 78) t _ s (v, s1) e1) (mLe_refl _) b3 ?_
  refine Ex_gd 6 (g := mInb (nI i + 1) t.1 = true) (fun _ => rfl) (gi (k := 1) hl hi (by decide) rfl) ?_
  refine Ex_callN 1 (fun _ => rfl) (T_X9_force (D + 78) t _ s1 (v, s2) e2) (mLe_refl _) b3 ?_
  refine Ex_brT 1 (c := v = v) (fun _ => rfl) rfl ?_
  exact Ex_st 2 (fun _ => rfl) eE
theorem law_can (D : Nat) (t : mTX) (s : mSG) (i : Nat) (h : INV t s) (hB : TB t) (hl : t.1 ≤ 100000) (hi : i + 6 ≤ t.1) (IH : ∀ t1 s2, INV t1 s2 → TB t1 → t1.1 = t.1 → LQ D t1 s2 (nI (i + 6)) 18) : LQ D t s (nI i) 422 := by
  obtain ⟨v, s1, s2, e1, e2, h2⟩ := L_can h (s.1 0 (nI i + 1).toNatClampNeg) (s.1 0 (nI i + 2).toNatClampNeg) (s.1 0 (nI i + 3).toNatClampNeg)
  have z : s1.1 0 = s.1 0 := funext fun j => (FR_X8_can _ _ _ _ _ _ e1 0 j rfl).1
  rw [← z] at e2
  obtain ⟨sE, tE, b1, b2, b3, eE⟩ := IH t s2 h2 hB rfl
  rw [show nI (i + 6) = nI i + 6 from (nI_add i 6).symm] at eE
  refine ⟨sE, tE, b1, b2, b3, ?_⟩
  refine Ex_gd 6 (g := mInb (nI i + 1) t.1 = true) (fun _ => rfl) (gi (k := 1) hl hi (by decide) rfl) ?_
  refine Ex_gd 5 (g := mInb (nI i + 2) t.1 = true) (fun _ => rfl) (gi (k := 2) hl hi (by decide) rfl) ?_
  refine Ex_gd 5 (g := mInb (nI i + 3) t.1 = true) (fun _ => rfl) (gi (k := 3) hl hi (by decide) rfl) ?_
  refine Ex_callN 1 (fun _ => rfl) (T_X8_can (D + 75) t _ _ _ s (v, s1) e1) (mLe_refl _) b3 ?_
  refine Ex_gd 6 (g := mInb (nI i + 1) t.1 = true) (fun _ => rfl) (gi (k := 1) hl hi (by decide) rfl) ?_
  refine Ex_gd 5 (g := mInb (nI i + 2) t.1 = true) (fun _ => rfl) (gi (k := 2) hl hi (by decide) rfl) ?_
  refine Ex_gd 5 (g := mInb (nI i + 3) t.1 = true) (fun _ => rfl) (gi (k := 3) hl hi (by decide) rfl) ?_
  refine Ex_callN 1 (fun _ => rfl) (T_X9_can (D + 35) t _ _ _ s1 (v, s2) e2) (mLe_refl _) b3 ?_
  refine Ex_brT 1 (c := v = v) (fun _ => rfl) rfl ?_
  exact Ex_st 2 (fun _ => rfl) eE
theorem law_go (D : Nat) (t : mTX) (s : mSG) (i : Nat) (h : INV t s) (hB : TB t) (hl : t.1 ≤ 100000) (hi : i + 6 ≤ t.1) (IH : ∀ t1 s2, INV t1 s2 → TB t1 → t1.1 = t.1 → LQ D t1 s2 (nI (i + 6)) 18) : LQ D t s (nI i) 465 := by
  obtain ⟨v, s1, s2, e1, e2, h2⟩ := L_go h (s.1 0 (nI i + 1).toNatClampNeg) (s.1 0 (nI i + 2).toNatClampNeg)
  have z : s1.1 0 = s.1 0 := funext fun j => (FR_X8_go _ _ _ _ _ e1 0 j rfl).1
  rw [← z] at e2
  obtain ⟨sE, tE, b1, b2, b3, eE⟩ := IH t s2 h2 hB rfl
  rw [show nI (i + 6) = nI i + 6 from (nI_add i 6).symm] at eE
  refine ⟨sE, tE, b1, b2, b3, ?_⟩
  refine Ex_gd 6 (g := mInb (nI i + 1) t.1 = true) (fun _ => rfl) (gi (k := 1) hl hi (by decide) rfl) ?_
  refine Ex_gd 5 (g := mInb (nI i + 2) t.1 = true) (fun _ => rfl) (gi (k := 2) hl hi (by decide) rfl) ?_
  refine Ex_callN 1 (fun _ => rfl) (T_X8_go (D + 74) t _ _ s (v, s1) e1) (mLe_refl _) b3 ?_
  refine Ex_gd 6 (g := mInb (nI i + 1) t.1 = true) (fun _ => rfl) (gi (k := 1) hl hi (by decide) rfl) ?_
  refine Ex_gd 5 (g := mInb (nI i + 2) t.1 = true) (fun _ => rfl) (gi (k := 2) hl hi (by decide) rfl) ?_
  refine Ex_callN 1 (fun _ => rfl) (T_X9_go (D + 34) t _ _ s1 (v, s2) e2) (mLe_refl _) b3 ?_
  refine Ex_brT 1 (c := v = v) (fun _ => rfl) rfl ?_
  exact Ex_st 2 (fun _ => rfl) eE
theorem law_soonest (D : Nat) (t : mTX) (s : mSG) (i : Nat) (h : INV t s) (hB : TB t) (hl : t.1 ≤ 100000) (hi : i + 6 ≤ t.1) (IH : ∀ t1 s2, INV t1 s2 → TB t1 → t1.1 = t.1 → LQ D t1 s2 (nI (i + 6)) 18) : LQ D t s (nI i) 498 := by
  obtain ⟨v, s1, s2, e1, e2, h2⟩ := L_soonest h (s.1 0 (nI i + 1).toNatClampNeg) (s.1 0 (nI i + 2).toNatClampNeg) (s.1 0 (nI i + 3).toNatClampNeg)
  have z : s1.1 0 = s.1 0 := funext fun j => (FR_X8_soonest _ _ _ _ _ _ e1 0 j rfl).1
  rw [← z] at e2
  obtain ⟨sE, tE, b1, b2, b3, eE⟩ := IH t s2 h2 hB rfl
  rw [show nI (i + 6) = nI i + 6 from (nI_add i 6).symm] at eE
  refine ⟨sE, tE, b1, b2, b3, ?_⟩
  refine Ex_gd 6 (g := mInb (nI i + 1) t.1 = true) (fun _ => rfl) (gi (k := 1) hl hi (by decide) rfl) ?_
  refine Ex_gd 5 (g := mInb (nI i + 2) t.1 = true) (fun _ => rfl) (gi (k := 2) hl hi (by decide) rfl) ?_
  refine Ex_gd 5 (g := mInb (nI i + 3) t.1 = true) (fun _ => rfl) (gi (k := 3) hl hi (by decide) rfl) ?_
  refine Ex_callN 1 (fun _ => rfl) (T_X8_soonest (D + 72) t _ _ _ s (v, s1) e1) (mLe_refl _) b3 ?_
  refine Ex_gd 6 (g := mInb (nI i + 1) t.1 = true) (fun _ => rfl) (gi (k := 1) hl hi (by decide) rfl) ?_
  refine Ex_gd 5 (g := mInb (nI i + 2) t.1 = true) (fun _ => rfl) (gi (k := 2) hl hi (by decide) rfl) ?_
  refine Ex_gd 5 (g := mInb (nI i + 3) t.1 = true) (fun _ => rfl) (gi (k := 3) hl hi (by decide) rfl) ?_
  refine Ex_callN 1 (fun _ => rfl) (T_X9_soonest (D + 33) t _ _ _ s1 (v, s2) e2) (mLe_refl _) b3 ?_
  refine Ex_brT 1 (c := v = v) (fun _ => rfl) rfl ?_
  exact Ex_st 2 (fun _ => rfl) eE
theorem law_together (D : Nat) (t : mTX) (s : mSG) (i : Nat) (h : INV t s) (hB : TB t) (hl : t.1 ≤ 100000) (hi : i + 6 ≤ t.1) (IH : ∀ t1 s2, INV t1 s2 → TB t1 → t1.1 = t.1 → LQ D t1 s2 (nI (i + 6)) 18) : LQ D t s (nI i) 541 := by
  obtain ⟨v, s1, s2, e1, e2, h2⟩ := L_together h (s.1 0 (nI i + 1).toNatClampNeg) (s.1 0 (nI i + 2).toNatClampNeg) (s.1 0 (nI i + 3).toNatClampNeg)
  have z : s1.1 0 = s.1 0 := funext fun j => (FR_X8_together _ _ _ _ _ _ e1 0 j rfl).1
  rw [← z] at e2
  obtain ⟨sE, tE, b1, b2, b3, eE⟩ := IH t s2 h2 hB rfl
  rw [show nI (i + 6) = nI i + 6 from (nI_add i 6).symm] at eE
  refine ⟨sE, tE, b1, b2, b3, ?_⟩
  refine Ex_gd 6 (g := mInb (nI i + 1) t.1 = true) (fun _ => rfl) (gi (k := 1) hl hi (by decide) rfl) ?_
  refine Ex_gd 5 (g := mInb (nI i + 2) t.1 = true) (fun _ => rfl) (gi (k := 2) hl hi (by decide) rfl) ?_
  refine Ex_gd 5 (g := mInb (nI i + 3) t.1 = true) (fun _ => rfl) (gi (k := 3) hl hi (by decide) rfl) ?_
  refine Ex_callN 1 (fun _ => rfl) (T_X8_together (D + 74) t _ _ _ s (v, s1) e1) (mLe_refl _) b3 ?_
  refine Ex_gd 6 (g := mInb (nI i + 1) t.1 = true) (fun _ => rfl) (gi (k := 1) hl hi (by decide) rfl) ?_
  refine Ex_gd 5 (g := mInb (nI i + 2) t.1 = true) (fun _ => rfl) (gi (k := 2) hl hi (by decide) rfl) ?_
  refine Ex_gd 5 (g := mInb (nI i + 3) t.1 = true) (fun _ => rfl) (gi (k := 3) hl hi (by decide) rfl) ?_
  refine Ex_callN 1 (fun _ => rfl) (T_X9_together (D + 36) t _ _ _ s1 (v, s2) e2) (mLe_refl _) b3 ?_
  refine Ex_brT 1 (c := v = v) (fun _ => rfl) rfl ?_
  exact Ex_st 2 (fun _ => rfl) eE
theorem law_lend (D : Nat) (t : mTX) (s : mSG) (i : Nat) (h : INV t s) (hB : TB t) (hl : t.1 ≤ 100000) (hi : i + 6 ≤ t.1) (IH : ∀ t1 s2, INV t1 s2 → TB t1 → t1.1 = t.1 → LQ D t1 s2 (nI (i + 6)) 18) : LQ D t s (nI i) 584 := by
  obtain ⟨v, s1, s2, e1, e2, h2⟩ := L_lend h (s.1 0 (nI i + 1).toNatClampNeg) (s.1 0 (nI i + 2).toNatClampNeg) (s.1 0 (nI i + 3).toNatClampNeg)
  have z : s1.1 0 = s.1 0 := funext fun j => (FR_X8_lend _ _ _ _ _ _ e1 0 j rfl).1
  rw [← z] at e2
  obtain ⟨sE, tE, b1, b2, b3, eE⟩ := IH t s2 h2 hB rfl
  rw [show nI (i + 6) = nI i + 6 from (nI_add i 6).symm] at eE
  refine ⟨sE, tE, b1, b2, b3, ?_⟩
  refine Ex_gd 6 (g := mInb (nI i + 1) t.1 = true) (fun _ => rfl) (gi (k := 1) hl hi (by decide) rfl) ?_
  refine Ex_gd 5 (g := mInb (nI i + 2) t.1 = true) (fun _ => rfl) (gi (k := 2) hl hi (by decide) rfl) ?_
  refine Ex_gd 5 (g := mInb (nI i + 3) t.1 = true) (fun _ => rfl) (gi (k := 3) hl hi (by decide) rfl) ?_
  refine Ex_callN 1 (fun _ => rfl) (T_X8_lend (D + 75) t _ _ _ s (v, s1) e1) (mLe_refl _) b3 ?_
  refine Ex_gd 6 (g := mInb (nI i + 1) t.1 = true) (fun _ => rfl) (gi (k := 1) hl hi (by decide) rfl) ?_
  refine Ex_gd 5 (g := mInb (nI i + 2) t.1 = true) (fun _ => rfl) (gi (k := 2) hl hi (by decide) rfl) ?_
  refine Ex_gd 5 (g := mInb (nI i + 3) t.1 = true) (fun _ => rfl) (gi (k := 3) hl hi (by decide) rfl) ?_
  refine Ex_callN 1 (fun _ => rfl) (T_X9_lend (D + 36) t _ _ _ s1 (v, s2) e2) (mLe_refl _) b3 ?_
  refine Ex_brT 1 (c := v = v) (fun _ => rfl) rfl ?_
  exact Ex_st 2 (fun _ => rfl) eE
theorem law_owed (D : Nat) (t : mTX) (s : mSG) (i : Nat) (h : INV t s) (hB : TB t) (hl : t.1 ≤ 100000) (hi : i + 6 ≤ t.1) (IH : ∀ t1 s2, INV t1 s2 → TB t1 → t1.1 = t.1 → LQ D t1 s2 (nI (i + 6)) 18) : LQ D t s (nI i) 627 := by
  obtain ⟨v, e1, e2⟩ := L_owed h (s.1 0 (nI i + 1).toNatClampNeg) (s.1 0 (nI i + 2).toNatClampNeg)
  obtain ⟨sE, tE, b1, b2, b3, eE⟩ := IH t s h hB rfl
  rw [show nI (i + 6) = nI i + 6 from (nI_add i 6).symm] at eE
  refine ⟨sE, tE, b1, b2, b3, ?_⟩
  refine Ex_gd 6 (g := mInb (nI i + 1) t.1 = true) (fun _ => rfl) (gi (k := 1) hl hi (by decide) rfl) ?_
  refine Ex_gd 5 (g := mInb (nI i + 2) t.1 = true) (fun _ => rfl) (gi (k := 2) hl hi (by decide) rfl) ?_
  refine Ex_callN 1 (fun _ => rfl) (T_X8_owed (D + 76) t _ _ s v e1) (mLe_refl _) b3 ?_
  refine Ex_gd 6 (g := mInb (nI i + 1) t.1 = true) (fun _ => rfl) (gi (k := 1) hl hi (by decide) rfl) ?_
  refine Ex_gd 5 (g := mInb (nI i + 2) t.1 = true) (fun _ => rfl) (gi (k := 2) hl hi (by decide) rfl) ?_
  refine Ex_callN 1 (fun _ => rfl) (T_X9_owed (D + 77) t _ _ s v e2) (mLe_refl _) b3 ?_
  refine Ex_brT 1 (c := v = v) (fun _ => rfl) rfl ?_
  exact Ex_st 2 (fun _ => rfl) eE
theorem law_rings (D : Nat) (t : mTX) (s : mSG) (i : Nat) (h : INV t s) (hB : TB t) (hl : t.1 ≤ 100000) (hi : i + 6 ≤ t.1) (IH : ∀ t1 s2, INV t1 s2 → TB t1 → t1.1 = t.1 → LQ D t1 s2 (nI (i + 6)) 18) : LQ D t s (nI i) 660 := by
  obtain ⟨v, s1, s2, e1, e2, h2⟩ := L_rings h 
  have z : s1.1 0 = s.1 0 := funext fun j => (FR_X8_rings _ _ e1 0 j rfl).1
  obtain ⟨sE, tE, b1, b2, b3, eE⟩ := IH t s2 h2 hB rfl
  rw [show nI (i + 6) = nI i + 6 from (nI_add i 6).symm] at eE
  refine ⟨sE, tE, b1, b2, b3, ?_⟩
  refine Ex_callN 2 (fun _ => rfl) (T_X8_rings (D + 75) t s (v, s1) e1) (mLe_refl _) b3 ?_
  refine Ex_callN 2 (fun _ => rfl) (T_X9_rings (D + 78) t s1 (v, s2) e2) (mLe_refl _) b3 ?_
  refine Ex_brT 1 (c := v = v) (fun _ => rfl) rfl ?_
  exact Ex_st 2 (fun _ => rfl) eE
theorem law_shaken (D : Nat) (t : mTX) (s : mSG) (i : Nat) (h : INV t s) (hB : TB t) (hl : t.1 ≤ 100000) (hi : i + 6 ≤ t.1) (IH : ∀ t1 s2, INV t1 s2 → TB t1 → t1.1 = t.1 → LQ D t1 s2 (nI (i + 6)) 18) : LQ D t s (nI i) 673 := by
  obtain ⟨v, s1, s2, e1, e2, h2⟩ := L_shaken h (s.1 0 (nI i + 1).toNatClampNeg) (s.1 0 (nI i + 2).toNatClampNeg)
  have z : s1.1 0 = s.1 0 := funext fun j => (FR_X8_shaken _ _ _ _ _ e1 0 j rfl).1
  rw [← z] at e2
  obtain ⟨sE, tE, b1, b2, b3, eE⟩ := IH t s2 h2 hB rfl
  rw [show nI (i + 6) = nI i + 6 from (nI_add i 6).symm] at eE
  refine ⟨sE, tE, b1, b2, b3, ?_⟩
  refine Ex_gd 6 (g := mInb (nI i + 1) t.1 = true) (fun _ => rfl) (gi (k := 1) hl hi (by decide) rfl) ?_
  refine Ex_gd 5 (g := mInb (nI i + 2) t.1 = true) (fun _ => rfl) (gi (k := 2) hl hi (by decide) rfl) ?_
  refine Ex_callN 1 (fun _ => rfl) (T_X8_shaken (D + 73) t _ _ s (v, s1) e1) (mLe_refl _) b3 ?_
  refine Ex_gd 6 (g := mInb (nI i + 1) t.1 = true) (fun _ => rfl) (gi (k := 1) hl hi (by decide) rfl) ?_
  refine Ex_gd 5 (g := mInb (nI i + 2) t.1 = true) (fun _ => rfl) (gi (k := 2) hl hi (by decide) rfl) ?_
  refine Ex_callN 1 (fun _ => rfl) (T_X9_shaken (D + 35) t _ _ s1 (v, s2) e2) (mLe_refl _) b3 ?_
  refine Ex_brT 1 (c := v = v) (fun _ => rfl) rfl ?_
  exact Ex_st 2 (fun _ => rfl) eE
theorem law_prints (D : Nat) (t : mTX) (s : mSG) (i : Nat) (h : INV t s) (hB : TB t) (hl : t.1 ≤ 100000) (hi : i + 6 ≤ t.1) (IH : ∀ t1 s2, INV t1 s2 → TB t1 → t1.1 = t.1 → LQ D t1 s2 (nI (i + 6)) 18) : LQ D t s (nI i) 706 := by
  obtain ⟨v, s1, s2, e1, e2, h2⟩ := L_prints h (s.1 0 (nI i + 1).toNatClampNeg)
  have z : s1.1 0 = s.1 0 := funext fun j => (FR_X8_prints _ _ _ _ e1 0 j rfl).1
  rw [← z] at e2
  obtain ⟨sE, tE, b1, b2, b3, eE⟩ := IH t s2 h2 hB rfl
  rw [show nI (i + 6) = nI i + 6 from (nI_add i 6).symm] at eE
  refine ⟨sE, tE, b1, b2, b3, ?_⟩
  refine Ex_gd 6 (g := mInb (nI i + 1) t.1 = true) (fun _ => rfl) (gi (k := 1) hl hi (by decide) rfl) ?_
  refine Ex_callN 1 (fun _ => rfl) (T_X8_prints (D + 73) t _ s (v, s1) e1) (mLe_refl _) b3 ?_
  refine Ex_gd 6 (g := mInb (nI i + 1) t.1 = true) (fun _ => rfl) (gi (k := 1) hl hi (by decide) rfl) ?_
  refine Ex_callN 1 (fun _ => rfl) (T_X9_prints (D + 35) t _ s1 (v, s2) e2) (mLe_refl _) b3 ?_
  refine Ex_brT 1 (c := v = v) (fun _ => rfl) rfl ?_
  exact Ex_st 2 (fun _ => rfl) eE
theorem law_out (D : Nat) (t : mTX) (s : mSG) (i : Nat) (h : INV t s) (hB : TB t) (hl : t.1 ≤ 100000) (hi : i + 6 ≤ t.1) (IH : ∀ t1 s2, INV t1 s2 → TB t1 → t1.1 = t.1 → LQ D t1 s2 (nI (i + 6)) 18) : LQ D t s (nI i) 729 := by
  obtain ⟨v, s1, s2, e1, e2, h2⟩ := L_out h (s.1 0 (nI i + 1).toNatClampNeg) (s.1 0 (nI i + 2).toNatClampNeg) (s.1 0 (nI i + 3).toNatClampNeg)
  have z : s1.1 0 = s.1 0 := funext fun j => (FR_X8_out _ _ _ _ _ _ e1 0 j rfl).1
  rw [← z] at e2
  obtain ⟨sE, tE, b1, b2, b3, eE⟩ := IH t s2 h2 hB rfl
  rw [show nI (i + 6) = nI i + 6 from (nI_add i 6).symm] at eE
  refine ⟨sE, tE, b1, b2, b3, ?_⟩
  refine Ex_gd 6 (g := mInb (nI i + 1) t.1 = true) (fun _ => rfl) (gi (k := 1) hl hi (by decide) rfl) ?_
  refine Ex_gd 5 (g := mInb (nI i + 2) t.1 = true) (fun _ => rfl) (gi (k := 2) hl hi (by decide) rfl) ?_
  refine Ex_gd 5 (g := mInb (nI i + 3) t.1 = true) (fun _ => rfl) (gi (k := 3) hl hi (by decide) rfl) ?_
  refine Ex_callN 1 (fun _ => rfl) (T_X8_out (D + 72) t _ _ _ s (v, s1) e1) (mLe_refl _) b3 ?_
  refine Ex_gd 6 (g := mInb (nI i + 1) t.1 = true) (fun _ => rfl) (gi (k := 1) hl hi (by decide) rfl) ?_
  refine Ex_gd 5 (g := mInb (nI i + 2) t.1 = true) (fun _ => rfl) (gi (k := 2) hl hi (by decide) rfl) ?_
  refine Ex_gd 5 (g := mInb (nI i + 3) t.1 = true) (fun _ => rfl) (gi (k := 3) hl hi (by decide) rfl) ?_
  refine Ex_callN 1 (fun _ => rfl) (T_X9_out (D + 33) t _ _ _ s1 (v, s2) e2) (mLe_refl _) b3 ?_
  refine Ex_brT 1 (c := v = v) (fun _ => rfl) rfl ?_
  exact Ex_st 2 (fun _ => rfl) eE
theorem law_road (D : Nat) (t : mTX) (s : mSG) (i : Nat) (h : INV t s) (hB : TB t) (hl : t.1 ≤ 100000) (hi : i + 6 ≤ t.1) (IH : ∀ t1 s2, INV t1 s2 → TB t1 → t1.1 = t.1 → LQ D t1 s2 (nI (i + 6)) 18) : LQ D t s (nI i) 772 := by
  obtain ⟨v, s1, s2, e1, e2, h2⟩ := L_road h (s.1 0 (nI i + 1).toNatClampNeg) (s.1 0 (nI i + 2).toNatClampNeg)
  have z : s1.1 0 = s.1 0 := funext fun j => (FR_X8_road _ _ _ _ _ e1 0 j rfl).1
  rw [← z] at e2
  obtain ⟨sE, tE, b1, b2, b3, eE⟩ := IH t s2 h2 hB rfl
  rw [show nI (i + 6) = nI i + 6 from (nI_add i 6).symm] at eE
  refine ⟨sE, tE, b1, b2, b3, ?_⟩
  refine Ex_gd 6 (g := mInb (nI i + 1) t.1 = true) (fun _ => rfl) (gi (k := 1) hl hi (by decide) rfl) ?_
  refine Ex_gd 5 (g := mInb (nI i + 2) t.1 = true) (fun _ => rfl) (gi (k := 2) hl hi (by decide) rfl) ?_
  refine Ex_callN 1 (fun _ => rfl) (T_X8_road (D + 72) t _ _ s (v, s1) e1) (mLe_refl _) b3 ?_
  refine Ex_gd 6 (g := mInb (nI i + 1) t.1 = true) (fun _ => rfl) (gi (k := 1) hl hi (by decide) rfl) ?_
  refine Ex_gd 5 (g := mInb (nI i + 2) t.1 = true) (fun _ => rfl) (gi (k := 2) hl hi (by decide) rfl) ?_
  refine Ex_callN 1 (fun _ => rfl) (T_X9_road (D + 33) t _ _ s1 (v, s2) e2) (mLe_refl _) b3 ?_
  refine Ex_brT 1 (c := v = v) (fun _ => rfl) rfl ?_
  exact Ex_st 2 (fun _ => rfl) eE
theorem law_judge (D : Nat) (t : mTX) (s : mSG) (i : Nat) (h : INV t s) (hB : TB t) (hl : t.1 ≤ 100000) (hi : i + 6 ≤ t.1) (IH : ∀ t1 s2, INV t1 s2 → TB t1 → t1.1 = t.1 → LQ D t1 s2 (nI (i + 6)) 18) : LQ D t s (nI i) 805 := by
  obtain ⟨v, s1, s2, e1, e2, h2⟩ := L_judge h (s.1 0 (nI i + 1).toNatClampNeg)
  have z : s1.1 0 = s.1 0 := funext fun j => (FR_X8_judge _ _ _ _ e1 0 j rfl).1
  rw [← z] at e2
  obtain ⟨sE, tE, b1, b2, b3, eE⟩ := IH t s2 h2 hB rfl
  rw [show nI (i + 6) = nI i + 6 from (nI_add i 6).symm] at eE
  refine ⟨sE, tE, b1, b2, b3, ?_⟩
  refine Ex_gd 6 (g := mInb (nI i + 1) t.1 = true) (fun _ => rfl) (gi (k := 1) hl hi (by decide) rfl) ?_
  refine Ex_callN 1 (fun _ => rfl) (T_X8_judge (D + 74) t _ s (v, s1) e1) (mLe_refl _) b3 ?_
  refine Ex_gd 6 (g := mInb (nI i + 1) t.1 = true) (fun _ => rfl) (gi (k := 1) hl hi (by decide) rfl) ?_
  refine Ex_callN 1 (fun _ => rfl) (T_X9_judge (D + 34) t _ s1 (v, s2) e2) (mLe_refl _) b3 ?_
  refine Ex_brT 1 (c := v = v) (fun _ => rfl) rfl ?_
  exact Ex_st 2 (fun _ => rfl) eE
theorem law_drawn (D : Nat) (t : mTX) (s : mSG) (i : Nat) (h : INV t s) (hB : TB t) (hl : t.1 ≤ 100000) (hi : i + 6 ≤ t.1) (IH : ∀ t1 s2, INV t1 s2 → TB t1 → t1.1 = t.1 → LQ D t1 s2 (nI (i + 6)) 18) : LQ D t s (nI i) 828 := by
  obtain ⟨v, s1, s2, e1, e2, h2⟩ := L_drawn h (s.1 0 (nI i + 1).toNatClampNeg) (s.1 0 (nI i + 2).toNatClampNeg) (s.1 0 (nI i + 3).toNatClampNeg)
  have z : s1.1 0 = s.1 0 := funext fun j => (FR_X8_drawn _ _ _ _ _ _ e1 0 j rfl).1
  rw [← z] at e2
  obtain ⟨sE, tE, b1, b2, b3, eE⟩ := IH t s2 h2 hB rfl
  rw [show nI (i + 6) = nI i + 6 from (nI_add i 6).symm] at eE
  refine ⟨sE, tE, b1, b2, b3, ?_⟩
  refine Ex_gd 6 (g := mInb (nI i + 1) t.1 = true) (fun _ => rfl) (gi (k := 1) hl hi (by decide) rfl) ?_
  refine Ex_gd 5 (g := mInb (nI i + 2) t.1 = true) (fun _ => rfl) (gi (k := 2) hl hi (by decide) rfl) ?_
  refine Ex_gd 5 (g := mInb (nI i + 3) t.1 = true) (fun _ => rfl) (gi (k := 3) hl hi (by decide) rfl) ?_
  refine Ex_callN 1 (fun _ => rfl) (T_X8_drawn (D + 73) t _ _ _ s (v, s1) e1) (mLe_refl _) b3 ?_
  refine Ex_gd 6 (g := mInb (nI i + 1) t.1 = true) (fun _ => rfl) (gi (k := 1) hl hi (by decide) rfl) ?_
  refine Ex_gd 5 (g := mInb (nI i + 2) t.1 = true) (fun _ => rfl) (gi (k := 2) hl hi (by decide) rfl) ?_
  refine Ex_gd 5 (g := mInb (nI i + 3) t.1 = true) (fun _ => rfl) (gi (k := 3) hl hi (by decide) rfl) ?_
  refine Ex_callN 1 (fun _ => rfl) (T_X9_drawn (D + 33) t _ _ _ s1 (v, s2) e2) (mLe_refl _) b3 ?_
  refine Ex_brT 1 (c := v = v) (fun _ => rfl) rfl ?_
  exact Ex_st 2 (fun _ => rfl) eE
theorem law_chance (D : Nat) (t : mTX) (s : mSG) (i : Nat) (h : INV t s) (hB : TB t) (hl : t.1 ≤ 100000) (hi : i + 6 ≤ t.1) (IH : ∀ t1 s2, INV t1 s2 → TB t1 → t1.1 = t.1 → LQ D t1 s2 (nI (i + 6)) 18) : LQ D t s (nI i) 871 := by
  obtain ⟨v, s1, s2, e1, e2, h2⟩ := L_chance h (s.1 0 (nI i + 1).toNatClampNeg) (s.1 0 (nI i + 2).toNatClampNeg) (s.1 0 (nI i + 3).toNatClampNeg) (s.1 0 (nI i + 4).toNatClampNeg) (s.1 0 (nI i + 5).toNatClampNeg)
  have z : s1.1 0 = s.1 0 := funext fun j => (FR_X8_chance _ _ _ _ _ _ _ _ e1 0 j rfl).1
  rw [← z] at e2
  obtain ⟨sE, tE, b1, b2, b3, eE⟩ := IH t s2 h2 hB rfl
  rw [show nI (i + 6) = nI i + 6 from (nI_add i 6).symm] at eE
  refine ⟨sE, tE, b1, b2, b3, ?_⟩
  refine Ex_gd 6 (g := mInb (nI i + 1) t.1 = true) (fun _ => rfl) (gi (k := 1) hl hi (by decide) rfl) ?_
  refine Ex_gd 5 (g := mInb (nI i + 2) t.1 = true) (fun _ => rfl) (gi (k := 2) hl hi (by decide) rfl) ?_
  refine Ex_gd 5 (g := mInb (nI i + 3) t.1 = true) (fun _ => rfl) (gi (k := 3) hl hi (by decide) rfl) ?_
  refine Ex_gd 5 (g := mInb (nI i + 4) t.1 = true) (fun _ => rfl) (gi (k := 4) hl hi (by decide) rfl) ?_
  refine Ex_gd 5 (g := mInb (nI i + 5) t.1 = true) (fun _ => rfl) (gi (k := 5) hl hi (by decide) rfl) ?_
  refine Ex_callN 1 (fun _ => rfl) (T_X8_chance (D + 73) t _ _ _ _ _ s (v, s1) e1) (mLe_refl _) b3 ?_
  refine Ex_gd 6 (g := mInb (nI i + 1) t.1 = true) (fun _ => rfl) (gi (k := 1) hl hi (by decide) rfl) ?_
  refine Ex_gd 5 (g := mInb (nI i + 2) t.1 = true) (fun _ => rfl) (gi (k := 2) hl hi (by decide) rfl) ?_
  refine Ex_gd 5 (g := mInb (nI i + 3) t.1 = true) (fun _ => rfl) (gi (k := 3) hl hi (by decide) rfl) ?_
  refine Ex_gd 5 (g := mInb (nI i + 4) t.1 = true) (fun _ => rfl) (gi (k := 4) hl hi (by decide) rfl) ?_
  refine Ex_gd 5 (g := mInb (nI i + 5) t.1 = true) (fun _ => rfl) (gi (k := 5) hl hi (by decide) rfl) ?_
  refine Ex_callN 1 (fun _ => rfl) (T_X9_chance (D + 33) t _ _ _ _ _ s1 (v, s2) e2) (mLe_refl _) b3 ?_
  refine Ex_brT 2 (c := lg_cmp v v = 0) (fun _ => rfl) ((lgc_eq v v).mpr rfl) ?_
  exact Ex_st 2 (fun _ => rfl) eE
theorem law_image (D : Nat) (t : mTX) (s : mSG) (i : Nat) (h : INV t s) (hB : TB t) (hl : t.1 ≤ 100000) (hi : i + 6 ≤ t.1) (IH : ∀ t1 s2, INV t1 s2 → TB t1 → t1.1 = t.1 → LQ D t1 s2 (nI (i + 6)) 18) : LQ D t s (nI i) 935 := by
  obtain ⟨v, s1, s2, e1, e2, h2⟩ := L_image h 
  have z : s1.1 0 = s.1 0 := funext fun j => (FR_X8_image _ _ e1 0 j rfl).1
  obtain ⟨sE, tE, b1, b2, b3, eE⟩ := IH t s2 h2 hB rfl
  rw [show nI (i + 6) = nI i + 6 from (nI_add i 6).symm] at eE
  refine ⟨sE, tE, b1, b2, b3, ?_⟩
  refine Ex_callN 2 (fun _ => rfl) (T_X8_image (D + 78) t s (v, s1) e1) (mLe_refl _) b3 ?_
  refine Ex_callN 2 (fun _ => rfl) (T_X9_image (D + 79) t s1 (v, s2) e2) (mLe_refl _) b3 ?_
  refine Ex_brT 1 (c := v = v) (fun _ => rfl) rfl ?_
  exact Ex_st 2 (fun _ => rfl) eE
theorem law_back (D : Nat) (t : mTX) (s : mSG) (i : Nat) (h : INV t s) (hB : TB t) (hl : t.1 ≤ 100000) (hi : i + 6 ≤ t.1) (IH : ∀ t1 s2, INV t1 s2 → TB t1 → t1.1 = t.1 → LQ D t1 s2 (nI (i + 6)) 18) : LQ D t s (nI i) 948 := by
  obtain ⟨v, s1, s2, e1, e2, h2⟩ := L_back h 
  have z : s1.1 0 = s.1 0 := funext fun j => (FR_X8_back _ _ e1 0 j rfl).1
  obtain ⟨sE, tE, b1, b2, b3, eE⟩ := IH t s2 h2 hB rfl
  rw [show nI (i + 6) = nI i + 6 from (nI_add i 6).symm] at eE
  refine ⟨sE, tE, b1, b2, b3, ?_⟩
  refine Ex_callN 2 (fun _ => rfl) (T_X8_back (D + 78) t s (v, s1) e1) (mLe_refl _) b3 ?_
  refine Ex_callN 2 (fun _ => rfl) (T_X9_back (D + 79) t s1 (v, s2) e2) (mLe_refl _) b3 ?_
  refine Ex_brT 1 (c := v = v) (fun _ => rfl) rfl ?_
  exact Ex_st 2 (fun _ => rfl) eE
theorem law_count (D : Nat) (t : mTX) (s : mSG) (i : Nat) (h : INV t s) (hB : TB t) (hl : t.1 ≤ 100000) (hi : i + 6 ≤ t.1) (IH : ∀ t1 s2, INV t1 s2 → TB t1 → t1.1 = t.1 → LQ D t1 s2 (nI (i + 6)) 18) : LQ D t s (nI i) 961 := by
  obtain ⟨v, e1, e2⟩ := L_count h (s.1 0 (nI i + 1).toNatClampNeg)
  obtain ⟨sE, tE, b1, b2, b3, eE⟩ := IH t s h hB rfl
  rw [show nI (i + 6) = nI i + 6 from (nI_add i 6).symm] at eE
  refine ⟨sE, tE, b1, b2, b3, ?_⟩
  refine Ex_gd 6 (g := mInb (nI i + 1) t.1 = true) (fun _ => rfl) (gi (k := 1) hl hi (by decide) rfl) ?_
  refine Ex_callN 1 (fun _ => rfl) (T_X8_count (D + 74) t _ s v e1) (mLe_refl _) b3 ?_
  refine Ex_gd 6 (g := mInb (nI i + 1) t.1 = true) (fun _ => rfl) (gi (k := 1) hl hi (by decide) rfl) ?_
  refine Ex_callN 1 (fun _ => rfl) (T_X9_count (D + 76) t _ s v e2) (mLe_refl _) b3 ?_
  refine Ex_brT 1 (c := v = v) (fun _ => rfl) rfl ?_
  exact Ex_st 2 (fun _ => rfl) eE
theorem law_sheet (D : Nat) (t : mTX) (s : mSG) (i : Nat) (h : INV t s) (hB : TB t) (hl : t.1 ≤ 100000) (hi : i + 6 ≤ t.1) (IH : ∀ t1 s2, INV t1 s2 → TB t1 → t1.1 = t.1 → LQ D t1 s2 (nI (i + 6)) 18) : LQ D t s (nI i) 984 := by
  obtain ⟨v, s1, s2, e1, e2, h2⟩ := L_sheet h (s.1 0 (nI i + 1).toNatClampNeg) (s.1 0 (nI i + 2).toNatClampNeg) (s.1 0 (nI i + 3).toNatClampNeg)
  have z : s1.1 0 = s.1 0 := z0_sheet e1
  rw [← z] at e2
  obtain ⟨sE, tE, b1, b2, b3, eE⟩ := IH t s2 h2 hB rfl
  rw [show nI (i + 6) = nI i + 6 from (nI_add i 6).symm] at eE
  refine ⟨sE, tE, b1, b2, b3, ?_⟩
  refine Ex_gd 6 (g := mInb (nI i + 1) t.1 = true) (fun _ => rfl) (gi (k := 1) hl hi (by decide) rfl) ?_
  refine Ex_gd 5 (g := mInb (nI i + 2) t.1 = true) (fun _ => rfl) (gi (k := 2) hl hi (by decide) rfl) ?_
  refine Ex_gd 5 (g := mInb (nI i + 3) t.1 = true) (fun _ => rfl) (gi (k := 3) hl hi (by decide) rfl) ?_
  refine Ex_callN 1 (fun _ => rfl) (T_X8_sheet (D + 76) t _ _ _ s (v, s1) e1) (mLe_refl _) b3 ?_
  refine Ex_gd 6 (g := mInb (nI i + 1) t.1 = true) (fun _ => rfl) (gi (k := 1) hl hi (by decide) rfl) ?_
  refine Ex_gd 5 (g := mInb (nI i + 2) t.1 = true) (fun _ => rfl) (gi (k := 2) hl hi (by decide) rfl) ?_
  refine Ex_gd 5 (g := mInb (nI i + 3) t.1 = true) (fun _ => rfl) (gi (k := 3) hl hi (by decide) rfl) ?_
  refine Ex_callN 1 (fun _ => rfl) (T_X9_sheet (D + 77) t _ _ _ s1 (v, s2) e2) (mLe_refl _) b3 ?_
  refine Ex_brT 1 (c := v = v) (fun _ => rfl) rfl ?_
  exact Ex_st 2 (fun _ => rfl) eE
theorem law_cell (D : Nat) (t : mTX) (s : mSG) (i : Nat) (h : INV t s) (hB : TB t) (hl : t.1 ≤ 100000) (hi : i + 6 ≤ t.1) (IH : ∀ t1 s2, INV t1 s2 → TB t1 → t1.1 = t.1 → LQ D t1 s2 (nI (i + 6)) 18) : LQ D t s (nI i) 1027 := by
  obtain ⟨v, s1, s2, e1, e2, h2⟩ := L_cell h (s.1 0 (nI i + 1).toNatClampNeg) (s.1 0 (nI i + 2).toNatClampNeg) (s.1 0 (nI i + 3).toNatClampNeg)
  have z : s1.1 0 = s.1 0 := z0_cell e1
  rw [← z] at e2
  obtain ⟨sE, tE, b1, b2, b3, eE⟩ := IH t s2 h2 hB rfl
  rw [show nI (i + 6) = nI i + 6 from (nI_add i 6).symm] at eE
  refine ⟨sE, tE, b1, b2, b3, ?_⟩
  refine Ex_gd 6 (g := mInb (nI i + 1) t.1 = true) (fun _ => rfl) (gi (k := 1) hl hi (by decide) rfl) ?_
  refine Ex_gd 5 (g := mInb (nI i + 2) t.1 = true) (fun _ => rfl) (gi (k := 2) hl hi (by decide) rfl) ?_
  refine Ex_gd 5 (g := mInb (nI i + 3) t.1 = true) (fun _ => rfl) (gi (k := 3) hl hi (by decide) rfl) ?_
  refine Ex_callN 1 (fun _ => rfl) (T_X8_cell (D + 77) t _ _ _ s (v, s1) e1) (mLe_refl _) b3 ?_
  refine Ex_gd 6 (g := mInb (nI i + 1) t.1 = true) (fun _ => rfl) (gi (k := 1) hl hi (by decide) rfl) ?_
  refine Ex_gd 5 (g := mInb (nI i + 2) t.1 = true) (fun _ => rfl) (gi (k := 2) hl hi (by decide) rfl) ?_
  refine Ex_gd 5 (g := mInb (nI i + 3) t.1 = true) (fun _ => rfl) (gi (k := 3) hl hi (by decide) rfl) ?_
  refine Ex_callN 1 (fun _ => rfl) (T_X9_cell (D + 77) t _ _ _ s1 (v, s2) e2) (mLe_refl _) b3 ?_
  refine Ex_brT 1 (c := v = v) (fun _ => rfl) rfl ?_
  exact Ex_st 2 (fun _ => rfl) eE
theorem law_copy (D : Nat) (t : mTX) (s : mSG) (i : Nat) (h : INV t s) (hB : TB t) (hl : t.1 ≤ 100000) (hi : i + 6 ≤ t.1) (IH : ∀ t1 s2, INV t1 s2 → TB t1 → t1.1 = t.1 → LQ D t1 s2 (nI (i + 6)) 18) : LQ D t s (nI i) 1070 := by
  obtain ⟨v, s1, s2, e1, e2, h2⟩ := L_copy h (s.1 0 (nI i + 1).toNatClampNeg) (s.1 0 (nI i + 2).toNatClampNeg) (s.1 0 (nI i + 3).toNatClampNeg) (s.1 0 (nI i + 4).toNatClampNeg) (s.1 0 (nI i + 5).toNatClampNeg)
  have z : s1.1 0 = s.1 0 := z0_copy e1
  rw [← z] at e2
  obtain ⟨sE, tE, b1, b2, b3, eE⟩ := IH t s2 h2 hB rfl
  rw [show nI (i + 6) = nI i + 6 from (nI_add i 6).symm] at eE
  refine ⟨sE, tE, b1, b2, b3, ?_⟩
  refine Ex_gd 6 (g := mInb (nI i + 1) t.1 = true) (fun _ => rfl) (gi (k := 1) hl hi (by decide) rfl) ?_
  refine Ex_gd 5 (g := mInb (nI i + 2) t.1 = true) (fun _ => rfl) (gi (k := 2) hl hi (by decide) rfl) ?_
  refine Ex_gd 5 (g := mInb (nI i + 3) t.1 = true) (fun _ => rfl) (gi (k := 3) hl hi (by decide) rfl) ?_
  refine Ex_gd 5 (g := mInb (nI i + 4) t.1 = true) (fun _ => rfl) (gi (k := 4) hl hi (by decide) rfl) ?_
  refine Ex_gd 5 (g := mInb (nI i + 5) t.1 = true) (fun _ => rfl) (gi (k := 5) hl hi (by decide) rfl) ?_
  refine Ex_callN 1 (fun _ => rfl) (T_X8_copy (D + 78) t _ _ _ _ _ s (v, s1) e1) (mLe_refl _) b3 ?_
  refine Ex_gd 6 (g := mInb (nI i + 1) t.1 = true) (fun _ => rfl) (gi (k := 1) hl hi (by decide) rfl) ?_
  refine Ex_gd 5 (g := mInb (nI i + 2) t.1 = true) (fun _ => rfl) (gi (k := 2) hl hi (by decide) rfl) ?_
  refine Ex_gd 5 (g := mInb (nI i + 3) t.1 = true) (fun _ => rfl) (gi (k := 3) hl hi (by decide) rfl) ?_
  refine Ex_gd 5 (g := mInb (nI i + 4) t.1 = true) (fun _ => rfl) (gi (k := 4) hl hi (by decide) rfl) ?_
  refine Ex_gd 5 (g := mInb (nI i + 5) t.1 = true) (fun _ => rfl) (gi (k := 5) hl hi (by decide) rfl) ?_
  refine Ex_callN 1 (fun _ => rfl) (T_X9_copy (D + 77) t _ _ _ _ _ s1 (v, s2) e2) (mLe_refl _) b3 ?_
  refine Ex_brT 1 (c := v = v) (fun _ => rfl) rfl ?_
  exact Ex_st 2 (fun _ => rfl) eE
theorem law_muds (D : Nat) (t : mTX) (s : mSG) (i : Nat) (h : INV t s) (hB : TB t) (hl : t.1 ≤ 100000) (hi : i + 6 ≤ t.1) (IH : ∀ t1 s2, INV t1 s2 → TB t1 → t1.1 = t.1 → LQ D t1 s2 (nI (i + 6)) 18) : LQ D t s (nI i) 1133 := by
  obtain ⟨v, s1, s2, e1, e2, h2⟩ := L_muds h (s.1 0 (nI i + 1).toNatClampNeg) (s.1 0 (nI i + 2).toNatClampNeg) (s.1 0 (nI i + 3).toNatClampNeg) (s.1 0 (nI i + 4).toNatClampNeg)
  have z : s1.1 0 = s.1 0 := funext fun j => (FR_X8_muds _ _ _ _ _ _ _ e1 0 j rfl).1
  rw [← z] at e2
  obtain ⟨sE, tE, b1, b2, b3, eE⟩ := IH t s2 h2 hB rfl
  rw [show nI (i + 6) = nI i + 6 from (nI_add i 6).symm] at eE
  refine ⟨sE, tE, b1, b2, b3, ?_⟩
  refine Ex_gd 6 (g := mInb (nI i + 1) t.1 = true) (fun _ => rfl) (gi (k := 1) hl hi (by decide) rfl) ?_
  refine Ex_gd 5 (g := mInb (nI i + 2) t.1 = true) (fun _ => rfl) (gi (k := 2) hl hi (by decide) rfl) ?_
  refine Ex_gd 5 (g := mInb (nI i + 3) t.1 = true) (fun _ => rfl) (gi (k := 3) hl hi (by decide) rfl) ?_
  refine Ex_gd 5 (g := mInb (nI i + 4) t.1 = true) (fun _ => rfl) (gi (k := 4) hl hi (by decide) rfl) ?_
  refine Ex_callN 1 (fun _ => rfl) (T_X8_muds (D + 75) t _ _ _ _ s (v, s1) e1) (mLe_refl _) b3 ?_
  refine Ex_gd 6 (g := mInb (nI i + 1) t.1 = true) (fun _ => rfl) (gi (k := 1) hl hi (by decide) rfl) ?_
  refine Ex_gd 5 (g := mInb (nI i + 2) t.1 = true) (fun _ => rfl) (gi (k := 2) hl hi (by decide) rfl) ?_
  refine Ex_gd 5 (g := mInb (nI i + 3) t.1 = true) (fun _ => rfl) (gi (k := 3) hl hi (by decide) rfl) ?_
  refine Ex_gd 5 (g := mInb (nI i + 4) t.1 = true) (fun _ => rfl) (gi (k := 4) hl hi (by decide) rfl) ?_
  refine Ex_callN 1 (fun _ => rfl) (T_X9_muds (D + 76) t _ _ _ _ s1 (v, s2) e2) (mLe_refl _) b3 ?_
  refine Ex_brT 1 (c := v = v) (fun _ => rfl) rfl ?_
  exact Ex_st 2 (fun _ => rfl) eE
theorem law_taken (D : Nat) (t : mTX) (s : mSG) (i : Nat) (h : INV t s) (hB : TB t) (hl : t.1 ≤ 100000) (hi : i + 6 ≤ t.1) (IH : ∀ t1 s2, INV t1 s2 → TB t1 → t1.1 = t.1 → LQ D t1 s2 (nI (i + 6)) 18) : LQ D t s (nI i) 1186 := by
  obtain ⟨v, e1, e2⟩ := L_taken h (s.1 0 (nI i + 1).toNatClampNeg) (s.1 0 (nI i + 2).toNatClampNeg)
  obtain ⟨sE, tE, b1, b2, b3, eE⟩ := IH t s h hB rfl
  rw [show nI (i + 6) = nI i + 6 from (nI_add i 6).symm] at eE
  refine ⟨sE, tE, b1, b2, b3, ?_⟩
  refine Ex_gd 6 (g := mInb (nI i + 1) t.1 = true) (fun _ => rfl) (gi (k := 1) hl hi (by decide) rfl) ?_
  refine Ex_gd 5 (g := mInb (nI i + 2) t.1 = true) (fun _ => rfl) (gi (k := 2) hl hi (by decide) rfl) ?_
  refine Ex_callN 1 (fun _ => rfl) (T_X8_taken (D + 76) t _ _ s v e1) (mLe_refl _) b3 ?_
  refine Ex_gd 6 (g := mInb (nI i + 1) t.1 = true) (fun _ => rfl) (gi (k := 1) hl hi (by decide) rfl) ?_
  refine Ex_gd 5 (g := mInb (nI i + 2) t.1 = true) (fun _ => rfl) (gi (k := 2) hl hi (by decide) rfl) ?_
  refine Ex_callN 1 (fun _ => rfl) (T_X9_taken (D + 77) t _ _ s v e2) (mLe_refl _) b3 ?_
  refine Ex_brT 1 (c := v = v) (fun _ => rfl) rfl ?_
  exact Ex_st 2 (fun _ => rfl) eE
