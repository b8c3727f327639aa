/-! THE PROGRAM MAKES A TEXT -/
theorem Ex_callKN {C : mCT} {cd : Nat → mSem} {r : mRT} {pc pc' : Nat} {L L' : mLV} {S rest : List Value} {s s' : mSG} {Y Y' : mLY} (k : Nat) {m : Nat} {As : List Value} {q : mRT} {c : Prop} [hdc : Decidable c] (h : ∀ f, mEx C cd r (f + k) pc L S s Y = (if c then (∃ q : mRT, C m As s' Y' q ∧ (mLe Y' q.2.2 ∧ mLe q.2.2 r.2.2) ∧ mEx C cd r f pc' L' (q.1.toList ++ rest) q.2.1 q.2.2) else False)) (hcc : c) (hc : C m As s' Y' q) (hq : mLe Y' q.2.2) (hr : mLe q.2.2 r.2.2) (e : Ex C cd r pc' L' (q.1.toList ++ rest) q.2.1 q.2.2) : Ex C cd r pc L S s Y := by
  obtain ⟨f, hf⟩ := e
  refine ⟨f + k, ?_⟩
  rw [h f, if_pos hcc]
  exact ⟨q, hc, ⟨hq, hr⟩, hf⟩
theorem mRf_off {Y : mLY} {kd len sl a k : Nat} (h : a ≠ Y.1) : mRf (mAdd Y kd len sl) a k = mRf Y a k := by
  show mUr Y.2.2.2 Y.1 (fun _ => none) a k = _
  rw [mUr_off h]
  rfl
theorem T_X6_init (D : Nat) (Y : mLY) (a b c : Nat) (s : mSG) (hk : (mKl Y a).1 = 5) : Runs (D + 1) 69 [.ref a, .ref b, .ref c] s Y (none, s, mSetF (mSetF Y a 0 b) a 1 c) := by
  refine Runs_mk (d := D) rfl ?_
  show Ex (Runs D) cd_X6_init (none, s, mSetF (mSetF Y a 0 b) a 1 c) 0 [some (.ref a), some (.ref b), some (.ref c)] [] s Y
  refine Ex_if 5 (c := (mKl Y a).1 = 5) (fun _ => rfl) hk ?_
  refine Ex_if 3 (c := (mKl Y a).1 = 5) (fun _ => rfl) hk ?_
  exact Ex_ret 1 (fun _ => rfl) rfl
/-- the layout behind a new text -/
def YT (Y : mLY) (m : Nat) : mLY := mSetF (mSetF (mAdd (mAdd (mAdd Y 5 2 2) 20 m m) 20 3 3) Y.1 0 (Y.1 + 1)) Y.1 1 (Y.1 + 1 + 1)
theorem T_newText (D : Nat) (Y : mLY) (m : Nat) (s : mSG) (h1 : 27 < Y.1) (k5 : (mKl Y 25).1 = 1) (r6 : mRf Y 25 0 = some 26) (r7 : mRf Y 25 1 = some 27) (k6 : mKl Y 26 = (20, 160)) (k7 : mKl Y 27 = (20, 3)) (hs : s.1 25 2 = nI m) (hm : m ≤ 160) : ∃ s3 : mSG, (∀ a, a ≠ Y.1 → a ≠ Y.1 + 1 → a ≠ Y.1 + 1 + 1 → s3.1 a = s.1 a ∧ s3.2.1 a = s.2.1 a ∧ s3.2.2 a = s.2.2 a) ∧ (∀ j, j < m → s3.1 (Y.1 + 1) j = s.1 26 j) ∧ (∀ j, j < 3 → s3.1 (Y.1 + 1 + 1) j = s.1 27 j) ∧ Runs (D + 3) 11 [.ref 25] s Y (some (.ref Y.1), s3, YT Y m) := by
  have n5 : 25 ≠ Y.1 := by omega
  have n6 : 26 ≠ Y.1 := by omega
  have n7 : 27 ≠ Y.1 := by omega
  obtain ⟨g1, q1, R1⟩ := T_copyOf D (mAdd Y 5 2 2) 26 m 160 (mNew s Y.1) (by rw [mKl_off n6]; exact k6) (show 26 ≠ Y.1 + 1 by omega) hm (by decide)
  obtain ⟨g2, q2, R2⟩ := T_copyOf D (mAdd (mAdd Y 5 2 2) 20 m m) 27 3 3 (mUr (mNew s Y.1).1 (mAdd Y 5 2 2).1 g1, (mNew (mNew s Y.1) (mAdd Y 5 2 2).1).2) (by rw [mKl_off (show 27 ≠ Y.1 + 1 by omega), mKl_off n7]; exact k7) (show 27 ≠ Y.1 + 1 + 1 by omega) (Nat.le_refl _) (by decide)
  have e1 : (mAdd Y 5 2 2).1 = Y.1 + 1 := rfl
  have e2 : (mAdd (mAdd Y 5 2 2) 20 m m).1 = Y.1 + 1 + 1 := rfl
  refine ⟨(mUr ((mUr (mNew s Y.1).1 (mAdd Y 5 2 2).1 g1, (mNew (mNew s Y.1) (mAdd Y 5 2 2).1).2) : mSG).1 (mAdd (mAdd Y 5 2 2) 20 m m).1 g2, (mNew (mUr (mNew s Y.1).1 (mAdd Y 5 2 2).1 g1, (mNew (mNew s Y.1) (mAdd Y 5 2 2).1).2) (mAdd (mAdd Y 5 2 2) 20 m m).1).2), ?_, ?_, ?_, Runs_mk (d := D + 2) rfl ?_⟩
  rotate_left 3
  · show Ex (Runs (D + 2)) cd_X1_newText (some (.ref Y.1), (mUr ((mUr (mNew s Y.1).1 (mAdd Y 5 2 2).1 g1, (mNew (mNew s Y.1) (mAdd Y 5 2 2).1).2) : mSG).1 (mAdd (mAdd Y 5 2 2) 20 m m).1 g2, (mNew (mUr (mNew s Y.1).1 (mAdd Y 5 2 2).1 g1, (mNew (mNew s Y.1) (mAdd Y 5 2 2).1).2) (mAdd (mAdd Y 5 2 2) 20 m m).1).2), YT Y m) 0 [some (.ref 25)] [] s Y
    refine Ex_gd 1 (g := mLe (mAdd Y 5 2 2) (YT Y m)) (fun _ => rfl) ⟨by show Y.1 + 1 ≤ Y.1 + 1 + 1 + 1; omega, by show Y.2.1 + 2 ≤ Y.2.1 + 2 + m + 3; omega⟩ ?_
    refine Ex_getF 3 (c := (mKl (mAdd Y 5 2 2) 25).1 = 1) (o := mRf (mAdd Y 5 2 2) 25 0) (fun _ => rfl) (by rw [mKl_off n5]; exact k5) (by rw [mRf_off n5]; exact r6) ?_
    refine Ex_if 2 (c := (mKl (mAdd Y 5 2 2) 25).1 = 1) (fun _ => rfl) (by rw [mKl_off n5]; exact k5) ?_
    rw [show (mNew s Y.1).1 25 2 = nI m from by rw [show (mNew s Y.1).1 = mUr s.1 Y.1 (fun _ => 0) from rfl, mUr_off n5]; exact hs]
    refine Ex_callN 1 (fun _ => rfl) R1 mAdd_le ⟨by show Y.1 + 1 + 1 ≤ Y.1 + 1 + 1 + 1; omega, by show Y.2.1 + 2 + m ≤ Y.2.1 + 2 + m + 3; omega⟩ ?_
    refine Ex_getF 2 (c := (mKl (mAdd (mAdd Y 5 2 2) 20 m m) 25).1 = 1) (o := mRf (mAdd (mAdd Y 5 2 2) 20 m m) 25 1) (fun _ => rfl) (by rw [mKl_off (show 25 ≠ Y.1 + 1 by omega), mKl_off n5]; exact k5) (by rw [mRf_off (show 25 ≠ Y.1 + 1 by omega), mRf_off n5]; exact r7) ?_
    refine Ex_callN 2 (fun _ => rfl) R2 mAdd_le ⟨by show Y.1 + 1 + 1 + 1 ≤ Y.1 + 1 + 1 + 1; omega, by show Y.2.1 + 2 + m + 3 ≤ Y.2.1 + 2 + m + 3; omega⟩ ?_
    refine Ex_callKN 1 (c := (mKl (mAdd (mAdd (mAdd Y 5 2 2) 20 m m) 20 3 3) Y.1).1 = 5 ∧ ((([Value.ref Y.1]).map Value.category).sum ≤ 8)) (fun _ => rfl) ⟨by rw [mKl_off (show Y.1 ≠ Y.1 + 1 + 1 by omega), mKl_off (show Y.1 ≠ Y.1 + 1 by omega), mKl_at], by show 1 ≤ 8; decide⟩ (T_X6_init (D + 1) _ Y.1 (Y.1 + 1) (Y.1 + 1 + 1) _ (by rw [mKl_off (show Y.1 ≠ Y.1 + 1 + 1 by omega), mKl_off (show Y.1 ≠ Y.1 + 1 by omega), mKl_at])) (mLe_refl _) (mLe_refl _) ?_
    exact Ex_ret 1 (fun _ => rfl) rfl
  · intro a ha ha1 ha2
    refine ⟨?_, ?_, ?_⟩
    · show mUr (mUr (mUr s.1 Y.1 _) (Y.1 + 1) _) (Y.1 + 1 + 1) _ a = _
      rw [mUr_off (by omega), mUr_off (by omega), mUr_off (by omega)]
    · show mUr (mUr (mUr s.2.1 Y.1 _) (Y.1 + 1) _) (Y.1 + 1 + 1) _ a = _
      rw [mUr_off (by omega), mUr_off (by omega), mUr_off (by omega)]
    · show mUr (mUr (mUr s.2.2 Y.1 _) (Y.1 + 1) _) (Y.1 + 1 + 1) _ a = _
      rw [mUr_off (by omega), mUr_off (by omega), mUr_off (by omega)]
  · intro j hj
    show mUr (mUr (mUr s.1 Y.1 _) (Y.1 + 1) g1) (Y.1 + 1 + 1) _ (Y.1 + 1) j = _
    rw [mUr_off (by omega), mUr_at, q1 j hj]
    show mUr s.1 Y.1 _ 26 j = _
    rw [mUr_off n6]
  · intro j hj
    show mUr (mUr (mUr s.1 Y.1 _) (Y.1 + 1) g1) (Y.1 + 1 + 1) g2 (Y.1 + 1 + 1) j = _
    rw [mUr_at, q2 j hj]
    show mUr (mUr s.1 Y.1 _) (Y.1 + 1) g1 27 j = _
    rw [mUr_off (by omega), mUr_off n7]
/-- the layout of one text more -/
def tNx (t : mTX) (m : Nat) : mTX := (t.1, t.2.1 + 1, fun j => if j = t.2.1 then m else t.2.2 j)
theorem ble_n {a b : Nat} (h : b < a) : Nat.ble a b = false := by
  cases hh : Nat.ble a b with
  | false => rfl
  | true => have := Nat.le_of_ble_eq_true hh; omega
theorem ble_y {a b : Nat} (h : a ≤ b) : Nat.ble a b = true := Nat.ble_eq_true_of_le h
theorem LKL_hi {t : mTX} {k r : Nat} (hr : r < 3) : LKL t (84 + 3 * k + r) = if k < t.2.1 then (if r = 0 then (5, 2) else if r = 1 then (20, t.2.2 k) else (20, 3)) else (99, 0) := by
  unfold LKL
  rw [ble_n (show 83 < 84 + 3 * k + r by omega)]
  simp only [cond_false]
  by_cases q : k < t.2.1
  · rw [ble_n (show 84 + 3 * k + r < 84 + 3 * t.2.1 by omega), if_pos q]
    have h3 : (84 + 3 * k + r - 84) % 3 = r := by omega
    have h4 : (84 + 3 * k + r - 84) / 3 = k := by omega
    simp only [cond_false]
    rw [h3, h4]
    have hc : r = 0 ∨ r = 1 ∨ r = 2 := by omega
    rcases hc with rfl | rfl | rfl <;> rfl
  · rw [ble_y (show 84 + 3 * t.2.1 ≤ 84 + 3 * k + r by omega), if_neg q]
    rfl
theorem LRF_hi {t : mTX} {k r j : Nat} (hr : r < 3) : LRF t (84 + 3 * k + r) j = if k < t.2.1 ∧ r = 0 then (if j = 0 then some (84 + 3 * k + 1) else if j = 1 then some (84 + 3 * k + 2) else none) else none := by
  unfold LRF
  rw [ble_n (show 83 < 84 + 3 * k + r by omega)]
  simp only [cond_false]
  by_cases q : k < t.2.1
  · rw [ble_n (show 84 + 3 * k + r < 84 + 3 * t.2.1 by omega)]
    have h3 : (84 + 3 * k + r - 84) % 3 = r := by omega
    simp only [cond_false]
    rw [h3]
    have hc : r = 0 ∨ r = 1 ∨ r = 2 := by omega
    rcases hc with rfl | rfl | rfl
    · rw [if_pos ⟨q, rfl⟩]
      match j with
      | 0 => rfl
      | 1 => rfl
      | j + 2 => rfl
    · rw [if_neg (by omega)]; rfl
    · rw [if_neg (by omega)]; rfl
  · rw [ble_y (show 84 + 3 * t.2.1 ≤ 84 + 3 * k + r by omega), if_neg (fun g => q g.1)]
    rfl
theorem LKL_lo {t t' : mTX} {a : Nat} (h : a ≤ 83) (h1 : t.1 = t'.1) : LKL t a = LKL t' a := by
  unfold LKL
  rw [ble_y h, h1]
  rfl
theorem LRF_lo {t t' : mTX} {a j : Nat} (h : a ≤ 83) : LRF t a j = LRF t' a j := by
  unfold LRF
  rw [ble_y h]
  rfl
theorem LSL_eq {f g : Nat → Nat} : ∀ n, (∀ j, j < n → f j = g j) → LSL f n = LSL g n
  | 0, _ => rfl
  | n + 1, h => by
    show LSL f n + (5 + f n) = LSL g n + (5 + g n)
    rw [LSL_eq n (fun j hj => h j (by omega)), h n (by omega)]
theorem LAY_new (t : mTX) (m : Nat) : YT (LAY t) m = LAY (tNx t m) := by
  refine Prod.ext ?_ (Prod.ext ?_ (Prod.ext (funext fun a => ?_) (funext fun a => funext fun j => ?_)))
  · show 84 + 3 * t.2.1 + 1 + 1 + 1 = 84 + 3 * (t.2.1 + 1)
    omega
  · show 5228 + LSL t.2.2 t.2.1 + 2 + m + 3 = 5228 + (LSL (tNx t m).2.2 t.2.1 + (5 + (tNx t m).2.2 t.2.1))
    rw [LSL_eq (f := (tNx t m).2.2) (g := t.2.2) t.2.1 (fun j hj => if_neg (by omega)), show (tNx t m).2.2 t.2.1 = m from if_pos rfl]
    omega
  · show (if a = 84 + 3 * t.2.1 + 1 + 1 then (20, 3) else if a = 84 + 3 * t.2.1 + 1 then (20, m) else if a = 84 + 3 * t.2.1 then (5, 2) else LKL t a) = LKL (tNx t m) a
    by_cases q : a ≤ 83
    · rw [if_neg (by omega), if_neg (by omega), if_neg (by omega)]
      exact LKL_lo q rfl
    · obtain ⟨k, r, hr, rfl⟩ : ∃ k r, r < 3 ∧ a = 84 + 3 * k + r := ⟨(a - 84) / 3, (a - 84) % 3, by omega, by omega⟩
      rw [LKL_hi hr, LKL_hi hr]
      have e1 : (tNx t m).2.1 = t.2.1 + 1 := rfl
      rw [e1]
      by_cases q1 : k = t.2.1
      · subst q1
        rw [if_pos (show t.2.1 < t.2.1 + 1 by omega), show (tNx t m).2.2 t.2.1 = m from if_pos rfl]
        have hc : r = 0 ∨ r = 1 ∨ r = 2 := by omega
        rcases hc with rfl | rfl | rfl
        · rw [if_neg (by omega), if_neg (by omega), if_pos (by omega), if_pos rfl]
        · rw [if_neg (by omega), if_pos (by omega), if_neg (by omega), if_pos rfl]
        · rw [if_pos (by omega), if_neg (by omega), if_neg (by omega)]
      · rw [if_neg (by omega), if_neg (by omega), if_neg (by omega)]
        rw [show (tNx t m).2.2 k = t.2.2 k from if_neg q1]
        by_cases q2 : k < t.2.1
        · rw [if_pos q2, if_pos (show k < t.2.1 + 1 by omega)]
        · rw [if_neg q2, if_neg (show ¬ k < t.2.1 + 1 by omega)]
  · show mUp (mUp (mUr (mUr (mUr (LRF t) (84 + 3 * t.2.1) (fun _ => none)) (84 + 3 * t.2.1 + 1) (fun _ => none)) (84 + 3 * t.2.1 + 1 + 1) (fun _ => none)) (84 + 3 * t.2.1) 0 (some (84 + 3 * t.2.1 + 1))) (84 + 3 * t.2.1) 1 (some (84 + 3 * t.2.1 + 1 + 1)) a j = LRF (tNx t m) a j
    by_cases q : a ≤ 83
    · rw [mUp_ne (by omega), mUp_ne (by omega), mUr_off (by omega), mUr_off (by omega), mUr_off (by omega)]
      exact LRF_lo q
    · obtain ⟨k, r, hr, rfl⟩ : ∃ k r, r < 3 ∧ a = 84 + 3 * k + r := ⟨(a - 84) / 3, (a - 84) % 3, by omega, by omega⟩
      rw [LRF_hi hr]
      have e1 : (tNx t m).2.1 = t.2.1 + 1 := rfl
      rw [e1]
      by_cases q1 : k = t.2.1
      · subst q1
        have hc : r = 0 ∨ r = 1 ∨ r = 2 := by omega
        rcases hc with rfl | rfl | rfl
        · rw [if_pos ⟨by omega, rfl⟩, show 84 + 3 * t.2.1 + 0 = 84 + 3 * t.2.1 from rfl]
          by_cases j1 : j = 1
          · subst j1
            rw [mUp_at, if_neg (by decide), if_pos rfl]
          · rw [mUp_off j1]
            by_cases j0 : j = 0
            · subst j0
              rw [mUp_at, if_pos rfl]
            · rw [mUp_off j0, mUr_off (by omega), mUr_off (by omega), mUr_at, if_neg j0, if_neg j1]
        · rw [if_neg (by omega), mUp_ne (by omega), mUp_ne (by omega), mUr_off (by omega), mUr_at]
        · rw [if_neg (by omega), mUp_ne (by omega), mUp_ne (by omega), mUr_at]
      · rw [mUp_ne (by omega), mUp_ne (by omega), mUr_off (by omega), mUr_off (by omega), mUr_off (by omega), LRF_hi hr]
        by_cases q2 : k < t.2.1 ∧ r = 0
        · rw [if_pos q2, if_pos (show k < t.2.1 + 1 ∧ r = 0 by omega)]
        · rw [if_neg q2, if_neg (show ¬ (k < t.2.1 + 1 ∧ r = 0) by omega)]
