/-! text(), THE PROGRAM -/
theorem T_textF (D : Nat) (t : mTX) (s : mSG) (h : s.1 6 11 = nI 6) : Runs (D + 70) 84 [.ref 6] s (LAY t) (some (.int (-4)), s, LAY t) := by
  refine Runs_mk (d := D + 69) rfl ?_
  show Ex (Runs (D + 69)) cd_X8_text (some (.int (-4)), s, LAY t) 0 [some (.ref 6), none] [] s (LAY t)
  refine Ex_brF 4 (c := s.1 6 11 < 6) (fun _ => rfl) (by rw [h]; decide) ?_
  exact Ex_ret 2 (fun _ => rfl) rfl
theorem T_textN (D : Nat) (t : mTX) (s s1 : mSG) (tc : Nat) (x : Int32) (h : s.1 6 11 = nI tc) (htc : tc < 6) (hp : X1_parse_23 t (s.1 6 12) s = some (x, s1)) (hx : ¬ x = -1) : Runs (D + 70) 84 [.ref 6] s (LAY t) (some (.int (-100 - x)), sI s1 6 12 0, LAY t) := by
  refine Runs_mk (d := D + 69) rfl ?_
  show Ex (Runs (D + 69)) cd_X8_text (some (.int (-100 - x)), sI s1 6 12 0, LAY t) 0 [some (.ref 6), none] [] s (LAY t)
  refine Ex_brT 4 (c := s.1 6 11 < 6) (fun _ => rfl) (by rw [h]; exact nI_lt (b := 6) htc (by omega)) ?_
  refine Ex_call 7 (fun _ => rfl) (T_X1_parse_23 D t (s.1 6 12) s (x, s1) hp) rfl rfl ?_
  refine Ex_brF 7 (c := x = -1) (fun _ => rfl) hx ?_
  exact Ex_ret 4 (fun _ => rfl) rfl
theorem T_textY (D : Nat) (t : mTX) (s s1 : mSG) (tc m : Nat) (h : s.1 6 11 = nI tc) (htc : tc < 6) (ht : t.2.1 + 1 = tc) (hp : X1_parse_23 t (s.1 6 12) s = some (-1, s1)) (h1 : s1.1 6 11 = nI tc) (h2 : s1.1 25 2 = nI m) (hm : m ≤ 160) : ∃ s3 : mSG, (∀ a, a ≠ 84 + 3 * t.2.1 → a ≠ 84 + 3 * t.2.1 + 1 → a ≠ 84 + 3 * t.2.1 + 1 + 1 → s3.1 a = (sI s1 6 12 0).1 a ∧ s3.2.1 a = s1.2.1 a ∧ s3.2.2 a = s1.2.2 a) ∧ (∀ j, j < m → s3.1 (84 + 3 * t.2.1 + 1) j = s1.1 26 j) ∧ (∀ j, j < 3 → s3.1 (84 + 3 * t.2.1 + 1 + 1) j = s1.1 27 j) ∧ Runs (D + 70) 84 [.ref 6] s (LAY t) (some (.int (nI tc)), sI (sQ s3 22 tc (84 + 3 * t.2.1)) 6 11 (nI (tc + 1)), LAY (tNx t m)) := by
  obtain ⟨s3, a1, a2, a3, R⟩ := T_newText (D + 66) (LAY t) m (sI s1 6 12 0) (show 27 < 84 + 3 * t.2.1 by omega) rfl rfl rfl rfl rfl (by rw [sI_adr (by decide)]; exact h2) hm
  rw [LAY_new] at R
  have e6 : s3.1 6 11 = nI tc := by
    rw [(a1 6 (show 6 ≠ 84 + 3 * t.2.1 by omega) (show 6 ≠ 84 + 3 * t.2.1 + 1 by omega) (show 6 ≠ 84 + 3 * t.2.1 + 1 + 1 by omega)).1, sI_oth (by decide)]
    exact h1
  have hle : mLe (LAY t) (LAY (tNx t m)) := by
    rw [← LAY_new]
    exact ⟨by show 84 + 3 * t.2.1 ≤ 84 + 3 * t.2.1 + 1 + 1 + 1; omega, by show 5228 + LSL t.2.2 t.2.1 ≤ 5228 + LSL t.2.2 t.2.1 + 2 + m + 3; omega⟩
  have k5 : (mKl (LAY (tNx t m)) (84 + 3 * t.2.1)).1 = 5 := by
    have := txO_kl (t := tNx t m) (k := t.2.1 + 1) (Nat.le_refl _)
    rw [show txO (t.2.1 + 1) = 84 + 3 * t.2.1 from if_neg (by omega)] at this
    exact this
  refine ⟨s3, a1, fun j hj => ?_, fun j hj => ?_, ?_⟩
  · rw [← show (sI s1 6 12 0).1 26 j = s1.1 26 j from sI_adr (by decide)]
    exact a2 j hj
  · rw [← show (sI s1 6 12 0).1 27 j = s1.1 27 j from sI_adr (by decide)]
    exact a3 j hj
  refine Runs_mk (d := D + 69) rfl ?_
  show Ex (Runs (D + 69)) cd_X8_text (some (.int (nI tc)), sI (sQ s3 22 tc (84 + 3 * t.2.1)) 6 11 (nI (tc + 1)), LAY (tNx t m)) 0 [some (.ref 6), none] [] s (LAY t)
  refine Ex_brT 4 (c := s.1 6 11 < 6) (fun _ => rfl) (by rw [h]; exact nI_lt (b := 6) htc (by omega)) ?_
  refine Ex_callN 7 (fun _ => rfl) (T_X1_parse_23 D t (s.1 6 12) s (-1, s1) hp) (mLe_refl _) hle ?_
  refine Ex_brT 7 (c := (-1 : Int32) = -1) (fun _ => rfl) rfl ?_
  refine Ex_callN 7 (fun _ => rfl) R hle (mLe_refl _) ?_
  refine Ex_ifg 1 (c := (mKl (LAY (tNx t m)) (84 + 3 * t.2.1)).1 = 5) (g := mInb (s1.1 6 11) 6 = true) (pc' := 59) (L' := [some (.ref 6), some (.int (-1))]) (S' := []) (s' := sQ s3 22 (s1.1 6 11).toNatClampNeg (84 + 3 * t.2.1)) (Y' := LAY (tNx t m)) (X := fun _ => False) (fun _ => rfl) k5 (by rw [h1]; exact gl_inb htc (by omega)) ?_
  refine Ex_ret 11 (fun _ => rfl) ?_
  show (some (Value.int (nI tc)), sI (sQ s3 22 tc (84 + 3 * t.2.1)) 6 11 (nI (tc + 1)), LAY (tNx t m)) = (some (Value.int ((sI (sQ s3 22 (s1.1 6 11).toNatClampNeg (84 + 3 * t.2.1)) 6 11 (s3.1 6 11 + 1)).1 6 11 - 1)), sI (sQ s3 22 (s1.1 6 11).toNatClampNeg (84 + 3 * t.2.1)) 6 11 (s3.1 6 11 + 1), LAY (tNx t m))
  rw [sI_same, h1, e6, nl_cl (by omega), nI_1, nI_pred]
