/-! THE PROGRAM'S CONSTRUCTOR: its first rule -/
def ft (s : mSG) : Nat → mSG
  | 0 => s
  | k + 1 => sI (ft s k) 23 k (nI (ruB k))
theorem ft_off {s : mSG} {a : Nat} (h : a ≠ 23) : ∀ n j, (ft s n).1 a j = s.1 a j
  | 0, _ => rfl
  | n + 1, j => by
    show (sI (ft s n) 23 n (nI (ruB n))).1 a j = _
    rw [sI_adr h]
    exact ft_off h n j
theorem ft_at {s : mSG} : ∀ n j, j < n → (ft s n).1 23 j = nI (ruB j)
  | 0, j, h => absurd h (Nat.not_lt_zero j)
  | n + 1, j, h => by
    show (sI (ft s n) 23 n (nI (ruB n))).1 23 j = _
    by_cases q : j = n
    · subst q; rw [sI_same]
    · rw [sI_oth q]; exact ft_at n j (by omega)
theorem ft_2 {s : mSG} : ∀ n, (ft s n).2 = s.2
  | 0 => rfl
  | n + 1 => by
    show (ft s n).2 = _
    exact ft_2 n
theorem lyc_le (t : mTX) : mLe (LYC t) (YT (LYC t) 5) := ⟨by show 53 ≤ 53 + 1 + 1 + 1; decide, by show 2527 ≤ 2527 + 2 + 5 + 3; decide⟩
theorem X8_tape (D : Nat) (t : mTX) (s : mSG) (r : mRT) (hr : r.2.2 = YT (LYC t) 5) (h4 : ∀ j, j < 38 → s.1 4 j = nI (ruB j)) (e : Ex (Runs (D + 69)) cd_X8_init r 169 [some (.ref 6), some (.int (nI 38))] [] (ft s 38) (LYC t)) : ∀ m i, i ≤ 38 → 38 - i ≤ m → Ex (Runs (D + 69)) cd_X8_init r 135 [some (.ref 6), some (.int (nI i))] [] (ft s i) (LYC t) := by
  have hl : mLe (LYC t) r.2.2 := by rw [hr]; exact lyc_le t
  intro m
  induction m with
  | zero =>
    intro i hi hm
    have e38 : i = 38 := by omega
    subst e38
    refine Ex_callN 3 (fun _ => rfl) (T_length2 (D + 67) (LYC t) (ft s 38) rfl) (mLe_refl _) hl ?_
    exact Ex_brT 1 (c := (38 : Int32) ≤ nI 38) (fun _ => rfl) (by decide) e
  | succ m ih =>
    intro i hi hm
    refine Ex_callN 3 (fun _ => rfl) (T_length2 (D + 67) (LYC t) (ft s i) rfl) (mLe_refl _) hl ?_
    by_cases q : i = 38
    · subst q
      exact Ex_brT 1 (c := (38 : Int32) ≤ nI 38) (fun _ => rfl) (by decide) e
    · refine Ex_brF 1 (c := (38 : Int32) ≤ nI i) (fun _ => rfl) (gl_le (x := 38) (m := 38) rfl (by omega) (by omega)) ?_
      refine Ex_brF 3 (c := (160 : Int32) ≤ nI i) (fun _ => rfl) (gl_le (x := 160) (m := 160) rfl (by omega) (by omega)) ?_
      refine Ex_callN 6 (fun _ => rfl) (T_charAt2 (D + 65) (LYC t) (nI i) (ft s i) rfl (gl_inb (by omega) (by omega))) (mLe_refl _) hl ?_
      refine Ex_gd 1 (g := mInb (nI i) 160 = true) (fun _ => rfl) (gl_inb (by omega) (by omega)) ?_
      have ec : mChr 2 (nI i) (ft s i) = nI (ruB i) := by
        show (((ft s i).1 4 (nI i).toNatClampNeg &&& 255).toUInt32 % 65536).toInt32 = _
        rw [nl_cl (by omega), ft_off (by decide), h4 i (by omega)]
        exact chr_nI (ruB_b i (by omega))
      have st : sI (ft s i) 23 (nI i).toNatClampNeg (mChr 2 (nI i) (ft s i)) = ft s (i + 1) := by
        rw [nl_cl (by omega), ec]
        rfl
      have nx := ih (i + 1) (by omega) (by omega)
      rw [← nI_1, ← st] at nx
      exact Ex_st 2 (fun _ => rfl) nx
set_option maxRecDepth 100000 in
theorem T_X8_init (D : Nat) (t : mTX) (s : mSG) (h4 : ∀ j, j < 38 → s.1 4 j = nI (ruB j)) (h5 : ∀ i, i < 55 → s.1 5 i = nI (wL i)) : ∃ sE : mSG, Runs (D + 70) 77 [.ref 6] s (ya0 t) (none, sE, YT (LYC t) 5) ∧ (∀ a, a ≠ 6 → a ≠ 25 → a ≠ 26 → a ≠ 27 → a ≠ 53 → a ≠ 54 → a ≠ 55 → sE.1 a = (ft (sa9 s) 38).1 a) ∧ (∀ k, k ≠ 11 → sE.1 6 k = (sa9 s).1 6 k) ∧ sE.1 6 11 = 1 ∧ (∀ a, a ≠ 22 → a ≠ 25 → a ≠ 53 → a ≠ 54 → a ≠ 55 → sE.2.1 a = (sa9 s).2.1 a) ∧ sE.2.1 22 0 = some 53 ∧ (sE.1 55 0 = nI 1 ∧ sE.1 55 1 = nI 2 ∧ sE.1 55 2 = nI 5) ∧ (sE.1 54 0 = xEnc (0, 0) ∧ sE.1 54 1 = xEnc (1, 1) ∧ sE.1 54 2 = xEnc (0, 1) ∧ sE.1 54 3 = xEnc (1, 3) ∧ sE.1 54 4 = xEnc (4, 4)) := by
  have g4 : ∀ j, j < 38 → (sa9 s).1 4 j = nI (ruB j) := fun j hj => (show (sa9 s).1 4 j = s.1 4 j from rfl).trans (h4 j hj)
  have g5 : ∀ i, i < 55 → (ft (sa9 s) 38).1 5 i = nI (wL i) := fun i hi => (ft_off (by decide) 38 i).trans ((show (sa9 s).1 5 i = s.1 5 i from rfl).trans (h5 i hi))
  obtain ⟨s1, p1, p2, ⟨p3, p4, p5⟩, ⟨p6, p7, p8, p9, p10⟩, p11, p12, p13⟩ := z_rule t (s := ft (sa9 s) 38) (fun j hj => ft_at 38 j hj) g5
  obtain ⟨s3, n1, n2, n3, R⟩ := T_newText (D + 66) (LYC t) 5 s1 (show 27 < 53 by decide) rfl rfl rfl rfl rfl p2 (by decide)
  refine ⟨sI (sQ s3 22 0 53) 6 11 1, ?_, fun a h6 h25 h26 h27 h53 h54 h55 => ?_, fun k hk => ?_, sI_same, fun a h22 h25 h53 h54 h55 => ?_, ?_, ⟨?_, ?_, ?_⟩, ⟨?_, ?_, ?_, ?_, ?_⟩⟩
  · refine Runs_mk (d := D + 69) rfl ?_
    show Ex (Runs (D + 69)) cd_X8_init (none, sI (sQ s3 22 0 53) 6 11 1, YT (LYC t) 5) 0 [some (.ref 6), none] [] s (ya0 t)
    have hr : ((none, sI (sQ s3 22 0 53) 6 11 1, YT (LYC t) 5) : mRT).2.2 = YT (LYC t) 5 := rfl
    refine X8_a1 (D + 67) t s _ hr (X8_a2 (D + 67) t s _ hr (X8_a3 (D + 67) t s _ hr (X8_a4 (D + 67) t s _ hr (X8_a5 (D + 67) t s _ hr (X8_a6 (D + 67) t s _ hr (X8_a7 (D + 67) t s _ hr (X8_a8 (D + 67) t s _ hr ?_)))))))
    refine Ex_st 2 (fun _ => rfl) (X8_s0 (D + 67) t s _ hr (X8_s1 (D + 67) t s _ hr (X8_s2 (D + 67) t s _ hr (X8_s3 (D + 67) t s _ hr ?_))))
    refine Ex_brT 3 (c := (4 : Int32) ≤ 4) (fun _ => rfl) (by decide) ?_
    show Ex (Runs (D + 69)) cd_X8_init (none, sI (sQ s3 22 0 53) 6 11 1, YT (LYC t) 5) 133 [some (.ref 6), some (.int 4)] [] (sa9 s) (ya9 t)
    rw [ya9_eq]
    refine Ex_st 2 (fun _ => rfl) (X8_tape D t (sa9 s) _ hr g4 ?_ 38 0 (by decide) (by decide))
    refine Ex_callN 6 (fun _ => rfl) (T_length2 (D + 67) (LYC t) (ft (sa9 s) 38) rfl) (mLe_refl _) (lyc_le t) ?_
    refine Ex_callN 1 (fun _ => rfl) (Z_T_X1_parse_23 D t 38 (ft (sa9 s) 38) (-1, s1) p1) (mLe_refl _) (lyc_le t) ?_
    refine Ex_callN 7 (fun _ => rfl) R (lyc_le t) (mLe_refl _) ?_
    refine Ex_gd 1 (g := mInb 0 6 = true) (fun _ => rfl) (by decide) ?_
    exact Ex_ret 4 (fun _ => rfl) rfl
  · rw [← p11 a h25 h26 h27, ← (n1 a h53 h54 h55).1]
    funext j
    rw [sI_adr h6]
    rfl
  · rw [sI_oth hk]
    show s3.1 6 k = _
    rw [(n1 6 (show 6 ≠ 53 by decide) (show 6 ≠ 53 + 1 by decide) (show 6 ≠ 53 + 1 + 1 by decide)).1, p11 6 (by decide) (by decide) (by decide), ft_off (by decide)]
  · show mUp s3.2.1 22 0 (some 53) a = _
    rw [mUp_ne h22, (n1 a h53 h54 h55).2.1, p12 a h25, ft_2]
  · show mUp s3.2.1 22 0 (some 53) 22 0 = _
    exact mUp_at
  · exact (n3 0 (by decide)).trans p3
  · exact (n3 1 (by decide)).trans p4
  · exact (n3 2 (by decide)).trans p5
  · exact (n2 0 (by decide)).trans p6
  · exact (n2 1 (by decide)).trans p7
  · exact (n2 2 (by decide)).trans p8
  · exact (n2 3 (by decide)).trans p9
  · exact (n2 4 (by decide)).trans p10
