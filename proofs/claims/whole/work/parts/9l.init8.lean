/-! THE PROGRAM'S CONSTRUCTOR: its fields -/
def LY0 (t : mTX) : mLY := (6, 0, (fun a => bif Nat.ble a 5 then LKL t a else (99, 0)), (fun _ _ => none))
def ya0 (t : mTX) : mLY := mAdd (LY0 t) 7 13 13
def ya1 (t : mTX) : mLY := mSetF (yX5 (mAdd (ya0 t) 4 7 7) 7) 6 0 7
def ya2 (t : mTX) : mLY := mSetF (yX5 (mAdd (ya1 t) 4 7 7) 12) 6 1 12
def ya3 (t : mTX) : mLY := mSetF (yX5 (mAdd (ya2 t) 4 7 7) 17) 6 2 17
def ya4 (t : mTX) : mLY := yG 23 (yG 20 (yG 22 (ya3 t) 6 3 6) 6 4 160) 6 5 4
def ya5 (t : mTX) : mLY := mSetF (yX1 (mAdd (ya4 t) 1 9 9) 25) 6 6 25
def ya6 (t : mTX) : mLY := mSetF (yX0 (mAdd (ya5 t) 0 9 9) 28) 6 7 28
def ya7 (t : mTX) : mLY := mSetF (yX0 (mAdd (ya6 t) 0 9 9) 31) 6 8 31
def ya8 (t : mTX) : mLY := mSetF (yX3 (mAdd (ya7 t) 2 12 12) 34) 6 9 34
def yh (j : Nat) (Y : mLY) : mLY := yG 20 (mAdd Y 3 3 3) (45 + 2 * j) 0 40
def ya9 (t : mTX) : mLY := yh 3 (yh 2 (yh 1 (yh 0 (ya8 t))))
def sa1 (s : mSG) : mSG := nw (mNew s 7) 8 4
def sa2 (s : mSG) : mSG := nw (mNew (sa1 s) 12) 13 4
def sa3 (s : mSG) : mSG := nw (mNew (sa2 s) 17) 18 4
def sa4 (s : mSG) : mSG := mNew (mNew (mNew (sa3 s) 22) 23) 24
def sa5 (s : mSG) : mSG := nw (mNew (sa4 s) 25) 26 2
def sa6 (s : mSG) : mSG := nw (mNew (sa5 s) 28) 29 2
def sa7 (s : mSG) : mSG := nw (mNew (sa6 s) 31) 32 2
def sa8 (s : mSG) : mSG := sI (sI (nw (mNew (sa7 s) 34) 35 10) 34 8 (-1)) 34 9 (-1)
def sh (j : Nat) (s : mSG) : mSG := sQ (sI (mNew (mNew s (45 + 2 * j)) (46 + 2 * j)) (45 + 2 * j) 1 (-1)) 24 j (45 + 2 * j)
def sa9 (s : mSG) : mSG := sh 3 (sh 2 (sh 1 (sh 0 (sa8 s))))
theorem le_lit {a b : Nat} (h : Nat.ble a b = true) : a ≤ b := Nat.le_of_ble_eq_true h
set_option maxRecDepth 100000 in
theorem X8_a1 (D : Nat) (t : mTX) (s : mSG) (r : mRT) (hr : r.2.2 = YT (LYC t) 5) (e : Ex (Runs (D + 2)) cd_X8_init r 15 [some (.ref 6), none] [] (sa1 s) (ya1 t)) : Ex (Runs (D + 2)) cd_X8_init r 0 [some (.ref 6), none] [] (s) (ya0 t) := by
  refine Ex_gd 4 (g := mLe (mAdd (ya0 t) 4 7 7) r.2.2) (fun _ => rfl) (by rw [hr]; exact ⟨le_lit rfl, le_lit rfl⟩) ?_
  refine Ex_callN 2 (fun _ => rfl) (T_X5_init (D + 1) (mAdd (ya0 t) 4 7 7) 7 (mNew (s) 7) rfl (le_lit rfl)) ⟨le_lit rfl, le_lit rfl⟩ (by rw [hr]; exact ⟨le_lit rfl, le_lit rfl⟩) ?_
  exact Ex_st 1 (fun _ => rfl) e
set_option maxRecDepth 100000 in
theorem X8_a2 (D : Nat) (t : mTX) (s : mSG) (r : mRT) (hr : r.2.2 = YT (LYC t) 5) (e : Ex (Runs (D + 2)) cd_X8_init r 26 [some (.ref 6), none] [] (sa2 s) (ya2 t)) : Ex (Runs (D + 2)) cd_X8_init r 15 [some (.ref 6), none] [] (sa1 s) (ya1 t) := by
  refine Ex_gd 2 (g := mLe (mAdd (ya1 t) 4 7 7) r.2.2) (fun _ => rfl) (by rw [hr]; exact ⟨le_lit rfl, le_lit rfl⟩) ?_
  refine Ex_callN 2 (fun _ => rfl) (T_X5_init (D + 1) (mAdd (ya1 t) 4 7 7) 12 (mNew (sa1 s) 12) rfl (le_lit rfl)) ⟨le_lit rfl, le_lit rfl⟩ (by rw [hr]; exact ⟨le_lit rfl, le_lit rfl⟩) ?_
  exact Ex_st 1 (fun _ => rfl) e
set_option maxRecDepth 100000 in
theorem X8_a3 (D : Nat) (t : mTX) (s : mSG) (r : mRT) (hr : r.2.2 = YT (LYC t) 5) (e : Ex (Runs (D + 2)) cd_X8_init r 37 [some (.ref 6), none] [] (sa3 s) (ya3 t)) : Ex (Runs (D + 2)) cd_X8_init r 26 [some (.ref 6), none] [] (sa2 s) (ya2 t) := by
  refine Ex_gd 2 (g := mLe (mAdd (ya2 t) 4 7 7) r.2.2) (fun _ => rfl) (by rw [hr]; exact ⟨le_lit rfl, le_lit rfl⟩) ?_
  refine Ex_callN 2 (fun _ => rfl) (T_X5_init (D + 1) (mAdd (ya2 t) 4 7 7) 17 (mNew (sa2 s) 17) rfl (le_lit rfl)) ⟨le_lit rfl, le_lit rfl⟩ (by rw [hr]; exact ⟨le_lit rfl, le_lit rfl⟩) ?_
  exact Ex_st 1 (fun _ => rfl) e
set_option maxRecDepth 100000 in
theorem X8_a4 (D : Nat) (t : mTX) (s : mSG) (r : mRT) (hr : r.2.2 = YT (LYC t) 5) (e : Ex (Runs (D + 2)) cd_X8_init r 63 [some (.ref 6), none] [] (sa4 s) (ya4 t)) : Ex (Runs (D + 2)) cd_X8_init r 37 [some (.ref 6), none] [] (sa3 s) (ya3 t) := by
  refine Ex_fld 4 22 6 3 7 6 6 (by decide) (by decide) (by decide) (fun _ => rfl) rfl (le_lit rfl) (by rw [hr]; exact ⟨le_lit rfl, le_lit rfl⟩) ?_
  refine Ex_fld 4 20 160 4 7 6 160 (by decide) (by decide) (by decide) (fun _ => rfl) rfl (le_lit rfl) (by rw [hr]; exact ⟨le_lit rfl, le_lit rfl⟩) ?_
  exact Ex_fld 4 23 4 5 7 6 4 (by decide) (by decide) (by decide) (fun _ => rfl) rfl (le_lit rfl) (by rw [hr]; exact ⟨le_lit rfl, le_lit rfl⟩) e
set_option maxRecDepth 100000 in
theorem X8_a5 (D : Nat) (t : mTX) (s : mSG) (r : mRT) (hr : r.2.2 = YT (LYC t) 5) (e : Ex (Runs (D + 2)) cd_X8_init r 74 [some (.ref 6), none] [] (sa5 s) (ya5 t)) : Ex (Runs (D + 2)) cd_X8_init r 63 [some (.ref 6), none] [] (sa4 s) (ya4 t) := by
  refine Ex_gd 2 (g := mLe (mAdd (ya4 t) 1 9 9) r.2.2) (fun _ => rfl) (by rw [hr]; exact ⟨le_lit rfl, le_lit rfl⟩) ?_
  refine Ex_callN 2 (fun _ => rfl) (T_X1_init (D + 1) (mAdd (ya4 t) 1 9 9) 25 (mNew (sa4 s) 25) rfl (le_lit rfl)) ⟨le_lit rfl, le_lit rfl⟩ (by rw [hr]; exact ⟨le_lit rfl, le_lit rfl⟩) ?_
  exact Ex_st 1 (fun _ => rfl) e
set_option maxRecDepth 100000 in
theorem X8_a6 (D : Nat) (t : mTX) (s : mSG) (r : mRT) (hr : r.2.2 = YT (LYC t) 5) (e : Ex (Runs (D + 2)) cd_X8_init r 85 [some (.ref 6), none] [] (sa6 s) (ya6 t)) : Ex (Runs (D + 2)) cd_X8_init r 74 [some (.ref 6), none] [] (sa5 s) (ya5 t) := by
  refine Ex_gd 2 (g := mLe (mAdd (ya5 t) 0 9 9) r.2.2) (fun _ => rfl) (by rw [hr]; exact ⟨le_lit rfl, le_lit rfl⟩) ?_
  refine Ex_callN 2 (fun _ => rfl) (T_X0_init (D + 1) (mAdd (ya5 t) 0 9 9) 28 (mNew (sa5 s) 28) rfl (le_lit rfl)) ⟨le_lit rfl, le_lit rfl⟩ (by rw [hr]; exact ⟨le_lit rfl, le_lit rfl⟩) ?_
  exact Ex_st 1 (fun _ => rfl) e
set_option maxRecDepth 100000 in
theorem X8_a7 (D : Nat) (t : mTX) (s : mSG) (r : mRT) (hr : r.2.2 = YT (LYC t) 5) (e : Ex (Runs (D + 2)) cd_X8_init r 96 [some (.ref 6), none] [] (sa7 s) (ya7 t)) : Ex (Runs (D + 2)) cd_X8_init r 85 [some (.ref 6), none] [] (sa6 s) (ya6 t) := by
  refine Ex_gd 2 (g := mLe (mAdd (ya6 t) 0 9 9) r.2.2) (fun _ => rfl) (by rw [hr]; exact ⟨le_lit rfl, le_lit rfl⟩) ?_
  refine Ex_callN 2 (fun _ => rfl) (T_X0_init (D + 1) (mAdd (ya6 t) 0 9 9) 31 (mNew (sa6 s) 31) rfl (le_lit rfl)) ⟨le_lit rfl, le_lit rfl⟩ (by rw [hr]; exact ⟨le_lit rfl, le_lit rfl⟩) ?_
  exact Ex_st 1 (fun _ => rfl) e
set_option maxRecDepth 100000 in
theorem X8_a8 (D : Nat) (t : mTX) (s : mSG) (r : mRT) (hr : r.2.2 = YT (LYC t) 5) (e : Ex (Runs (D + 2)) cd_X8_init r 107 [some (.ref 6), none] [] (sa8 s) (ya8 t)) : Ex (Runs (D + 2)) cd_X8_init r 96 [some (.ref 6), none] [] (sa7 s) (ya7 t) := by
  refine Ex_gd 2 (g := mLe (mAdd (ya7 t) 2 12 12) r.2.2) (fun _ => rfl) (by rw [hr]; exact ⟨le_lit rfl, le_lit rfl⟩) ?_
  refine Ex_callN 2 (fun _ => rfl) (T_X3_init D (mAdd (ya7 t) 2 12 12) 34 (mNew (sa7 s) 34) rfl (le_lit rfl)) ⟨le_lit rfl, le_lit rfl⟩ (by rw [hr]; exact ⟨le_lit rfl, le_lit rfl⟩) ?_
  exact Ex_st 1 (fun _ => rfl) e
set_option maxRecDepth 100000 in
theorem X8_s0 (D : Nat) (t : mTX) (s : mSG) (r : mRT) (hr : r.2.2 = YT (LYC t) 5) (e : Ex (Runs (D + 2)) cd_X8_init r 109 [some (.ref 6), some (.int 1)] [] (sh 0 (sa8 s)) (yh 0 (ya8 t))) : Ex (Runs (D + 2)) cd_X8_init r 109 [some (.ref 6), some (.int 0)] [] (sa8 s) (ya8 t) := by
  refine Ex_brF 3 (c := (4 : Int32) ≤ 0) (fun _ => rfl) (by decide) ?_
  refine Ex_gd 4 (g := mLe (mAdd (ya8 t) 3 3 3) r.2.2) (fun _ => rfl) (by rw [hr]; exact ⟨le_lit rfl, le_lit rfl⟩) ?_
  refine Ex_callN 2 (fun _ => rfl) (T_X4_init (D + 1) (mAdd (ya8 t) 3 3 3) 45 (mNew (sa8 s) 45) rfl (le_lit rfl)) ⟨le_lit rfl, le_lit rfl⟩ (by rw [hr]; exact ⟨le_lit rfl, le_lit rfl⟩) ?_
  refine Ex_gd 1 (g := mInb 0 4 = true) (fun _ => rfl) (by decide) ?_
  exact Ex_st 2 (fun _ => rfl) e
set_option maxRecDepth 100000 in
theorem X8_s1 (D : Nat) (t : mTX) (s : mSG) (r : mRT) (hr : r.2.2 = YT (LYC t) 5) (e : Ex (Runs (D + 2)) cd_X8_init r 109 [some (.ref 6), some (.int 2)] [] (sh 1 (sh 0 (sa8 s))) (yh 1 (yh 0 (ya8 t)))) : Ex (Runs (D + 2)) cd_X8_init r 109 [some (.ref 6), some (.int 1)] [] (sh 0 (sa8 s)) (yh 0 (ya8 t)) := by
  refine Ex_brF 3 (c := (4 : Int32) ≤ 1) (fun _ => rfl) (by decide) ?_
  refine Ex_gd 4 (g := mLe (mAdd (yh 0 (ya8 t)) 3 3 3) r.2.2) (fun _ => rfl) (by rw [hr]; exact ⟨le_lit rfl, le_lit rfl⟩) ?_
  refine Ex_callN 2 (fun _ => rfl) (T_X4_init (D + 1) (mAdd (yh 0 (ya8 t)) 3 3 3) 47 (mNew (sh 0 (sa8 s)) 47) rfl (le_lit rfl)) ⟨le_lit rfl, le_lit rfl⟩ (by rw [hr]; exact ⟨le_lit rfl, le_lit rfl⟩) ?_
  refine Ex_gd 1 (g := mInb 1 4 = true) (fun _ => rfl) (by decide) ?_
  exact Ex_st 2 (fun _ => rfl) e
set_option maxRecDepth 100000 in
theorem X8_s2 (D : Nat) (t : mTX) (s : mSG) (r : mRT) (hr : r.2.2 = YT (LYC t) 5) (e : Ex (Runs (D + 2)) cd_X8_init r 109 [some (.ref 6), some (.int 3)] [] (sh 2 (sh 1 (sh 0 (sa8 s)))) (yh 2 (yh 1 (yh 0 (ya8 t))))) : Ex (Runs (D + 2)) cd_X8_init r 109 [some (.ref 6), some (.int 2)] [] (sh 1 (sh 0 (sa8 s))) (yh 1 (yh 0 (ya8 t))) := by
  refine Ex_brF 3 (c := (4 : Int32) ≤ 2) (fun _ => rfl) (by decide) ?_
  refine Ex_gd 4 (g := mLe (mAdd (yh 1 (yh 0 (ya8 t))) 3 3 3) r.2.2) (fun _ => rfl) (by rw [hr]; exact ⟨le_lit rfl, le_lit rfl⟩) ?_
  refine Ex_callN 2 (fun _ => rfl) (T_X4_init (D + 1) (mAdd (yh 1 (yh 0 (ya8 t))) 3 3 3) 49 (mNew (sh 1 (sh 0 (sa8 s))) 49) rfl (le_lit rfl)) ⟨le_lit rfl, le_lit rfl⟩ (by rw [hr]; exact ⟨le_lit rfl, le_lit rfl⟩) ?_
  refine Ex_gd 1 (g := mInb 2 4 = true) (fun _ => rfl) (by decide) ?_
  exact Ex_st 2 (fun _ => rfl) e
set_option maxRecDepth 100000 in
theorem X8_s3 (D : Nat) (t : mTX) (s : mSG) (r : mRT) (hr : r.2.2 = YT (LYC t) 5) (e : Ex (Runs (D + 2)) cd_X8_init r 109 [some (.ref 6), some (.int 4)] [] (sh 3 (sh 2 (sh 1 (sh 0 (sa8 s))))) (yh 3 (yh 2 (yh 1 (yh 0 (ya8 t)))))) : Ex (Runs (D + 2)) cd_X8_init r 109 [some (.ref 6), some (.int 3)] [] (sh 2 (sh 1 (sh 0 (sa8 s)))) (yh 2 (yh 1 (yh 0 (ya8 t)))) := by
  refine Ex_brF 3 (c := (4 : Int32) ≤ 3) (fun _ => rfl) (by decide) ?_
  refine Ex_gd 4 (g := mLe (mAdd (yh 2 (yh 1 (yh 0 (ya8 t)))) 3 3 3) r.2.2) (fun _ => rfl) (by rw [hr]; exact ⟨le_lit rfl, le_lit rfl⟩) ?_
  refine Ex_callN 2 (fun _ => rfl) (T_X4_init (D + 1) (mAdd (yh 2 (yh 1 (yh 0 (ya8 t)))) 3 3 3) 51 (mNew (sh 2 (sh 1 (sh 0 (sa8 s)))) 51) rfl (le_lit rfl)) ⟨le_lit rfl, le_lit rfl⟩ (by rw [hr]; exact ⟨le_lit rfl, le_lit rfl⟩) ?_
  refine Ex_gd 1 (g := mInb 3 4 = true) (fun _ => rfl) (by decide) ?_
  exact Ex_st 2 (fun _ => rfl) e
