/-! THE MODEL'S CONSTRUCTOR -/
/-- at the start no text stands behind the first -/
def tS (l : Nat) : mTX := (l, 0, fun _ => 0)
def ym0 (t : mTX) : mLY := mAdd (YT (LYC t) 5) 8 54 54
def ym1 (t : mTX) : mLY := yG 20 (ym0 t) 56 1 960
def ym2 (t : mTX) : mLY := yG 20 (ym1 t) 56 2 6
def ym3 (t : mTX) : mLY := yG 20 (ym2 t) 56 5 160
def ym4 (t : mTX) : mLY := yG 20 (ym3 t) 56 7 64
def ym5 (t : mTX) : mLY := yG 20 (ym4 t) 56 8 5
def ym6 (t : mTX) : mLY := yG 20 (ym5 t) 56 9 5
def ym7 (t : mTX) : mLY := yG 20 (ym6 t) 56 10 5
def ym8 (t : mTX) : mLY := yG 20 (ym7 t) 56 11 5
def ym9 (t : mTX) : mLY := yG 20 (ym8 t) 56 12 5
def ym10 (t : mTX) : mLY := yG 20 (ym9 t) 56 13 5
def ym11 (t : mTX) : mLY := yG 20 (ym10 t) 56 14 25
def ym12 (t : mTX) : mLY := yG 20 (ym11 t) 56 17 24
def ym13 (t : mTX) : mLY := yG 20 (ym12 t) 56 33 80
def ym14 (t : mTX) : mLY := yG 20 (ym13 t) 56 34 80
def ym15 (t : mTX) : mLY := yG 20 (ym14 t) 56 35 80
def ym16 (t : mTX) : mLY := yG 20 (ym15 t) 56 38 8
def ym17 (t : mTX) : mLY := yG 20 (ym16 t) 56 39 800
def ym18 (t : mTX) : mLY := yG 20 (ym17 t) 56 40 5
def ym19 (t : mTX) : mLY := yG 20 (ym18 t) 56 41 5
def ym20 (t : mTX) : mLY := yG 20 (ym19 t) 56 43 64
def ym21 (t : mTX) : mLY := yG 20 (ym20 t) 56 44 25
def ym22 (t : mTX) : mLY := yG 20 (ym21 t) 56 45 25
def ym23 (t : mTX) : mLY := yG 20 (ym22 t) 56 46 24
def ym24 (t : mTX) : mLY := yG 21 (ym23 t) 56 50 4
def ym25 (t : mTX) : mLY := yG 20 (ym24 t) 56 51 4
def ym26 (t : mTX) : mLY := yG 20 (ym25 t) 56 52 4
def ym27 (t : mTX) : mLY := yG 20 (ym26 t) 56 53 160
def sm1 (s : mSG) : mSG := sI (nw s 57 23) 56 47 (-1)
def sm2 (s : mSG) : mSG := nw (sm1 s) 80 4
set_option maxRecDepth 100000 in
theorem ym_K (t : mTX) : KY t 84 (ym27 t) := by
  have h0 : KY t 53 (LYC t) := by
    rw [← ya9_eq]
    exact ya9_K t
  have h1 : KY t 56 (YT (LYC t) 5) := KY_set (KY_set (KY_add (KY_add (KY_add h0 rfl) rfl) rfl))
  have m0 : KY t 57 (ym0 t) := KY_add h1 rfl
  have m1 : KY t 58 (ym1 t) := KY_G m0 rfl
  have m2 : KY t 59 (ym2 t) := KY_G m1 rfl
  have m3 : KY t 60 (ym3 t) := KY_G m2 rfl
  have m4 : KY t 61 (ym4 t) := KY_G m3 rfl
  have m5 : KY t 62 (ym5 t) := KY_G m4 rfl
  have m6 : KY t 63 (ym6 t) := KY_G m5 rfl
  have m7 : KY t 64 (ym7 t) := KY_G m6 rfl
  have m8 : KY t 65 (ym8 t) := KY_G m7 rfl
  have m9 : KY t 66 (ym9 t) := KY_G m8 rfl
  have m10 : KY t 67 (ym10 t) := KY_G m9 rfl
  have m11 : KY t 68 (ym11 t) := KY_G m10 rfl
  have m12 : KY t 69 (ym12 t) := KY_G m11 rfl
  have m13 : KY t 70 (ym13 t) := KY_G m12 rfl
  have m14 : KY t 71 (ym14 t) := KY_G m13 rfl
  have m15 : KY t 72 (ym15 t) := KY_G m14 rfl
  have m16 : KY t 73 (ym16 t) := KY_G m15 rfl
  have m17 : KY t 74 (ym17 t) := KY_G m16 rfl
  have m18 : KY t 75 (ym18 t) := KY_G m17 rfl
  have m19 : KY t 76 (ym19 t) := KY_G m18 rfl
  have m20 : KY t 77 (ym20 t) := KY_G m19 rfl
  have m21 : KY t 78 (ym21 t) := KY_G m20 rfl
  have m22 : KY t 79 (ym22 t) := KY_G m21 rfl
  have m23 : KY t 80 (ym23 t) := KY_G m22 rfl
  have m24 : KY t 81 (ym24 t) := KY_G m23 rfl
  have m25 : KY t 82 (ym25 t) := KY_G m24 rfl
  have m26 : KY t 83 (ym26 t) := KY_G m25 rfl
  have m27 : KY t 84 (ym27 t) := KY_G m26 rfl
  exact m27
set_option maxRecDepth 100000 in
theorem ym_R (l : Nat) : ∀ a k, (ym27 (tS l)).2.2.2 a k = LRF (tS l) a k
  | 0, _ => rfl
  | 1, _ => rfl
  | 2, _ => rfl
  | 3, _ => rfl
  | 4, _ => rfl
  | 5, _ => rfl
  | 6, 0 => rfl
  | 6, 1 => rfl
  | 6, 2 => rfl
  | 6, 3 => rfl
  | 6, 4 => rfl
  | 6, 5 => rfl
  | 6, 6 => rfl
  | 6, 7 => rfl
  | 6, 8 => rfl
  | 6, 9 => rfl
  | 6, _ + 10 => rfl
  | 7, 0 => rfl
  | 7, 1 => rfl
  | 7, 2 => rfl
  | 7, 3 => rfl
  | 7, _ + 4 => rfl
  | 8, _ => rfl
  | 9, _ => rfl
  | 10, _ => rfl
  | 11, _ => rfl
  | 12, 0 => rfl
  | 12, 1 => rfl
  | 12, 2 => rfl
  | 12, 3 => rfl
  | 12, _ + 4 => rfl
  | 13, _ => rfl
  | 14, _ => rfl
  | 15, _ => rfl
  | 16, _ => rfl
  | 17, 0 => rfl
  | 17, 1 => rfl
  | 17, 2 => rfl
  | 17, 3 => rfl
  | 17, _ + 4 => rfl
  | 18, _ => rfl
  | 19, _ => rfl
  | 20, _ => rfl
  | 21, _ => rfl
  | 22, _ => rfl
  | 23, _ => rfl
  | 24, _ => rfl
  | 25, 0 => rfl
  | 25, 1 => rfl
  | 25, _ + 2 => rfl
  | 26, _ => rfl
  | 27, _ => rfl
  | 28, 0 => rfl
  | 28, 1 => rfl
  | 28, _ + 2 => rfl
  | 29, _ => rfl
  | 30, _ => rfl
  | 31, 0 => rfl
  | 31, 1 => rfl
  | 31, _ + 2 => rfl
  | 32, _ => rfl
  | 33, _ => rfl
  | 34, 0 => rfl
  | 34, 1 => rfl
  | 34, 2 => rfl
  | 34, 3 => rfl
  | 34, 4 => rfl
  | 34, 5 => rfl
  | 34, 6 => rfl
  | 34, 7 => rfl
  | 34, _ + 8 => rfl
  | 35, 0 => rfl
  | 35, _ + 1 => rfl
  | 36, _ => rfl
  | 37, 0 => rfl
  | 37, _ + 1 => rfl
  | 38, _ => rfl
  | 39, _ => rfl
  | 40, _ => rfl
  | 41, _ => rfl
  | 42, _ => rfl
  | 43, _ => rfl
  | 44, _ => rfl
  | 45, 0 => rfl
  | 45, _ + 1 => rfl
  | 46, _ => rfl
  | 47, 0 => rfl
  | 47, _ + 1 => rfl
  | 48, _ => rfl
  | 49, 0 => rfl
  | 49, _ + 1 => rfl
  | 50, _ => rfl
  | 51, 0 => rfl
  | 51, _ + 1 => rfl
  | 52, _ => rfl
  | 53, 0 => rfl
  | 53, 1 => rfl
  | 53, _ + 2 => rfl
  | 54, _ => rfl
  | 55, _ => rfl
  | 56, 0 => rfl
  | 56, 1 => rfl
  | 56, 2 => rfl
  | 56, 3 => rfl
  | 56, 4 => rfl
  | 56, 5 => rfl
  | 56, 6 => rfl
  | 56, 7 => rfl
  | 56, 8 => rfl
  | 56, 9 => rfl
  | 56, 10 => rfl
  | 56, 11 => rfl
  | 56, 12 => rfl
  | 56, 13 => rfl
  | 56, 14 => rfl
  | 56, 15 => rfl
  | 56, 16 => rfl
  | 56, 17 => rfl
  | 56, 18 => rfl
  | 56, 19 => rfl
  | 56, 20 => rfl
  | 56, 21 => rfl
  | 56, 22 => rfl
  | 56, 23 => rfl
  | 56, 24 => rfl
  | 56, 25 => rfl
  | 56, 26 => rfl
  | 56, 27 => rfl
  | 56, 28 => rfl
  | 56, 29 => rfl
  | 56, 30 => rfl
  | 56, 31 => rfl
  | 56, 32 => rfl
  | 56, 33 => rfl
  | 56, 34 => rfl
  | 56, 35 => rfl
  | 56, 36 => rfl
  | 56, 37 => rfl
  | 56, 38 => rfl
  | 56, 39 => rfl
  | 56, 40 => rfl
  | 56, 41 => rfl
  | 56, 42 => rfl
  | 56, 43 => rfl
  | 56, 44 => rfl
  | 56, 45 => rfl
  | 56, 46 => rfl
  | 56, 47 => rfl
  | 56, 48 => rfl
  | 56, 49 => rfl
  | 56, 50 => rfl
  | 56, 51 => rfl
  | 56, 52 => rfl
  | 56, 53 => rfl
  | 56, _ + 54 => rfl
  | 57, _ => rfl
  | 58, _ => rfl
  | 59, _ => rfl
  | 60, _ => rfl
  | 61, _ => rfl
  | 62, _ => rfl
  | 63, _ => rfl
  | 64, _ => rfl
  | 65, _ => rfl
  | 66, _ => rfl
  | 67, _ => rfl
  | 68, _ => rfl
  | 69, _ => rfl
  | 70, _ => rfl
  | 71, _ => rfl
  | 72, _ => rfl
  | 73, _ => rfl
  | 74, _ => rfl
  | 75, _ => rfl
  | 76, _ => rfl
  | 77, _ => rfl
  | 78, _ => rfl
  | 79, _ => rfl
  | 80, _ => rfl
  | 81, _ => rfl
  | 82, _ => rfl
  | 83, _ => rfl
  | a + 84, k => by
    have e : LRF (tS l) (a + 84) k = none := by
      have := LRF_hi (t := tS l) (k := a / 3) (r := a % 3) (j := k) (by omega)
      rw [show 84 + 3 * (a / 3) + a % 3 = a + 84 by omega, if_neg (fun g => absurd g.1 (Nat.not_lt_zero _))] at this
      exact this
    rw [e]
    rfl
set_option maxRecDepth 100000 in
theorem ym_eq (l : Nat) : ym27 (tS l) = LAY (tS l) := by
  have hK := ym_K (tS l)
  refine Prod.ext hK.1 (Prod.ext rfl (Prod.ext (funext fun a => ?_) (funext fun a => funext fun k => ym_R l a k)))
  rw [hK.2 a]
  show _ = LKL (tS l) a
  by_cases q : a < 84
  · rw [if_pos q]
  · have := LKL_hi (t := tS l) (k := (a - 84) / 3) (r := (a - 84) % 3) (by omega)
    rw [show 84 + 3 * ((a - 84) / 3) + (a - 84) % 3 = a by omega, if_neg (show ¬ (a - 84) / 3 < (tS l).2.1 from Nat.not_lt_zero _)] at this
    rw [if_neg q, this]
set_option maxRecDepth 100000 in
theorem X9_a (C : mCT) (t : mTX) (s : mSG) (r : mRT) (hr : r.2.2 = ym27 t) (e : Ex C cd_X9_init r 183 [some (.ref 56)] [] (nw s 57 23) (ym23 t)) : Ex C cd_X9_init r 0 [some (.ref 56)] [] s (ym0 t) := by
  refine Ex_fld 6 20 960 1 8 56 960 (by decide) (by decide) (by decide) (fun _ => rfl) rfl (le_lit rfl) (by rw [hr]; exact ⟨le_lit rfl, le_lit rfl⟩) ?_
  show Ex C cd_X9_init r _ [some (.ref 56)] [] (nw s 57 1) (ym1 t)
  refine Ex_fld 4 20 6 2 8 56 6 (by decide) (by decide) (by decide) (fun _ => rfl) rfl (le_lit rfl) (by rw [hr]; exact ⟨le_lit rfl, le_lit rfl⟩) ?_
  show Ex C cd_X9_init r _ [some (.ref 56)] [] (nw s 57 2) (ym2 t)
  refine Ex_fld 4 20 160 5 8 56 160 (by decide) (by decide) (by decide) (fun _ => rfl) rfl (le_lit rfl) (by rw [hr]; exact ⟨le_lit rfl, le_lit rfl⟩) ?_
  show Ex C cd_X9_init r _ [some (.ref 56)] [] (nw s 57 3) (ym3 t)
  refine Ex_fld 4 20 64 7 8 56 64 (by decide) (by decide) (by decide) (fun _ => rfl) rfl (le_lit rfl) (by rw [hr]; exact ⟨le_lit rfl, le_lit rfl⟩) ?_
  show Ex C cd_X9_init r _ [some (.ref 56)] [] (nw s 57 4) (ym4 t)
  refine Ex_fld 4 20 5 8 8 56 5 (by decide) (by decide) (by decide) (fun _ => rfl) rfl (le_lit rfl) (by rw [hr]; exact ⟨le_lit rfl, le_lit rfl⟩) ?_
  show Ex C cd_X9_init r _ [some (.ref 56)] [] (nw s 57 5) (ym5 t)
  refine Ex_fld 4 20 5 9 8 56 5 (by decide) (by decide) (by decide) (fun _ => rfl) rfl (le_lit rfl) (by rw [hr]; exact ⟨le_lit rfl, le_lit rfl⟩) ?_
  show Ex C cd_X9_init r _ [some (.ref 56)] [] (nw s 57 6) (ym6 t)
  refine Ex_fld 4 20 5 10 8 56 5 (by decide) (by decide) (by decide) (fun _ => rfl) rfl (le_lit rfl) (by rw [hr]; exact ⟨le_lit rfl, le_lit rfl⟩) ?_
  show Ex C cd_X9_init r _ [some (.ref 56)] [] (nw s 57 7) (ym7 t)
  refine Ex_fld 4 20 5 11 8 56 5 (by decide) (by decide) (by decide) (fun _ => rfl) rfl (le_lit rfl) (by rw [hr]; exact ⟨le_lit rfl, le_lit rfl⟩) ?_
  show Ex C cd_X9_init r _ [some (.ref 56)] [] (nw s 57 8) (ym8 t)
  refine Ex_fld 4 20 5 12 8 56 5 (by decide) (by decide) (by decide) (fun _ => rfl) rfl (le_lit rfl) (by rw [hr]; exact ⟨le_lit rfl, le_lit rfl⟩) ?_
  show Ex C cd_X9_init r _ [some (.ref 56)] [] (nw s 57 9) (ym9 t)
  refine Ex_fld 4 20 5 13 8 56 5 (by decide) (by decide) (by decide) (fun _ => rfl) rfl (le_lit rfl) (by rw [hr]; exact ⟨le_lit rfl, le_lit rfl⟩) ?_
  show Ex C cd_X9_init r _ [some (.ref 56)] [] (nw s 57 10) (ym10 t)
  refine Ex_fld 4 20 25 14 8 56 25 (by decide) (by decide) (by decide) (fun _ => rfl) rfl (le_lit rfl) (by rw [hr]; exact ⟨le_lit rfl, le_lit rfl⟩) ?_
  show Ex C cd_X9_init r _ [some (.ref 56)] [] (nw s 57 11) (ym11 t)
  refine Ex_fld 4 20 24 17 8 56 24 (by decide) (by decide) (by decide) (fun _ => rfl) rfl (le_lit rfl) (by rw [hr]; exact ⟨le_lit rfl, le_lit rfl⟩) ?_
  show Ex C cd_X9_init r _ [some (.ref 56)] [] (nw s 57 12) (ym12 t)
  refine Ex_fld 4 20 80 33 8 56 80 (by decide) (by decide) (by decide) (fun _ => rfl) rfl (le_lit rfl) (by rw [hr]; exact ⟨le_lit rfl, le_lit rfl⟩) ?_
  show Ex C cd_X9_init r _ [some (.ref 56)] [] (nw s 57 13) (ym13 t)
  refine Ex_fld 4 20 80 34 8 56 80 (by decide) (by decide) (by decide) (fun _ => rfl) rfl (le_lit rfl) (by rw [hr]; exact ⟨le_lit rfl, le_lit rfl⟩) ?_
  show Ex C cd_X9_init r _ [some (.ref 56)] [] (nw s 57 14) (ym14 t)
  refine Ex_fld 4 20 80 35 8 56 80 (by decide) (by decide) (by decide) (fun _ => rfl) rfl (le_lit rfl) (by rw [hr]; exact ⟨le_lit rfl, le_lit rfl⟩) ?_
  show Ex C cd_X9_init r _ [some (.ref 56)] [] (nw s 57 15) (ym15 t)
  refine Ex_fld 4 20 8 38 8 56 8 (by decide) (by decide) (by decide) (fun _ => rfl) rfl (le_lit rfl) (by rw [hr]; exact ⟨le_lit rfl, le_lit rfl⟩) ?_
  show Ex C cd_X9_init r _ [some (.ref 56)] [] (nw s 57 16) (ym16 t)
  refine Ex_fld 4 20 800 39 8 56 800 (by decide) (by decide) (by decide) (fun _ => rfl) rfl (le_lit rfl) (by rw [hr]; exact ⟨le_lit rfl, le_lit rfl⟩) ?_
  show Ex C cd_X9_init r _ [some (.ref 56)] [] (nw s 57 17) (ym17 t)
  refine Ex_fld 4 20 5 40 8 56 5 (by decide) (by decide) (by decide) (fun _ => rfl) rfl (le_lit rfl) (by rw [hr]; exact ⟨le_lit rfl, le_lit rfl⟩) ?_
  show Ex C cd_X9_init r _ [some (.ref 56)] [] (nw s 57 18) (ym18 t)
  refine Ex_fld 4 20 5 41 8 56 5 (by decide) (by decide) (by decide) (fun _ => rfl) rfl (le_lit rfl) (by rw [hr]; exact ⟨le_lit rfl, le_lit rfl⟩) ?_
  show Ex C cd_X9_init r _ [some (.ref 56)] [] (nw s 57 19) (ym19 t)
  refine Ex_fld 4 20 64 43 8 56 64 (by decide) (by decide) (by decide) (fun _ => rfl) rfl (le_lit rfl) (by rw [hr]; exact ⟨le_lit rfl, le_lit rfl⟩) ?_
  show Ex C cd_X9_init r _ [some (.ref 56)] [] (nw s 57 20) (ym20 t)
  refine Ex_fld 4 20 25 44 8 56 25 (by decide) (by decide) (by decide) (fun _ => rfl) rfl (le_lit rfl) (by rw [hr]; exact ⟨le_lit rfl, le_lit rfl⟩) ?_
  show Ex C cd_X9_init r _ [some (.ref 56)] [] (nw s 57 21) (ym21 t)
  refine Ex_fld 4 20 25 45 8 56 25 (by decide) (by decide) (by decide) (fun _ => rfl) rfl (le_lit rfl) (by rw [hr]; exact ⟨le_lit rfl, le_lit rfl⟩) ?_
  show Ex C cd_X9_init r _ [some (.ref 56)] [] (nw s 57 22) (ym22 t)
  refine Ex_fld 4 20 24 46 8 56 24 (by decide) (by decide) (by decide) (fun _ => rfl) rfl (le_lit rfl) (by rw [hr]; exact ⟨le_lit rfl, le_lit rfl⟩) ?_
  show Ex C cd_X9_init r _ [some (.ref 56)] [] (nw s 57 23) (ym23 t)
  exact e
set_option maxRecDepth 100000 in
theorem X9_b (C : mCT) (t : mTX) (s : mSG) (r : mRT) (hr : r.2.2 = ym27 t) (e : Ex C cd_X9_init r 218 [some (.ref 56)] [] (sm2 s) (ym27 t)) : Ex C cd_X9_init r 183 [some (.ref 56)] [] (nw s 57 23) (ym23 t) := by
  refine Ex_st 3 (fun _ => rfl) (show Ex C cd_X9_init r 188 [some (.ref 56)] [] (sm1 s) (ym23 t) from ?_)
  refine Ex_fld 4 21 4 50 8 56 4 (by decide) (by decide) (by decide) (fun _ => rfl) rfl (le_lit rfl) (by rw [hr]; exact ⟨le_lit rfl, le_lit rfl⟩) ?_
  show Ex C cd_X9_init r _ [some (.ref 56)] [] (nw (sm1 s) 80 1) (ym24 t)
  refine Ex_fld 4 20 4 51 8 56 4 (by decide) (by decide) (by decide) (fun _ => rfl) rfl (le_lit rfl) (by rw [hr]; exact ⟨le_lit rfl, le_lit rfl⟩) ?_
  show Ex C cd_X9_init r _ [some (.ref 56)] [] (nw (sm1 s) 80 2) (ym25 t)
  refine Ex_fld 4 20 4 52 8 56 4 (by decide) (by decide) (by decide) (fun _ => rfl) rfl (le_lit rfl) (by rw [hr]; exact ⟨le_lit rfl, le_lit rfl⟩) ?_
  show Ex C cd_X9_init r _ [some (.ref 56)] [] (nw (sm1 s) 80 3) (ym26 t)
  refine Ex_fld 4 20 160 53 8 56 160 (by decide) (by decide) (by decide) (fun _ => rfl) rfl (le_lit rfl) (by rw [hr]; exact ⟨le_lit rfl, le_lit rfl⟩) ?_
  show Ex C cd_X9_init r _ [some (.ref 56)] [] (nw (sm1 s) 80 4) (ym27 t)
  exact e
def spl8 (s : mSG) (m : Nat) (x0 x1 x2 x3 x4 x5 x6 x7 : Int32) : mSG := sI (sI (sI (sI (sI (sI (sI (sI s 57 m x0) 57 (m + 1) x1) 57 (m + 2) x2) 57 (m + 3) x3) 57 (m + 4) x4) 57 (m + 5) x5) 57 (m + 6) x6) 57 (m + 7) x7
def sq0 (s : mSG) : mSG := spl8 s 0 119 97 110 116 115 32 48 32
def sq1 (s : mSG) : mSG := spl8 (sq0 s) 8 59 32 116 97 107 101 115 32
def sq2 (s : mSG) : mSG := spl8 (sq1 s) 16 119 101 116 32 59 32 108 101
def sq3 (s : mSG) : mSG := spl8 (sq2 s) 24 110 100 115 32 49 32 43 32
def sq4 (s : mSG) : mSG := spl8 (sq3 s) 32 114 97 105 110 32 59 32 32
set_option maxRecDepth 100000 in
theorem sq_e0 (s : mSG) : X9_spell 0 119 97 110 116 115 32 48 32 s = some (sq0 s) := rfl
set_option maxRecDepth 100000 in
theorem sq_e1 (s : mSG) : X9_spell 8 59 32 116 97 107 101 115 32 (sq0 s) = some (sq1 s) := rfl
set_option maxRecDepth 100000 in
theorem sq_e2 (s : mSG) : X9_spell 16 119 101 116 32 59 32 108 101 (sq1 s) = some (sq2 s) := rfl
set_option maxRecDepth 100000 in
theorem sq_e3 (s : mSG) : X9_spell 24 110 100 115 32 49 32 43 32 (sq2 s) = some (sq3 s) := rfl
set_option maxRecDepth 100000 in
theorem sq_e4 (s : mSG) : X9_spell 32 114 97 105 110 32 59 32 32 (sq3 s) = some (sq4 s) := rfl
set_option maxRecDepth 100000 in
theorem sq_at (s : mSG) : ∀ j, j < 40 → (sq4 s).1 57 j = nI (ruB j)
  | 0, _ => rfl
  | 1, _ => rfl
  | 2, _ => rfl
  | 3, _ => rfl
  | 4, _ => rfl
  | 5, _ => rfl
  | 6, _ => rfl
  | 7, _ => rfl
  | 8, _ => rfl
  | 9, _ => rfl
  | 10, _ => rfl
  | 11, _ => rfl
  | 12, _ => rfl
  | 13, _ => rfl
  | 14, _ => rfl
  | 15, _ => rfl
  | 16, _ => rfl
  | 17, _ => rfl
  | 18, _ => rfl
  | 19, _ => rfl
  | 20, _ => rfl
  | 21, _ => rfl
  | 22, _ => rfl
  | 23, _ => rfl
  | 24, _ => rfl
  | 25, _ => rfl
  | 26, _ => rfl
  | 27, _ => rfl
  | 28, _ => rfl
  | 29, _ => rfl
  | 30, _ => rfl
  | 31, _ => rfl
  | 32, _ => rfl
  | 33, _ => rfl
  | 34, _ => rfl
  | 35, _ => rfl
  | 36, _ => rfl
  | 37, _ => rfl
  | 38, _ => rfl
  | 39, _ => rfl
  | j + 40, h => absurd h (by omega)
theorem spl_off {s : mSG} {m a : Nat} {x0 x1 x2 x3 x4 x5 x6 x7 : Int32} (h : a ≠ 57) : (spl8 s m x0 x1 x2 x3 x4 x5 x6 x7).1 a = s.1 a := by
  funext j
  unfold spl8
  rw [sI_adr h, sI_adr h, sI_adr h, sI_adr h, sI_adr h, sI_adr h, sI_adr h, sI_adr h]
theorem sq_off (s : mSG) {a : Nat} (h : a ≠ 57) : (sq4 s).1 a = s.1 a := by
  unfold sq4 sq3 sq2 sq1 sq0
  rw [spl_off h, spl_off h, spl_off h, spl_off h, spl_off h]
set_option maxRecDepth 100000 in
theorem T_X9_init (D l : Nat) (s : mSG) : Runs (D + 2) 127 [.ref 56] s (ym0 (tS l)) (none, sI (sI (sq4 (sm2 s)) 58 0 40) 56 3 1, LAY (tS l)) := by
  refine Runs_mk (d := D + 1) rfl ?_
  rw [← ym_eq]
  show Ex (Runs (D + 1)) cd_X9_init (none, sI (sI (sq4 (sm2 s)) 58 0 40) 56 3 1, ym27 (tS l)) 0 [some (.ref 56)] [] s (ym0 (tS l))
  refine X9_a _ _ _ _ rfl (X9_b _ _ _ _ rfl ?_)
  rw [ym_eq]
  refine Ex_call 11 (fun _ => rfl) (T_X9_spell D (tS l) 0 119 97 110 116 115 32 48 32 _ _ (sq_e0 (sm2 s))) rfl rfl ?_
  refine Ex_call 11 (fun _ => rfl) (T_X9_spell D (tS l) 8 59 32 116 97 107 101 115 32 _ _ (sq_e1 (sm2 s))) rfl rfl ?_
  refine Ex_call 11 (fun _ => rfl) (T_X9_spell D (tS l) 16 119 101 116 32 59 32 108 101 _ _ (sq_e2 (sm2 s))) rfl rfl ?_
  refine Ex_call 11 (fun _ => rfl) (T_X9_spell D (tS l) 24 110 100 115 32 49 32 43 32 _ _ (sq_e3 (sm2 s))) rfl rfl ?_
  refine Ex_call 11 (fun _ => rfl) (T_X9_spell D (tS l) 32 114 97 105 110 32 59 32 32 _ _ (sq_e4 (sm2 s))) rfl rfl ?_
  refine Ex_gd 5 (g := mInb 0 6 = true) (fun _ => rfl) (by decide) ?_
  exact Ex_ret 4 (fun _ => rfl) rfl
