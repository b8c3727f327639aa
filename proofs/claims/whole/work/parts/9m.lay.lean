/-! THE LAYOUT WHILE THE PROGRAM IS BEING MADE -/
def KY (t : mTX) (n : Nat) (Y : mLY) : Prop := Y.1 = n ∧ ∀ a, Y.2.2.1 a = if a < n then LKL t a else (99, 0)
theorem KY_add {t : mTX} {n kd len sl : Nat} {Y : mLY} (h : KY t n Y) (hk : LKL t n = (kd, len)) : KY t (n + 1) (mAdd Y kd len sl) := by
  obtain ⟨h1, h2⟩ := h
  refine ⟨by show Y.1 + 1 = n + 1; rw [h1], fun a => ?_⟩
  show (if a = Y.1 then (kd, len) else Y.2.2.1 a) = _
  rw [h1, h2 a]
  by_cases q : a = n
  · subst q
    rw [if_pos rfl, if_pos (by omega), hk]
  · rw [if_neg q]
    by_cases q1 : a < n
    · rw [if_pos q1, if_pos (by omega)]
    · rw [if_neg q1, if_neg (by omega)]
theorem KY_set {t : mTX} {n a k b : Nat} {Y : mLY} (h : KY t n Y) : KY t n (mSetF Y a k b) := h
theorem KY_G {t : mTX} {n kd a k m : Nat} {Y : mLY} (h : KY t n Y) (hk : LKL t n = (kd, m)) : KY t (n + 1) (yG kd Y a k m) := KY_set (KY_add h hk)
theorem KY_0 (t : mTX) : KY t 6 (LY0 t) := by
  refine ⟨rfl, fun a => ?_⟩
  show (bif Nat.ble a 5 then LKL t a else (99, 0)) = _
  by_cases q : a < 6
  · rw [ble_y (show a ≤ 5 by omega), if_pos q]; rfl
  · rw [ble_n (show 5 < a by omega), if_neg q]; rfl
set_option maxRecDepth 100000 in
theorem ya9_K (t : mTX) : KY t 53 (ya9 t) := by
  have a0 : KY t 7 (ya0 t) := KY_add (KY_0 t) rfl
  have a1 : KY t 8 (mAdd (ya0 t) 4 7 7) := KY_add a0 rfl
  have b1 : KY t 12 (ya1 t) := KY_set (KY_G (KY_G (KY_G (KY_G a1 rfl) rfl) rfl) rfl)
  have a2 : KY t 13 (mAdd (ya1 t) 4 7 7) := KY_add b1 rfl
  have b2 : KY t 17 (ya2 t) := KY_set (KY_G (KY_G (KY_G (KY_G a2 rfl) rfl) rfl) rfl)
  have a3 : KY t 18 (mAdd (ya2 t) 4 7 7) := KY_add b2 rfl
  have b3 : KY t 22 (ya3 t) := KY_set (KY_G (KY_G (KY_G (KY_G a3 rfl) rfl) rfl) rfl)
  have b4 : KY t 25 (ya4 t) := KY_G (KY_G (KY_G b3 rfl) rfl) rfl
  have a5 : KY t 26 (mAdd (ya4 t) 1 9 9) := KY_add b4 rfl
  have b5 : KY t 28 (ya5 t) := KY_set (KY_G (KY_G a5 rfl) rfl)
  have a6 : KY t 29 (mAdd (ya5 t) 0 9 9) := KY_add b5 rfl
  have b6 : KY t 31 (ya6 t) := KY_set (KY_G (KY_G a6 rfl) rfl)
  have a7 : KY t 32 (mAdd (ya6 t) 0 9 9) := KY_add b6 rfl
  have b7 : KY t 34 (ya7 t) := KY_set (KY_G (KY_G a7 rfl) rfl)
  have a8 : KY t 35 (mAdd (ya7 t) 2 12 12) := KY_add b7 rfl
  have b8 : KY t 45 (ya8 t) := KY_set (KY_G (KY_G (KY_G (KY_G (KY_G (KY_G (KY_set (KY_G (KY_add (KY_set (KY_G (KY_add a8 rfl) rfl)) rfl) rfl)) rfl) rfl) rfl) rfl) rfl) rfl)
  have s0 : KY t 47 (yh 0 (ya8 t)) := KY_G (KY_add b8 rfl) rfl
  have s1 : KY t 49 (yh 1 (yh 0 (ya8 t))) := KY_G (KY_add s0 rfl) rfl
  have s2 : KY t 51 (yh 2 (yh 1 (yh 0 (ya8 t)))) := KY_G (KY_add s1 rfl) rfl
  have s3 : KY t 53 (yh 3 (yh 2 (yh 1 (yh 0 (ya8 t))))) := KY_G (KY_add s2 rfl) rfl
  exact s3
set_option maxRecDepth 100000 in
theorem ya9_R (t : mTX) : ∀ a k, (ya9 t).2.2.2 a k = (LYC t).2.2.2 a k
  | 0, _ => rfl
  | 1, _ => rfl
  | 2, _ => rfl
  | 3, _ => rfl
  | 4, _ => rfl
  | 5, _ => rfl
  | 6, 0 => rfl
  | 6, 1 => rfl
  | 6, 2 => rfl
  | 6, 3 => rfl
  | 6, 4 => rfl
  | 6, 5 => rfl
  | 6, 6 => rfl
  | 6, 7 => rfl
  | 6, 8 => rfl
  | 6, 9 => rfl
  | 6, _ + 10 => rfl
  | 7, 0 => rfl
  | 7, 1 => rfl
  | 7, 2 => rfl
  | 7, 3 => rfl
  | 7, _ + 4 => rfl
  | 8, _ => rfl
  | 9, _ => rfl
  | 10, _ => rfl
  | 11, _ => rfl
  | 12, 0 => rfl
  | 12, 1 => rfl
  | 12, 2 => rfl
  | 12, 3 => rfl
  | 12, _ + 4 => rfl
  | 13, _ => rfl
  | 14, _ => rfl
  | 15, _ => rfl
  | 16, _ => rfl
  | 17, 0 => rfl
  | 17, 1 => rfl
  | 17, 2 => rfl
  | 17, 3 => rfl
  | 17, _ + 4 => rfl
  | 18, _ => rfl
  | 19, _ => rfl
  | 20, _ => rfl
  | 21, _ => rfl
  | 22, _ => rfl
  | 23, _ => rfl
  | 24, _ => rfl
  | 25, 0 => rfl
  | 25, 1 => rfl
  | 25, _ + 2 => rfl
  | 26, _ => rfl
  | 27, _ => rfl
  | 28, 0 => rfl
  | 28, 1 => rfl
  | 28, _ + 2 => rfl
  | 29, _ => rfl
  | 30, _ => rfl
  | 31, 0 => rfl
  | 31, 1 => rfl
  | 31, _ + 2 => rfl
  | 32, _ => rfl
  | 33, _ => rfl
  | 34, 0 => rfl
  | 34, 1 => rfl
  | 34, 2 => rfl
  | 34, 3 => rfl
  | 34, 4 => rfl
  | 34, 5 => rfl
  | 34, 6 => rfl
  | 34, 7 => rfl
  | 34, _ + 8 => rfl
  | 35, 0 => rfl
  | 35, _ + 1 => rfl
  | 36, _ => rfl
  | 37, 0 => rfl
  | 37, _ + 1 => rfl
  | 38, _ => rfl
  | 39, _ => rfl
  | 40, _ => rfl
  | 41, _ => rfl
  | 42, _ => rfl
  | 43, _ => rfl
  | 44, _ => rfl
  | 45, 0 => rfl
  | 45, _ + 1 => rfl
  | 46, _ => rfl
  | 47, 0 => rfl
  | 47, _ + 1 => rfl
  | 48, _ => rfl
  | 49, 0 => rfl
  | 49, _ + 1 => rfl
  | 50, _ => rfl
  | 51, 0 => rfl
  | 51, _ + 1 => rfl
  | 52, _ => rfl
  | _ + 53, _ => rfl
set_option maxRecDepth 100000 in
theorem ya9_eq (t : mTX) : ya9 t = LYC t := by
  have hK := ya9_K t
  refine Prod.ext hK.1 (Prod.ext rfl (Prod.ext (funext fun a => ?_) (funext fun a => funext fun k => ya9_R t a k)))
  rw [hK.2 a]
  show _ = (bif Nat.ble a 52 then LKL t a else (99, 0))
  by_cases q : a < 53
  · rw [ble_y (show a ≤ 52 by omega), if_pos q]; rfl
  · rw [ble_n (show 52 < a by omega), if_neg q]; rfl
