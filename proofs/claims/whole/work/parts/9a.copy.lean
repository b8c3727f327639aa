/-! A TEXT THAT IS MADE -/
theorem mKl_at {Y : mLY} {kd len sl : Nat} : mKl (mAdd Y kd len sl) Y.1 = (kd, len) := if_pos rfl
theorem mKl_off {Y : mLY} {kd len sl a : Nat} (h : a ≠ Y.1) : mKl (mAdd Y kd len sl) a = mKl Y a := if_neg h
theorem mUr_at {α : Type} {f : Nat → Nat → α} {a : Nat} {g : Nat → α} : mUr f a g a = g := if_pos rfl
theorem mUr_off {α : Type} {f : Nat → Nat → α} {a b : Nat} {g : Nat → α} (h : b ≠ a) : mUr f a g b = f b := if_neg h
theorem mUr_ur {α : Type} {f : Nat → Nat → α} {a : Nat} {g h : Nat → α} : mUr (mUr f a g) a h = mUr f a h := by
  funext b
  by_cases q : b = a
  · subst q; rw [mUr_at, mUr_at]
  · rw [mUr_off q, mUr_off q, mUr_off q]
theorem mAdd_le {Y : mLY} {kd len sl : Nat} : mLe Y (mAdd Y kd len sl) := ⟨Nat.le_succ _, Nat.le_add_right _ _⟩
theorem mLe_tr {X Y Z : mLY} (h : mLe X Y) (h' : mLe Y Z) : mLe X Z := ⟨Nat.le_trans h.1 h'.1, Nat.le_trans h.2 h'.2⟩
theorem T_minY (D : Nat) (Y : mLY) (x0 x1 : Int32) (s : mSG) : Runs (D + 1) 226 [.int x0, .int x1] s Y (some (.int (J9_min x0 x1)), s, Y) := by
  refine Runs_mk (d := D) rfl ?_
  show Ex (Runs D) cd_J9_min_7cf53 (some (.int (J9_min x0 x1)), s, Y) 0 [some (.int x0), some (.int x1)] [] s Y
  unfold J9_min
  refine Ex_br 3 (x1 < x0) (fun _ => rfl) (fun hc => ?_) (fun hc => ?_)
  · rw [if_pos hc]; exact Ex_ret 2 (fun _ => rfl) rfl
  · rw [if_neg hc]; exact Ex_ret 3 (fun _ => rfl) rfl
theorem T_copyOf (D : Nat) (Y : mLY) (a m len : Nat) (s : mSG) (hk : mKl Y a = (20, len)) (ha : a ≠ Y.1) (hm : m ≤ len) (hl : len ≤ 1000) : ∃ g : Nat → Int32, (∀ j, j < m → g j = s.1 a j) ∧ Runs (D + 2) 238 [.ref a, .int (nI m)] s Y (some (.ref Y.1), (mUr s.1 Y.1 g, (mNew s Y.1).2), mAdd Y 20 m m) := by
  by_cases q : m = len
  · subst q
    refine ⟨s.1 a, fun _ _ => rfl, ?_⟩
    refine Runs_mk (d := D + 1) rfl ?_
    show Ex (Runs (D + 1)) cd_J7_copyOf_59c91 (some (.ref Y.1), (mUr s.1 Y.1 (s.1 a), (mNew s Y.1).2), mAdd Y 20 m m) 0 [some (.ref a), some (.int (nI m)), none] [] s Y
    refine Ex_st (pc' := 3) (L' := [some (.ref a), some (.int (nI m)), none]) (S' := [.int (Int32.ofNat m), .int (nI m)]) (s' := s) (Y' := Y) 3 (fun f => ?_) ?_
    · show (if 20 ≤ (mKl Y a).1 ∧ (mKl Y a).1 < 24 then mEx (Runs (D + 1)) cd_J7_copyOf_59c91 _ f 3 _ [.int (Int32.ofNat (mKl Y a).2), .int (nI m)] s Y else _) = _
      rw [hk]
      rfl
    refine Ex_brT 1 (c := nI m = Int32.ofNat m) (fun _ => rfl) rfl ?_
    refine Ex_ifgg 2 (c := (mKl Y a).1 = 20) (g := mLe (mAdd Y 20 (mKl Y a).2 (mKl Y a).2) (mAdd Y 20 m m)) (fun _ => rfl) (by rw [hk]) (by rw [hk]; exact mLe_refl _) (by decide) ?_
    rw [hk]
    refine Ex_if 1 (c := (mKl (mAdd Y 20 m m) Y.1).1 = 20) (fun _ => rfl) (by rw [mKl_at]) ?_
    exact Ex_ret 1 (fun _ => rfl) rfl
  · have cl : (nI m).toNatClampNeg = m := nl_cl (by omega)
    have mn : J9_min (Int32.ofNat len) (nI m) = nI m := by
      unfold J9_min
      rw [if_pos (show nI m < Int32.ofNat len from nI_lt (b := len) (by omega) (by omega))]
    have ko : mKl (mAdd Y 20 m m) a = (20, len) := by rw [mKl_off ha, hk]
    refine ⟨va_cpy ((mNew s Y.1).1 a) ((mNew s Y.1).1 Y.1) 0 0 m, fun j hj => ?_, ?_⟩
    · rw [pk_cpy_in (Nat.zero_le j) (by omega)]
      show mUr s.1 Y.1 (fun _ => 0) a (0 + (j - 0)) = _
      rw [mUr_off ha, Nat.sub_zero, Nat.zero_add]
    refine Runs_mk (d := D + 1) rfl ?_
    show Ex (Runs (D + 1)) cd_J7_copyOf_59c91 (some (.ref Y.1), (mUr s.1 Y.1 (va_cpy ((mNew s Y.1).1 a) ((mNew s Y.1).1 Y.1) 0 0 m), (mNew s Y.1).2), mAdd Y 20 m m) 0 [some (.ref a), some (.int (nI m)), none] [] s Y
    refine Ex_st (pc' := 3) (L' := [some (.ref a), some (.int (nI m)), none]) (S' := [.int (Int32.ofNat len), .int (nI m)]) (s' := s) (Y' := Y) 3 (fun f => ?_) ?_
    · show (if 20 ≤ (mKl Y a).1 ∧ (mKl Y a).1 < 24 then mEx (Runs (D + 1)) cd_J7_copyOf_59c91 _ f 3 _ [.int (Int32.ofNat (mKl Y a).2), .int (nI m)] s Y else _) = _
      rw [hk]
      rfl
    refine Ex_brF 1 (c := nI m = Int32.ofNat len) (fun _ => rfl) (fun g => q (by have := (nl_eq (a := m) (b := len) (by omega) (by omega)).mp g; exact this)) ?_
    refine Ex_gd 2 (g := ¬ nI m < 0 ∧ (nI m).toNatClampNeg ≤ 100000 ∧ mLe (mAdd Y 20 (nI m).toNatClampNeg (nI m).toNatClampNeg) (mAdd Y 20 m m)) (fun _ => rfl) ⟨nI_pos (by omega), by rw [cl]; omega, by rw [cl]; exact mLe_refl _⟩ ?_
    rw [cl]
    refine Ex_st (pc' := 24) (L' := [some (.ref a), some (.int (nI m)), some (.ref Y.1)]) (S' := [.int (Int32.ofNat len), .int 0, .ref Y.1, .int 0, .ref a]) (s' := mNew s Y.1) (Y' := mAdd Y 20 m m) 7 (fun f => ?_) ?_
    · show (if 20 ≤ (mKl (mAdd Y 20 m m) a).1 ∧ (mKl (mAdd Y 20 m m) a).1 < 24 then mEx (Runs (D + 1)) cd_J7_copyOf_59c91 _ f 24 _ (.int (Int32.ofNat (mKl (mAdd Y 20 m m) a).2) :: _) _ _ else _) = _
      rw [ko]
      rfl
    refine Ex_callN 2 (fun _ => rfl) (T_minY D (mAdd Y 20 m m) (Int32.ofNat len) (nI m) (mNew s Y.1)) (mLe_refl _) (mLe_refl _) ?_
    rw [mn]
    refine Ex_ifgg 1 (c := (mKl (mAdd Y 20 m m) a).1 = 20 ∧ (mKl (mAdd Y 20 m m) Y.1).1 = 20) (fun _ => rfl) (by rw [ko, mKl_at]; exact ⟨rfl, rfl⟩) (by rw [ko, mKl_at, cl]; exact ⟨by decide, by decide, nI_pos (by omega), by show 0 + m ≤ len; omega, by show 0 + m ≤ m; omega⟩) (by decide) ?_
    refine Ex_ret 2 (fun _ => rfl) ?_
    rw [cl]
    show (some (Value.ref Y.1), (mUr s.1 Y.1 _, _), _) = (some (Value.ref Y.1), (mUr (mUr s.1 Y.1 (fun _ => 0)) Y.1 _, _), _)
    rw [mUr_ur]
    rfl
