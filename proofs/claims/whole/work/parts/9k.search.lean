/-! CONSTRUCTORS: the search -/
theorem yG_off {kd : Nat} {Y : mLY} {a b k n : Nat} (h : a ≠ Y.1) : mKl (yG kd Y b k n) a = mKl Y a := if_neg h
/-- a field that is a Ways -/
def yW (Y : mLY) (a k : Nat) : mLY := mSetF (yX7 (mAdd Y 6 2 2) Y.1) a k Y.1
theorem yW_k {Y : mLY} {a k ci : Nat} (h : (mKl Y a).1 = ci) (ha : a < Y.1) : (mKl (yW Y a k) a).1 = ci := by
  show (mKl (yG 20 (mAdd Y 6 2 2) Y.1 0 640) a).1 = ci
  rw [yG_off (show a ≠ Y.1 + 1 by omega), mKl_off (by omega)]
  exact h
theorem yW_lt {Y : mLY} {a k : Nat} (ha : a < Y.1) : a < (yW Y a k).1 := by
  show a < Y.1 + 1 + 1
  omega
theorem Ex_ways {C : mCT} {cd : Nat → mSem} {r : mRT} {pc pc1 pc2 : Nat} {L : mLV} {s : mSG} {Y : mLY} (D kk k ci a : Nat) (hC : C = Runs (D + 1)) (h : ∀ f, mEx C cd r (f + kk) pc L [] s Y = (mLe (mAdd Y 6 2 2) r.2.2 ∧ mEx C cd r f pc1 L [.ref Y.1, .ref a] (mNew s Y.1) (mAdd Y 6 2 2))) (h1 : ∀ f s Y b, mEx C cd r (f + 2) pc1 L [.ref b, .ref a] s Y = (if (mKl Y b).1 = 6 ∧ (([Value.ref b, .ref a]).map Value.category).sum ≤ 8 then (∃ q : mRT, C 73 [.ref b] s Y q ∧ (mLe Y q.2.2 ∧ mLe q.2.2 r.2.2) ∧ mEx C cd r f pc2 L (q.1.toList ++ [.ref b, .ref a]) q.2.1 q.2.2) else False)) (h2 : ∀ f s Y b, mEx C cd r (f + 1) pc2 L [.ref b, .ref a] s Y = (if (mKl Y a).1 = ci then mEx C cd r f (pc2 + 3) L [] s (mSetF Y a k b) else False)) (hk : (mKl Y a).1 = ci) (ha : a < Y.1) (hl : mLe (yW Y a k) r.2.2) (e : Ex C cd r (pc2 + 3) L [] (nw s Y.1 2) (yW Y a k)) : Ex C cd r pc L [] s Y := by
  subst hC
  refine Ex_gd kk h ⟨Nat.le_trans (Nat.le_succ _) hl.1, Nat.le_trans (Nat.le_add_right _ _) hl.2⟩ ?_
  refine Ex_callKN (rest := [.ref Y.1, .ref a]) 2 (fun f => h1 f _ _ _) ⟨by rw [mKl_at], Nat.le_of_ble_eq_true rfl⟩ (T_X7_init D (mAdd Y 6 2 2) Y.1 (mNew s Y.1) (by rw [mKl_at]) (Nat.lt_succ_self _)) yG_le hl ?_
  refine Ex_if 1 (fun f => h2 f _ _ _) (yW_k (k := k) hk ha) ?_
  exact e
def yX3 (Y : mLY) (a : Nat) : mLY := yG 20 (yG 20 (yG 20 (yG 20 (yG 20 (yG 20 (yW (yW Y a 0) a 1) a 2 8) a 3 8) a 4 8) a 5 8) a 6 64) a 7 64
theorem T_X3_init (D : Nat) (Y : mLY) (a : Nat) (s : mSG) (hk : (mKl Y a).1 = 2) (ha : a < Y.1) : Runs (D + 2) 32 [.ref a] s Y (none, sI (sI (nw s Y.1 10) a 8 (-1)) a 9 (-1), yX3 Y a) := by
  have k1 := yW_k (k := 0) hk ha
  have l1 := yW_lt (k := 0) ha
  have k2 := yW_k (k := 1) k1 l1
  have l2 := yW_lt (k := 1) l1
  have k3 := yG_k (kd := 20) (k := 2) (n := 8) k2 l2
  have l3 := yG_lt (kd := 20) (k := 2) (n := 8) l2
  have k4 := yG_k (kd := 20) (k := 3) (n := 8) k3 l3
  have l4 := yG_lt (kd := 20) (k := 3) (n := 8) l3
  have k5 := yG_k (kd := 20) (k := 4) (n := 8) k4 l4
  have l5 := yG_lt (kd := 20) (k := 4) (n := 8) l4
  have k6 := yG_k (kd := 20) (k := 5) (n := 8) k5 l5
  have l6 := yG_lt (kd := 20) (k := 5) (n := 8) l5
  have k7 := yG_k (kd := 20) (k := 6) (n := 64) k6 l6
  have l7 := yG_lt (kd := 20) (k := 6) (n := 64) l6
  have k8 := yG_k (kd := 20) (k := 7) (n := 64) k7 l7
  have e1 : (yX3 Y a).1 = Y.1 + 10 := rfl
  have e2 : (yX3 Y a).2.1 = Y.2.1 + 2 + 640 + 2 + 640 + 8 + 8 + 8 + 8 + 64 + 64 := rfl
  refine Runs_mk (d := D + 1) rfl ?_
  show Ex (Runs (D + 1)) cd_X3_init (none, sI (sI (nw s Y.1 10) a 8 (-1)) a 9 (-1), yX3 Y a) 0 [some (.ref a)] [] s Y
  refine Ex_ways (pc1 := 8) (pc2 := 12) D 4 0 2 a rfl (fun _ => rfl) (fun _ _ _ _ => rfl) (fun _ _ _ _ => rfl) hk ha ⟨by show Y.1 + 1 + 1 ≤ (yX3 Y a).1; omega, by show Y.2.1 + 2 + 640 ≤ (yX3 Y a).2.1; omega⟩ ?_
  refine Ex_ways (pc1 := 19) (pc2 := 23) D 2 1 2 a rfl (fun _ => rfl) (fun _ _ _ _ => rfl) (fun _ _ _ _ => rfl) k1 l1 ⟨by show Y.1 + 1 + 1 + 1 + 1 ≤ (yX3 Y a).1; omega, by show Y.2.1 + 2 + 640 + 2 + 640 ≤ (yX3 Y a).2.1; omega⟩ ?_
  refine Ex_fld 4 20 8 2 2 a 8 (by decide) (by decide) (by decide) (fun _ => rfl) k2 l2 ⟨by show Y.1 + 1 + 1 + 1 + 1 + 1 ≤ (yX3 Y a).1; omega, by show Y.2.1 + 2 + 640 + 2 + 640 + 8 ≤ (yX3 Y a).2.1; omega⟩ ?_
  refine Ex_fld 4 20 8 3 2 a 8 (by decide) (by decide) (by decide) (fun _ => rfl) k3 l3 ⟨by show Y.1 + 1 + 1 + 1 + 1 + 1 + 1 ≤ (yX3 Y a).1; omega, by show Y.2.1 + 2 + 640 + 2 + 640 + 8 + 8 ≤ (yX3 Y a).2.1; omega⟩ ?_
  refine Ex_fld 4 20 8 4 2 a 8 (by decide) (by decide) (by decide) (fun _ => rfl) k4 l4 ⟨by show Y.1 + 1 + 1 + 1 + 1 + 1 + 1 + 1 ≤ (yX3 Y a).1; omega, by show Y.2.1 + 2 + 640 + 2 + 640 + 8 + 8 + 8 ≤ (yX3 Y a).2.1; omega⟩ ?_
  refine Ex_fld 4 20 8 5 2 a 8 (by decide) (by decide) (by decide) (fun _ => rfl) k5 l5 ⟨by show Y.1 + 1 + 1 + 1 + 1 + 1 + 1 + 1 + 1 ≤ (yX3 Y a).1; omega, by show Y.2.1 + 2 + 640 + 2 + 640 + 8 + 8 + 8 + 8 ≤ (yX3 Y a).2.1; omega⟩ ?_
  refine Ex_fld 4 20 64 6 2 a 64 (by decide) (by decide) (by decide) (fun _ => rfl) k6 l6 ⟨by show Y.1 + 1 + 1 + 1 + 1 + 1 + 1 + 1 + 1 + 1 ≤ (yX3 Y a).1; omega, by show Y.2.1 + 2 + 640 + 2 + 640 + 8 + 8 + 8 + 8 + 64 ≤ (yX3 Y a).2.1; omega⟩ ?_
  refine Ex_fld 4 20 64 7 2 a 64 (by decide) (by decide) (by decide) (fun _ => rfl) k7 l7 (mLe_refl _) ?_
  refine Ex_if 3 (c := (mKl (yX3 Y a) a).1 = 2) (fun _ => rfl) k8 ?_
  refine Ex_if 3 (c := (mKl (yX3 Y a) a).1 = 2) (fun _ => rfl) k8 ?_
  exact Ex_ret 1 (fun _ => rfl) rfl
