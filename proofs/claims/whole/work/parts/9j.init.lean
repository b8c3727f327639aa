/-! CONSTRUCTORS: the small ones -/
/-- a field that is an array -/
def yG (kd : Nat) (Y : mLY) (a k n : Nat) : mLY := mSetF (mAdd Y kd n n) a k Y.1
def nw (s : mSG) (b : Nat) : Nat → mSG
  | 0 => s
  | m + 1 => mNew (nw s b m) (b + m)
theorem yG_k {kd : Nat} {Y : mLY} {a k n ci : Nat} (h : (mKl Y a).1 = ci) (ha : a < Y.1) : (mKl (yG kd Y a k n) a).1 = ci := by
  show (if a = Y.1 then (kd, n) else Y.2.2.1 a).1 = ci
  rw [if_neg (by omega)]
  exact h
theorem yG_lt {kd : Nat} {Y : mLY} {a k n : Nat} (ha : a < Y.1) : a < (yG kd Y a k n).1 := by
  show a < Y.1 + 1
  omega
theorem yG_le {kd : Nat} {Y : mLY} {a k n : Nat} : mLe Y (yG kd Y a k n) := ⟨Nat.le_succ _, Nat.le_add_right _ _⟩
theorem Ex_fld {C : mCT} {cd : Nat → mSem} {r : mRT} {pc pc' : Nat} {L : mLV} {s : mSG} {Y : mLY} (kk kd n k ci a : Nat) (N : Int32) (hN : N.toNatClampNeg = n) (h0 : ¬ N < 0) (h1 : n ≤ 100000) (h : ∀ f, mEx C cd r (f + kk) pc L [] s Y = ((¬ N < 0 ∧ N.toNatClampNeg ≤ 100000 ∧ mLe (mAdd Y kd N.toNatClampNeg N.toNatClampNeg) r.2.2) ∧ (if (mKl (mAdd Y kd N.toNatClampNeg N.toNatClampNeg) a).1 = ci then mEx C cd r f pc' L [] (mNew s Y.1) (mSetF (mAdd Y kd N.toNatClampNeg N.toNatClampNeg) a k Y.1) else False))) (hk : (mKl Y a).1 = ci) (ha : a < Y.1) (hl : mLe (yG kd Y a k n) r.2.2) (e : Ex C cd r pc' L [] (mNew s Y.1) (yG kd Y a k n)) : Ex C cd r pc L [] s Y := by
  obtain ⟨f, hf⟩ := e
  refine ⟨f + kk, ?_⟩
  rw [h f, hN, if_pos (show (mKl (mAdd Y kd n n) a).1 = ci from by rw [mKl_off (by omega)]; exact hk)]
  exact ⟨⟨h0, h1, hl⟩, hf⟩

def yX5 (Y : mLY) (a : Nat) : mLY := (yG 20 (yG 20 (yG 20 (yG 20 Y a 0 64) a 1 30) a 2 25) a 3 24)
theorem T_X5_init (D : Nat) (Y : mLY) (a : Nat) (s : mSG) (hk : (mKl Y a).1 = 4) (ha : a < Y.1) : Runs (D + 1) 52 [.ref a] s Y (none, nw s Y.1 4, yX5 Y a) := by
  refine Runs_mk (d := D) rfl ?_
  show Ex (Runs D) cd_X5_init (none, nw s Y.1 4, yX5 Y a) 0 [some (.ref a)] [] s Y
  refine Ex_fld 6 20 64 0 4 a 64 (by decide) (by decide) (by decide) (fun _ => rfl) hk ha (mLe_tr yG_le (mLe_tr yG_le (mLe_tr yG_le (mLe_refl _)))) ?_
  refine Ex_fld 4 20 30 1 4 a 30 (by decide) (by decide) (by decide) (fun _ => rfl) (yG_k hk ha) (yG_lt ha) (mLe_tr yG_le (mLe_tr yG_le (mLe_refl _))) ?_
  refine Ex_fld 4 20 25 2 4 a 25 (by decide) (by decide) (by decide) (fun _ => rfl) (yG_k (yG_k hk ha) (yG_lt ha)) (yG_lt (yG_lt ha)) (mLe_tr yG_le (mLe_refl _)) ?_
  refine Ex_fld 4 20 24 3 4 a 24 (by decide) (by decide) (by decide) (fun _ => rfl) (yG_k (yG_k (yG_k hk ha) (yG_lt ha)) (yG_lt (yG_lt ha))) (yG_lt (yG_lt (yG_lt ha))) (mLe_refl _) ?_
  exact Ex_ret 1 (fun _ => rfl) rfl
def yX0 (Y : mLY) (a : Nat) : mLY := (yG 20 (yG 20 Y a 0 6) a 1 32)
theorem T_X0_init (D : Nat) (Y : mLY) (a : Nat) (s : mSG) (hk : (mKl Y a).1 = 0) (ha : a < Y.1) : Runs (D + 1) 0 [.ref a] s Y (none, nw s Y.1 2, yX0 Y a) := by
  refine Runs_mk (d := D) rfl ?_
  show Ex (Runs D) cd_X0_init (none, nw s Y.1 2, yX0 Y a) 0 [some (.ref a)] [] s Y
  refine Ex_fld 6 20 6 0 0 a 6 (by decide) (by decide) (by decide) (fun _ => rfl) hk ha (mLe_tr yG_le (mLe_refl _)) ?_
  refine Ex_fld 4 20 32 1 0 a 32 (by decide) (by decide) (by decide) (fun _ => rfl) (yG_k hk ha) (yG_lt ha) (mLe_refl _) ?_
  exact Ex_ret 1 (fun _ => rfl) rfl
def yX1 (Y : mLY) (a : Nat) : mLY := (yG 20 (yG 20 Y a 0 160) a 1 3)
theorem T_X1_init (D : Nat) (Y : mLY) (a : Nat) (s : mSG) (hk : (mKl Y a).1 = 1) (ha : a < Y.1) : Runs (D + 1) 9 [.ref a] s Y (none, nw s Y.1 2, yX1 Y a) := by
  refine Runs_mk (d := D) rfl ?_
  show Ex (Runs D) cd_X1_init (none, nw s Y.1 2, yX1 Y a) 0 [some (.ref a)] [] s Y
  refine Ex_fld 6 20 160 0 1 a 160 (by decide) (by decide) (by decide) (fun _ => rfl) hk ha (mLe_tr yG_le (mLe_refl _)) ?_
  refine Ex_fld 4 20 3 1 1 a 3 (by decide) (by decide) (by decide) (fun _ => rfl) (yG_k hk ha) (yG_lt ha) (mLe_refl _) ?_
  exact Ex_ret 1 (fun _ => rfl) rfl
def yX7 (Y : mLY) (a : Nat) : mLY := (yG 20 Y a 0 640)
theorem T_X7_init (D : Nat) (Y : mLY) (a : Nat) (s : mSG) (hk : (mKl Y a).1 = 6) (ha : a < Y.1) : Runs (D + 1) 73 [.ref a] s Y (none, nw s Y.1 1, yX7 Y a) := by
  refine Runs_mk (d := D) rfl ?_
  show Ex (Runs D) cd_X7_init (none, nw s Y.1 1, yX7 Y a) 0 [some (.ref a)] [] s Y
  refine Ex_fld 6 20 640 0 6 a 640 (by decide) (by decide) (by decide) (fun _ => rfl) hk ha (mLe_refl _) ?_
  exact Ex_ret 1 (fun _ => rfl) rfl
theorem T_X4_init (D : Nat) (Y : mLY) (a : Nat) (s : mSG) (hk : (mKl Y a).1 = 3) (ha : a < Y.1) : Runs (D + 1) 46 [.ref a] s Y (none, sI (mNew s Y.1) a 1 (-1), yG 20 Y a 0 40) := by
  refine Runs_mk (d := D) rfl ?_
  show Ex (Runs D) cd_X4_init (none, sI (mNew s Y.1) a 1 (-1), yG 20 Y a 0 40) 0 [some (.ref a)] [] s Y
  refine Ex_fld 6 20 40 0 3 a 40 (by decide) (by decide) (by decide) (fun _ => rfl) hk ha (mLe_refl _) ?_
  refine Ex_if 3 (c := (mKl (yG 20 Y a 0 40) a).1 = 3) (fun _ => rfl) (yG_k hk ha) ?_
  exact Ex_ret 1 (fun _ => rfl) rfl
