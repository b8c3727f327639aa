/-! THE LAW: its loop -/
theorem sw_c {P : Nat → Prop} {q : Int32 × Nat} {l : List (Int32 × Nat)} {d : Nat} {x : Int32} (h1 : P q.2) (h2 : P (mSwT l d x)) : P (mSwT (q :: l) d x) := by
  unfold mSwT
  by_cases e : x = q.1
  · rw [if_pos e]; exact h1
  · rw [if_neg e]; exact h2
theorem law_sw (D : Nat) (t : mTX) (s : mSG) (i : Nat) (h : INV t s) (hB : TB t) (hl : t.1 ≤ 100000) (hi : i + 6 ≤ t.1) (IH : ∀ t1 s2, INV t1 s2 → TB t1 → t1.1 = t.1 → LQ D t1 s2 (nI (i + 6)) 18) (x : Int32) : LQ D t s (nI i) (mSwT [(0, 168), (1, 211), (2, 244), (3, 287), (4, 330), (5, 363), (6, 386), (7, 399), (8, 422), (9, 465), (10, 498), (11, 541), (12, 584), (13, 627), (14, 660), (15, 673), (16, 706), (17, 729), (18, 772), (19, 805), (20, 828), (21, 871), (22, 935), (23, 948), (24, 961), (25, 984), (26, 1027), (27, 1070), (28, 1133), (29, 1186)] 1219 x) := by
  refine sw_c (P := fun pc => LQ D t s (nI i) pc) (law_mud D t s i h hB hl hi IH) ?_
  refine sw_c (P := fun pc => LQ D t s (nI i) pc) (law_far D t s i h hB hl hi IH) ?_
  refine sw_c (P := fun pc => LQ D t s (nI i) pc) (law_one D t s i h hB hl hi IH) ?_
  refine sw_c (P := fun pc => LQ D t s (nI i) pc) (law_set D t s i h hB hl hi IH) ?_
  refine sw_c (P := fun pc => LQ D t s (nI i) pc) (law_told D t s i h hB hl hi IH) ?_
  refine sw_c (P := fun pc => LQ D t s (nI i) pc) (law_feed D t s i h hB hl hi IH) ?_
  refine sw_c (P := fun pc => LQ D t s (nI i) pc) (law_text D t s i h hB hl hi IH) ?_
  refine sw_c (P := fun pc => LQ D t s (nI i) pc) (law_force D t s i h hB hl hi IH) ?_
  refine sw_c (P := fun pc => LQ D t s (nI i) pc) (law_can D t s i h hB hl hi IH) ?_
  refine sw_c (P := fun pc => LQ D t s (nI i) pc) (law_go D t s i h hB hl hi IH) ?_
  refine sw_c (P := fun pc => LQ D t s (nI i) pc) (law_soonest D t s i h hB hl hi IH) ?_
  refine sw_c (P := fun pc => LQ D t s (nI i) pc) (law_together D t s i h hB hl hi IH) ?_
  refine sw_c (P := fun pc => LQ D t s (nI i) pc) (law_lend D t s i h hB hl hi IH) ?_
  refine sw_c (P := fun pc => LQ D t s (nI i) pc) (law_owed D t s i h hB hl hi IH) ?_
  refine sw_c (P := fun pc => LQ D t s (nI i) pc) (law_rings D t s i h hB hl hi IH) ?_
  refine sw_c (P := fun pc => LQ D t s (nI i) pc) (law_shaken D t s i h hB hl hi IH) ?_
  refine sw_c (P := fun pc => LQ D t s (nI i) pc) (law_prints D t s i h hB hl hi IH) ?_
  refine sw_c (P := fun pc => LQ D t s (nI i) pc) (law_out D t s i h hB hl hi IH) ?_
  refine sw_c (P := fun pc => LQ D t s (nI i) pc) (law_road D t s i h hB hl hi IH) ?_
  refine sw_c (P := fun pc => LQ D t s (nI i) pc) (law_judge D t s i h hB hl hi IH) ?_
  refine sw_c (P := fun pc => LQ D t s (nI i) pc) (law_drawn D t s i h hB hl hi IH) ?_
  refine sw_c (P := fun pc => LQ D t s (nI i) pc) (law_chance D t s i h hB hl hi IH) ?_
  refine sw_c (P := fun pc => LQ D t s (nI i) pc) (law_image D t s i h hB hl hi IH) ?_
  refine sw_c (P := fun pc => LQ D t s (nI i) pc) (law_back D t s i h hB hl hi IH) ?_
  refine sw_c (P := fun pc => LQ D t s (nI i) pc) (law_count D t s i h hB hl hi IH) ?_
  refine sw_c (P := fun pc => LQ D t s (nI i) pc) (law_sheet D t s i h hB hl hi IH) ?_
  refine sw_c (P := fun pc => LQ D t s (nI i) pc) (law_cell D t s i h hB hl hi IH) ?_
  refine sw_c (P := fun pc => LQ D t s (nI i) pc) (law_copy D t s i h hB hl hi IH) ?_
  refine sw_c (P := fun pc => LQ D t s (nI i) pc) (law_muds D t s i h hB hl hi IH) ?_
  refine sw_c (P := fun pc => LQ D t s (nI i) pc) (law_taken D t s i h hB hl hi IH) ?_
  obtain ⟨sE, tE, b1, b2, b3, eE⟩ := IH t s h hB rfl
  rw [show nI (i + 6) = nI i + 6 from (nI_add i 6).symm] at eE
  exact ⟨sE, tE, b1, b2, b3, Ex_st 2 (fun _ => rfl) eE⟩
theorem law_loop (D l : Nat) (hl : l ≤ 100000) : ∀ m i t s, l - i ≤ m → i ≤ l + 6 → INV t s → TB t → t.1 = l → LQ D t s (nI i) 18 := by
  intro m
  induction m with
  | zero =>
    intro i t s hm hi h hB ht
    refine ⟨s, t, hB, rfl, mLe_refl _, ?_⟩
    refine Ex_brT 6 (c := Int32.ofNat t.1 - 6 < nI i) (fun _ => rfl) ?_ ?_
    · rw [Int32.lt_iff_toInt_lt, show (Int32.ofNat t.1 - 6).toInt = (t.1 : Int) - 6 from pk_sub_toInt (a := t.1) (b := 6) (by omega) (by decide), nI_toInt (by omega)]
      omega
    · exact Ex_retZ 2 (fun _ => rfl) (Or.inr rfl) rfl
  | succ m ih =>
    intro i t s hm hi h hB ht
    by_cases q : i + 6 ≤ t.1
    · obtain ⟨sE, tE, b1, b2, b3, eE⟩ := law_sw D t s i h hB (by omega) q (fun t1 s2 h2 hB2 ht2 => ih (i + 6) t1 s2 (by omega) (by omega) h2 hB2 (by omega)) (s.1 0 (nI i).toNatClampNeg &&& 31)
      refine ⟨sE, tE, b1, b2, b3, ?_⟩
      refine Ex_brF 6 (c := Int32.ofNat t.1 - 6 < nI i) (fun _ => rfl) ?_ ?_
      · rw [Int32.lt_iff_toInt_lt, show (Int32.ofNat t.1 - 6).toInt = (t.1 : Int) - 6 from pk_sub_toInt (a := t.1) (b := 6) (by omega) (by decide), nI_toInt (by omega)]
        omega
      · refine Ex_gd 3 (g := mInb (nI i) t.1 = true) (fun _ => rfl) (gl_inb (by omega) (by omega)) ?_
        exact Ex_sw 3 (fun _ => rfl) eE
    · refine ⟨s, t, hB, rfl, mLe_refl _, ?_⟩
      refine Ex_brT 6 (c := Int32.ofNat t.1 - 6 < nI i) (fun _ => rfl) ?_ ?_
      · rw [Int32.lt_iff_toInt_lt, show (Int32.ofNat t.1 - 6).toInt = (t.1 : Int) - 6 from pk_sub_toInt (a := t.1) (b := 6) (by omega) (by decide), nI_toInt (by omega)]
        omega
      · exact Ex_retZ 2 (fun _ => rfl) (Or.inr rfl) rfl
/-- the whole law, from the layout of what was there before -/
theorem law_all (D l : Nat) (hl : l ≤ 100000) (s0 : mSG) (h1 : ∀ j, s0.1 1 j = mAbv.getD j 0) (h4 : ∀ j, s0.1 4 j = mBt0.getD j 0) (h5 : ∀ j, s0.1 5 j = mBt1.getD j 0) : ∃ sE tE, TB tE ∧ tE.1 = l ∧ Ex (Runs (D + 80)) cd_L_law (some (.int 1), sE, LAY tE) 0 [some (.ref 0), none, none, none] [] s0 (LY0 (tS l)) := by
  obtain ⟨s8, s9, R8, R9, hI, _⟩ := start (D + 10) l s0 h1 h4 h5
  obtain ⟨sE, tE, b1, b2, b3, eE⟩ := law_loop D l hl l 0 (tS l) s9 (by omega) (by omega) hI ⟨Nat.zero_le _, fun j hj => absurd hj (Nat.not_lt_zero j)⟩ rfl
  have le0 : mLe (LAY (tS l)) (LAY tE) := b3
  have le1 : 84 ≤ (LAY tE).1 := le0.1
  have le2 : 5228 ≤ (LAY tE).2.1 := Nat.le_trans (Nat.le_add_right 5228 _) le0.2
  refine ⟨sE, tE, b1, b2, ?_⟩
  refine Ex_gd 1 (g := mLe (mAdd (LY0 (tS l)) 7 13 13) (LAY tE)) (fun _ => rfl) ⟨by show 7 ≤ (LAY tE).1; omega, by show 13 ≤ (LAY tE).2.1; omega⟩ ?_
  refine Ex_callN 2 (fun _ => rfl) R8 ⟨by show 7 ≤ 56; decide, by show 13 ≤ 2537; decide⟩ ⟨by show 56 ≤ (LAY tE).1; omega, by show 2537 ≤ (LAY tE).2.1; omega⟩ ?_
  refine Ex_gd 2 (g := mLe (mAdd (YT (LYC (tS l)) 5) 8 54 54) (LAY tE)) (fun _ => rfl) ⟨by show 57 ≤ (LAY tE).1; omega, by show 2591 ≤ (LAY tE).2.1; omega⟩ ?_
  refine Ex_callN 2 (fun _ => rfl) R9 ⟨by show 57 ≤ 84; decide, by show 2591 ≤ 5228; decide⟩ le0 ?_
  exact Ex_st 3 (fun _ => rfl) eE
