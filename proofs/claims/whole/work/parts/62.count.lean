/-! count -/
theorem aSum_0 {f : Nat → Nat} : ∀ n, (∀ i, i < n → f i = 0) → aSum f n = 0
  | 0, _ => rfl
  | n + 1, h => by
    show aSum f n + f n = 0
    rw [aSum_0 n (fun i hi => h i (by omega)), h n (by omega)]
/-- pairs, each once -/
def aPr (f : Nat → Nat) (a b : Nat) : Nat := if b ≤ a then 0 else f (a * 8 + b)
def aPrs (f : Nat → Nat) (a : Nat) : Nat := aSum (aPr f a) 8
theorem aSum_sq {f : Nat → Nat} (hs : ∀ a b, a < 8 → b < 8 → f (a * 8 + b) = f (b * 8 + a)) (hd : ∀ a, a < 8 → f (a * 8 + a) = 0) : aSum f 64 = 2 * aSum (aPrs f) 8 := by
  have e1 : aSum f 64 = ((((((((((((((((((((((((((((((((((((((((((((((((((((((((((((((((0 + f 0) + f 1) + f 2) + f 3) + f 4) + f 5) + f 6) + f 7) + f 8) + f 9) + f 10) + f 11) + f 12) + f 13) + f 14) + f 15) + f 16) + f 17) + f 18) + f 19) + f 20) + f 21) + f 22) + f 23) + f 24) + f 25) + f 26) + f 27) + f 28) + f 29) + f 30) + f 31) + f 32) + f 33) + f 34) + f 35) + f 36) + f 37) + f 38) + f 39) + f 40) + f 41) + f 42) + f 43) + f 44) + f 45) + f 46) + f 47) + f 48) + f 49) + f 50) + f 51) + f 52) + f 53) + f 54) + f 55) + f 56) + f 57) + f 58) + f 59) + f 60) + f 61) + f 62) + f 63) := rfl
  have g0 : aPrs f 0 = ((((((((0 + 0) + f 1) + f 2) + f 3) + f 4) + f 5) + f 6) + f 7) := rfl
  have g1 : aPrs f 1 = ((((((((0 + 0) + 0) + f 10) + f 11) + f 12) + f 13) + f 14) + f 15) := rfl
  have g2 : aPrs f 2 = ((((((((0 + 0) + 0) + 0) + f 19) + f 20) + f 21) + f 22) + f 23) := rfl
  have g3 : aPrs f 3 = ((((((((0 + 0) + 0) + 0) + 0) + f 28) + f 29) + f 30) + f 31) := rfl
  have g4 : aPrs f 4 = ((((((((0 + 0) + 0) + 0) + 0) + 0) + f 37) + f 38) + f 39) := rfl
  have g5 : aPrs f 5 = ((((((((0 + 0) + 0) + 0) + 0) + 0) + 0) + f 46) + f 47) := rfl
  have g6 : aPrs f 6 = ((((((((0 + 0) + 0) + 0) + 0) + 0) + 0) + 0) + f 55) := rfl
  have g7 : aPrs f 7 = ((((((((0 + 0) + 0) + 0) + 0) + 0) + 0) + 0) + 0) := rfl
  have e2 : aSum (aPrs f) 8 = ((((((((0 + aPrs f 0) + aPrs f 1) + aPrs f 2) + aPrs f 3) + aPrs f 4) + aPrs f 5) + aPrs f 6) + aPrs f 7) := rfl
  have d0 : f 0 = 0 := hd 0 (by omega)
  have s01 : f 1 = f 8 := hs 0 1 (by omega) (by omega)
  have s02 : f 2 = f 16 := hs 0 2 (by omega) (by omega)
  have s03 : f 3 = f 24 := hs 0 3 (by omega) (by omega)
  have s04 : f 4 = f 32 := hs 0 4 (by omega) (by omega)
  have s05 : f 5 = f 40 := hs 0 5 (by omega) (by omega)
  have s06 : f 6 = f 48 := hs 0 6 (by omega) (by omega)
  have s07 : f 7 = f 56 := hs 0 7 (by omega) (by omega)
  have d1 : f 9 = 0 := hd 1 (by omega)
  have s12 : f 10 = f 17 := hs 1 2 (by omega) (by omega)
  have s13 : f 11 = f 25 := hs 1 3 (by omega) (by omega)
  have s14 : f 12 = f 33 := hs 1 4 (by omega) (by omega)
  have s15 : f 13 = f 41 := hs 1 5 (by omega) (by omega)
  have s16 : f 14 = f 49 := hs 1 6 (by omega) (by omega)
  have s17 : f 15 = f 57 := hs 1 7 (by omega) (by omega)
  have d2 : f 18 = 0 := hd 2 (by omega)
  have s23 : f 19 = f 26 := hs 2 3 (by omega) (by omega)
  have s24 : f 20 = f 34 := hs 2 4 (by omega) (by omega)
  have s25 : f 21 = f 42 := hs 2 5 (by omega) (by omega)
  have s26 : f 22 = f 50 := hs 2 6 (by omega) (by omega)
  have s27 : f 23 = f 58 := hs 2 7 (by omega) (by omega)
  have d3 : f 27 = 0 := hd 3 (by omega)
  have s34 : f 28 = f 35 := hs 3 4 (by omega) (by omega)
  have s35 : f 29 = f 43 := hs 3 5 (by omega) (by omega)
  have s36 : f 30 = f 51 := hs 3 6 (by omega) (by omega)
  have s37 : f 31 = f 59 := hs 3 7 (by omega) (by omega)
  have d4 : f 36 = 0 := hd 4 (by omega)
  have s45 : f 37 = f 44 := hs 4 5 (by omega) (by omega)
  have s46 : f 38 = f 52 := hs 4 6 (by omega) (by omega)
  have s47 : f 39 = f 60 := hs 4 7 (by omega) (by omega)
  have d5 : f 45 = 0 := hd 5 (by omega)
  have s56 : f 46 = f 53 := hs 5 6 (by omega) (by omega)
  have s57 : f 47 = f 61 := hs 5 7 (by omega) (by omega)
  have d6 : f 54 = 0 := hd 6 (by omega)
  have s67 : f 55 = f 62 := hs 6 7 (by omega) (by omega)
  have d7 : f 63 = 0 := hd 7 (by omega)
  rw [e1, e2, g0, g1, g2, g3, g4, g5, g6, g7]
  omega
/-- whether there is mud -/
def aIs (A : Ab) (i : Nat) : Nat := if A.mud i = 0 then 0 else 1
theorem aIs_le (A : Ab) (i : Nat) : aIs A i ≤ 1 := by
  unfold aIs
  split <;> omega
theorem c_pairsI {A : Ab} {s : mSG} {tc a n : Nat} (h : RS 7 8 9 10 11 A s) (ok : AbOK A tc) (ha : a < 8) : X5_muddyPairs_7_l14 (nI a) s (nI n, nI (a + 1)) = some (nI (n + aPrs (aIs A) a)) := by
  unfold X5_muddyPairs_7_l14
  have h0 : aSum (aPr (aIs A) a) (a + 1) = 0 := aSum_0 _ (fun i hi => by unfold aPr; rw [if_pos (by omega)])
  have key := iter_cnt (b := fun v : Int32 × Int32 => X5_muddyPairs_7_b14 (nI a) v.1 v.2 s) (fun i => (nI (n + aSum (aPr (aIs A) a) (a + 1 + i)), nI (a + 1 + i))) (7 - a) (nI (n + aPrs (aIs A) a)) ?_ ?_ mFU 0 (Nat.zero_le _) (by show 7 - a - 0 < 1000000; omega)
  · rw [Nat.add_zero, h0, Nat.add_zero] at key
    exact key
  · intro i hi
    show X5_muddyPairs_7_b14 (nI a) (nI (n + aSum (aPr (aIs A) a) (a + 1 + i))) (nI (a + 1 + i)) s = _
    unfold X5_muddyPairs_7_b14 X5_muddyPairs_7_j32_14
    have hp : aPr (aIs A) a (a + 1 + i) = aIs A (a * 8 + (a + 1 + i)) := by unfold aPr; rw [if_neg (by omega)]
    have hm := ok.mud (a * 8 + (a + 1 + i))
    rw [if_neg (gl_le (x := 8) (m := 8) rfl (by omega) (by omega)), ob (c_mudB_7 h ok (by omega) (by omega))]
    show _ = some (Sum.inl (nI (n + (aSum (aPr (aIs A) a) (a + 1 + i) + aPr (aIs A) a (a + 1 + i))), nI (a + 1 + i + 1)))
    rw [hp]
    by_cases q : A.mud (a * 8 + (a + 1 + i)) = 0
    · rw [show aIs A (a * 8 + (a + 1 + i)) = 0 from if_pos q, q, if_pos (by decide), nI_1]
      rfl
    · rw [show aIs A (a * 8 + (a + 1 + i)) = 1 from if_neg q, if_neg (nI_nle (by omega) (by omega)), nI_1, nI_1, Nat.add_assoc]
  · show X5_muddyPairs_7_b14 (nI a) (nI (n + aSum (aPr (aIs A) a) (a + 1 + (7 - a)))) (nI (a + 1 + (7 - a))) s = _
    unfold X5_muddyPairs_7_b14
    rw [show a + 1 + (7 - a) = 8 by omega, if_pos (by decide)]
    rfl
theorem c_pairs {A : Ab} {s : mSG} {tc : Nat} (h : RS 7 8 9 10 11 A s) (ok : AbOK A tc) : X5_muddyPairs_7 s = some (nI (aSum (aPrs (aIs A)) 8)) := by
  unfold X5_muddyPairs_7 X5_muddyPairs_7_l4
  have key := iter_cnt (b := fun v : Int32 × Int32 => X5_muddyPairs_7_b4 v.1 v.2 s) (fun i => (nI (aSum (aPrs (aIs A)) i), nI i)) 8 (nI (aSum (aPrs (aIs A)) 8)) ?_ ?_ mFU 0 (Nat.zero_le _) (by show 8 - 0 < 1000000; omega)
  · rw [ob (show iter (fun v : Int32 × Int32 => X5_muddyPairs_7_b4 v.1 v.2 s) mFU (0, 0) = _ from key)]
  · intro i hi
    show X5_muddyPairs_7_b4 (nI (aSum (aPrs (aIs A)) i)) (nI i) s = _
    unfold X5_muddyPairs_7_b4
    rw [if_neg (gl_le (x := 8) (m := 8) rfl hi (by omega)), nI_1, ob (c_pairsI h ok hi)]
    rfl
  · show X5_muddyPairs_7_b4 (nI (aSum (aPrs (aIs A)) 8)) (nI 8) s = _
    unfold X5_muddyPairs_7_b4
    rw [if_pos (by decide)]
theorem m_pairs {A : Ab} {s : mSG} {tc : Nat} (h : RM A s) (ok : AbOK A tc) : X9_count_l24 s (0, 0) = some (nI (aSum (aIs A) 64)) := by
  unfold X9_count_l24
  refine iter_cnt (b := fun v : Int32 × Int32 => X9_count_b24 v.1 v.2 s) (fun i => (nI (aSum (aIs A) i), nI i)) 64 _ ?_ ?_ mFU 0 (Nat.zero_le _) (by show 64 - 0 < 1000000; omega)
  · intro i hi
    show X9_count_b24 (nI (aSum (aIs A) i)) (nI i) s = _
    unfold X9_count_b24 X9_count_j45_24
    have hm := ok.mud i
    rw [if_neg (gl_le (x := 64) (m := 64) rfl hi (by omega)), if_pos (gl_inb hi (by omega)), nl_cl (by omega), h.mud i hi]
    show _ = some (Sum.inl (nI (aSum (aIs A) i + aIs A i), nI (i + 1)))
    by_cases q : A.mud i = 0
    · rw [show aIs A i = 0 from if_pos q, q, if_pos (by decide), nI_1]
      exact congrArg (fun z => some (Sum.inl (z, nI (i + 1)))) (nI_add _ 0)
    · rw [show aIs A i = 1 from if_neg q, if_neg (nI_nle (by omega) (by omega)), nI_1, nI_1]
  · show X9_count_b24 (nI (aSum (aIs A) 64)) (nI 64) s = _
    unfold X9_count_b24
    rw [if_pos (by decide)]
theorem c_debts {A : Ab} {s : mSG} {tc : Nat} (h : RS 7 8 9 10 11 A s) (ok : AbOK A tc) : X5_allDebts_7 s = some (nI (aSum (fun p => aSum (fun k => A.ow (p * 5 + k)) A.pp) A.pp)) := by
  have h5 := ok.pp
  unfold X5_allDebts_7 X5_allDebts_7_l4
  have key := iter_cnt (b := fun v : Int32 × Int32 => X5_allDebts_7_b4 v.1 v.2 s) (fun i => (nI (aSum (fun p => aSum (fun k => A.ow (p * 5 + k)) A.pp) i), nI i)) A.pp (nI (aSum (fun p => aSum (fun k => A.ow (p * 5 + k)) A.pp) A.pp)) ?_ ?_ mFU 0 (Nat.zero_le _) (by show A.pp - 0 < 1000000; omega)
  · rw [ob (show iter (fun v : Int32 × Int32 => X5_allDebts_7_b4 v.1 v.2 s) mFU (0, 0) = _ from key)]
  · intro i hi
    show X5_allDebts_7_b4 (nI (aSum (fun p => aSum (fun k => A.ow (p * 5 + k)) A.pp) i)) (nI i) s = _
    unfold X5_allDebts_7_b4
    rw [h.pp, if_neg (nI_ge hi (by omega)), ob (c_owes h ok (show i < 5 by omega)), nI_add, nI_1]
    rfl
  · show X5_allDebts_7_b4 _ (nI A.pp) s = _
    unfold X5_allDebts_7_b4
    rw [h.pp, if_pos (nI_le (Nat.le_refl _) (by omega))]
theorem m_debts {A : Ab} {s : mSG} {tc : Nat} (h : RM A s) (ok : AbOK A tc) : X9_count_l67 s (0, 0) = some (nI (aSum (fun p => aSum (fun k => A.ow (p * 5 + k)) A.pp) A.pp)) := by
  have h5 := ok.pp
  unfold X9_count_l67
  refine iter_cnt (b := fun v : Int32 × Int32 => X9_count_b67 v.1 v.2 s) (fun i => (nI (aSum (fun p => aSum (fun k => A.ow (p * 5 + k)) A.pp) i), nI i)) A.pp _ ?_ ?_ mFU 0 (Nat.zero_le _) (by show A.pp - 0 < 1000000; omega)
  · intro i hi
    show X9_count_b67 (nI (aSum (fun p => aSum (fun k => A.ow (p * 5 + k)) A.pp) i)) (nI i) s = _
    have e : X9_told (nI i) 7 s = some (nI (aSum (fun k => A.ow (i * 5 + k)) A.pp)) := by
      rw [m_told h ok]
      unfold vTold
      rw [if_pos ⟨(inP_nI (show i < 2147483648 by omega) (show A.pp < 2147483648 by omega)).mpr hi, by decide⟩, nl_cl (show i < 2147483648 by omega)]
      rfl
    unfold X9_count_b67
    rw [h.pp, if_neg (nI_ge hi (by omega)), ob e, nI_add, nI_1]
    rfl
  · show X9_count_b67 _ (nI A.pp) s = _
    unfold X9_count_b67
    rw [h.pp, if_pos (nI_le (Nat.le_refl _) (by omega))]
theorem L_count {t : mTX} {s : mSG} (h : INV t s) (x : Int32) : ∃ v, X8_count x s = some v ∧ X9_count x s = some v := by
  obtain ⟨tc, V, A, hk, K, ts, tp, sk, sn, si, hv⟩ := h
  obtain ⟨⟨a1, a2, a3, a4, a5, a6⟩, ⟨b1, b2, b3⟩, c, d, e, p, z⟩ := hv
  have hh := b3.hr
  unfold X8_count X9_count
  rw [show X9_in x.toInt64 0 7 = _ from b_dec (m_inR x 7 7 rfl)]
  by_cases q : inR x 7
  · rw [decide_eq_true q, if_pos rfl]
    obtain ⟨k, hk', rfl⟩ := inR_of q (by omega)
    have hc : k = 0 ∨ k = 1 ∨ k = 2 ∨ k = 3 ∨ k = 4 ∨ k = 5 ∨ k = 6 ∨ k = 7 := by omega
    rcases hc with rfl | rfl | rfl | rfl | rfl | rfl | rfl | rfl
    · refine ⟨nI A.pp, ?_, ?_⟩
      · rw [if_pos (by decide), b1.pp]
      · rw [if_neg (by decide), if_neg (by decide), if_neg (by decide), if_pos (by decide), b2.pp]
    · refine ⟨nI (aSum (aPrs (aIs A)) 8), ?_, ?_⟩
      · rw [if_neg (by decide), if_pos (by decide), ob (c_pairs b1 b3)]
      · rw [if_pos (by decide), ob (m_pairs b2 b3)]
        have e1 : aSum (aIs A) 64 = 2 * aSum (aPrs (aIs A)) 8 := aSum_sq (fun a b ha hb => by unfold aIs; rw [b3.sym a b ha hb]) (fun a ha => by unfold aIs; rw [b3.dia a ha, if_pos rfl])
        have e2 := aSum_le (aIs_le A) 64
        show some (nI (aSum (aIs A) 64) / nI 2) = _
        rw [nl_div (by omega) (by omega) (by omega), e1, Nat.mul_div_cancel_left _ (by omega)]
    · refine ⟨nI A.hr, ?_, ?_⟩
      · rw [if_neg (by decide), if_neg (by decide), if_pos (by decide), b1.hr]
      · rw [if_neg (by decide), if_neg (by decide), if_neg (by decide), if_neg (by decide), if_pos (by decide), b2.hr]
    · refine ⟨nI (A.rn (A.hr % 24)), ?_, ?_⟩
      · rw [if_neg (by decide), if_neg (by decide), if_neg (by decide), if_pos (by decide), ob (c_rainNow_7 b1 b3)]
      · rw [if_neg (by decide), if_neg (by decide), if_neg (by decide), if_neg (by decide), if_neg (by decide), b2.hr, ob (m_rainAt b2 (by omega))]
    · refine ⟨nI tc, ?_, ?_⟩
      · rw [if_neg (by decide), if_neg (by decide), if_neg (by decide), if_neg (by decide), if_pos (by decide), a3]
      · rw [if_neg (by decide), if_neg (by decide), if_pos (by decide), if_pos (by decide), a4]
    · refine ⟨nI ts, ?_, ?_⟩
      · rw [if_neg (by decide), if_neg (by decide), if_neg (by decide), if_neg (by decide), if_neg (by decide), if_pos (by decide), d.2.1]
      · rw [if_neg (by decide), if_neg (by decide), if_pos (by decide), if_neg (by decide), if_pos (by decide), d.2.2.1]
    · refine ⟨nI A.ru, ?_, ?_⟩
      · rw [if_neg (by decide), if_neg (by decide), if_neg (by decide), if_neg (by decide), if_neg (by decide), if_neg (by decide), if_pos (by decide), b1.ru]
      · rw [if_neg (by decide), if_neg (by decide), if_pos (by decide), if_neg (by decide), if_neg (by decide), b2.ru]
    · refine ⟨nI (aSum (fun p => aSum (fun k => A.ow (p * 5 + k)) A.pp) A.pp), ?_, ?_⟩
      · rw [if_neg (by decide), if_neg (by decide), if_neg (by decide), if_neg (by decide), if_neg (by decide), if_neg (by decide), if_neg (by decide), if_pos (by decide), ob (c_debts b1 b3)]
      · rw [if_neg (by decide), if_pos (by decide), ob (m_debts b2 b3)]
  · rw [decide_eq_false q, if_neg (show ¬ false = true by decide)]
    have n : ∀ k : Nat, k ≤ 7 → ¬ x = nI k := fun k hk' q' => q (by rw [q']; exact (inR_nI (by omega) (by omega)).mpr hk')
    refine ⟨-2, ?_, rfl⟩
    rw [if_neg (show ¬ x = 0 from n 0 (by omega)), if_neg (show ¬ x = 1 from n 1 (by omega)), if_neg (show ¬ x = 2 from n 2 (by omega)), if_neg (show ¬ x = 3 from n 3 (by omega)), if_neg (show ¬ x = 4 from n 4 (by omega)), if_neg (show ¬ x = 5 from n 5 (by omega)), if_neg (show ¬ x = 6 from n 6 (by omega)), if_neg (show ¬ x = 7 from n 7 (by omega))]
