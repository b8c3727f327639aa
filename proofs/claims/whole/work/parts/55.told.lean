/-! SUMS OF YARDS, told -/
def aSum (f : Nat → Nat) : Nat → Nat
  | 0 => 0
  | n + 1 => aSum f n + f n
theorem aSum_le {f : Nat → Nat} {b : Nat} (h : ∀ i, f i ≤ b) (n : Nat) : aSum f n ≤ n * b := by
  induction n with
  | zero => exact Nat.zero_le _
  | succ n ih =>
    have := h n
    show aSum f n + f n ≤ _
    rw [Nat.succ_mul]
    omega
theorem c_owes {A : Ab} {s : mSG} {tc p : Nat} (h : RS 7 8 9 10 11 A s) (ok : AbOK A tc) (hp : p < 5) : X5_owes_7 (nI p) s = some (nI (aSum (fun k => A.ow (p * 5 + k)) A.pp)) := by
  have h5 := ok.pp
  unfold X5_owes_7 X5_owes_7_l4
  have hi : iter (fun v : Int32 × Int32 => X5_owes_7_b4 (nI p) v.1 v.2 s) mFU (nI 0, nI 0) = some (nI (aSum (fun k => A.ow (p * 5 + k)) A.pp)) := by
    refine iter_cnt (fun i => (nI (aSum (fun k => A.ow (p * 5 + k)) i), nI i)) A.pp _ ?_ ?_ mFU 0 (Nat.zero_le _) (by show A.pp - 0 < 1000000; omega)
    · intro i hi
      show X5_owes_7_b4 (nI p) (nI (aSum (fun k => A.ow (p * 5 + k)) i)) (nI i) s = _
      unfold X5_owes_7_b4
      rw [h.pp, if_neg (nI_ge hi (by omega)), ob (c_debt_7 h ok hp (show i < 5 by omega)), nI_add, nI_1]
      rfl
    · show X5_owes_7_b4 (nI p) (nI (aSum (fun k => A.ow (p * 5 + k)) A.pp)) (nI A.pp) s = _
      unfold X5_owes_7_b4
      rw [h.pp, if_pos (nI_le (Nat.le_refl _) (by omega))]
  rw [show ((0 : Int32), (0 : Int32)) = (nI 0, nI 0) from rfl, ob hi]
theorem c_isOwed {A : Ab} {s : mSG} {tc p : Nat} (h : RS 7 8 9 10 11 A s) (ok : AbOK A tc) (hp : p < 5) : X5_isOwed_7 (nI p) s = some (nI (aSum (fun k => A.ow (k * 5 + p)) A.pp)) := by
  have h5 := ok.pp
  unfold X5_isOwed_7 X5_isOwed_7_l4
  have hi : iter (fun v : Int32 × Int32 => X5_isOwed_7_b4 (nI p) v.1 v.2 s) mFU (nI 0, nI 0) = some (nI (aSum (fun k => A.ow (k * 5 + p)) A.pp)) := by
    refine iter_cnt (fun i => (nI (aSum (fun k => A.ow (k * 5 + p)) i), nI i)) A.pp _ ?_ ?_ mFU 0 (Nat.zero_le _) (by show A.pp - 0 < 1000000; omega)
    · intro i hi
      show X5_isOwed_7_b4 (nI p) (nI (aSum (fun k => A.ow (k * 5 + p)) i)) (nI i) s = _
      unfold X5_isOwed_7_b4
      rw [h.pp, if_neg (nI_ge hi (by omega)), ob (c_debt_7 h ok (show i < 5 by omega) hp), nI_add, nI_1]
      rfl
    · show X5_isOwed_7_b4 (nI p) (nI (aSum (fun k => A.ow (k * 5 + p)) A.pp)) (nI A.pp) s = _
      unfold X5_isOwed_7_b4
      rw [h.pp, if_pos (nI_le (Nat.le_refl _) (by omega))]
  rw [show ((0 : Int32), (0 : Int32)) = (nI 0, nI 0) from rfl, ob hi]
theorem m_sum7 {A : Ab} {s : mSG} {tc p : Nat} (h : RM A s) (ok : AbOK A tc) (hp : p < 5) : X9_told_l127 (nI p) 7 s (0, 0) = some (nI (aSum (fun k => A.ow (p * 5 + k)) A.pp)) := by
  have h5 := ok.pp
  unfold X9_told_l127
  rw [show ((0 : Int32), (0 : Int32)) = (nI 0, nI 0) from rfl]
  refine iter_cnt (fun i => (nI (aSum (fun k => A.ow (p * 5 + k)) i), nI i)) A.pp _ ?_ ?_ mFU 0 (Nat.zero_le _) (by show A.pp - 0 < 1000000; omega)
  · intro i hi
    show X9_told_b127 (nI p) 7 (nI (aSum (fun k => A.ow (p * 5 + k)) i)) (nI i) s = _
    unfold X9_told_b127 X9_told_j168_127
    rw [h.pp, if_neg (nI_ge hi (by omega)), if_pos rfl, e5m, if_pos (gl_inb (show p * 5 + i < 25 by omega) (by omega)), nl_cl (by omega), h.ow _ (by omega), nI_add, nI_1]
    rfl
  · show X9_told_b127 (nI p) 7 (nI (aSum (fun k => A.ow (p * 5 + k)) A.pp)) (nI A.pp) s = _
    unfold X9_told_b127
    rw [h.pp, if_pos (nI_le (Nat.le_refl _) (by omega))]
theorem m_sum8 {A : Ab} {s : mSG} {tc p : Nat} (h : RM A s) (ok : AbOK A tc) (hp : p < 5) : X9_told_l127 (nI p) 8 s (0, 0) = some (nI (aSum (fun k => A.ow (k * 5 + p)) A.pp)) := by
  have h5 := ok.pp
  unfold X9_told_l127
  rw [show ((0 : Int32), (0 : Int32)) = (nI 0, nI 0) from rfl]
  refine iter_cnt (fun i => (nI (aSum (fun k => A.ow (k * 5 + p)) i), nI i)) A.pp _ ?_ ?_ mFU 0 (Nat.zero_le _) (by show A.pp - 0 < 1000000; omega)
  · intro i hi
    show X9_told_b127 (nI p) 8 (nI (aSum (fun k => A.ow (k * 5 + p)) i)) (nI i) s = _
    unfold X9_told_b127 X9_told_j168_127
    rw [h.pp, if_neg (nI_ge hi (by omega)), if_neg (by decide), e5m, if_pos (gl_inb (show i * 5 + p < 25 by omega) (by omega)), nl_cl (by omega), h.ow _ (by omega), nI_add, nI_1]
    rfl
  · show X9_told_b127 (nI p) 8 (nI (aSum (fun k => A.ow (k * 5 + p)) A.pp)) (nI A.pp) s = _
    unfold X9_told_b127
    rw [h.pp, if_pos (nI_le (Nat.le_refl _) (by omega))]
def vTold (A : Ab) (x y : Int32) : Int32 := if inP x A.pp ∧ inR y 8 then (match y.toNatClampNeg with
  | 0 => nI (A.st x.toNatClampNeg)
  | 1 => nI (A.yd x.toNatClampNeg)
  | 2 => nI (A.wt x.toNatClampNeg)
  | 3 => nI (A.ld x.toNatClampNeg)
  | 4 => nI (A.nu x.toNatClampNeg)
  | 5 => nI (A.kd x.toNatClampNeg)
  | 6 => nI (aReach (A.kd x.toNatClampNeg) (A.nu x.toNatClampNeg) (A.yd x.toNatClampNeg) (A.wt x.toNatClampNeg))
  | 7 => nI (aSum (fun k => A.ow (x.toNatClampNeg * 5 + k)) A.pp)
  | _ => nI (aSum (fun k => A.ow (k * 5 + x.toNatClampNeg)) A.pp)) else -2
section
variable {t : mTX} {tc : Nat} {V : mVT} {A : Ab} {hk : Bool} {K : Ab} {ts : Nat} {tp sk sn : Nat → Nat} {si : Nat → Nat → Int32} {s : mSG}
theorem c_told (h : IV t tc V A hk K ts tp sk sn si s) (x y : Int32) : ∃ s', X8_told x y s = some (vTold A x y, s') := by
  obtain ⟨⟨a1, a2, a3, a4, a5, a6⟩, ⟨b1, b2, b3⟩, _⟩ := h
  have h5 := b3.pp
  unfold X8_told vTold
  rw [c_isOne_7 b1 h5]
  by_cases q1 : inP x A.pp
  · rw [decide_eq_true q1, if_pos rfl]
    by_cases q2 : inR y 8
    · rw [if_pos (And.intro q1 q2)]
      obtain ⟨p, hp, rfl⟩ := inP_of q1 (by omega)
      obtain ⟨k, hk', rfl⟩ := inR_of q2 (by omega)
      rw [nl_cl (show p < 2147483648 by omega), nl_cl (show k < 2147483648 by omega)]
      have hc : k = 0 ∨ k = 1 ∨ k = 2 ∨ k = 3 ∨ k = 4 ∨ k = 5 ∨ k = 6 ∨ k = 7 ∨ k = 8 := by omega
      rcases hc with rfl | rfl | rfl | rfl | rfl | rfl | rfl | rfl | rfl
      · rw [if_neg (by decide), if_neg (by decide), if_neg (by decide), show X8_isWithin (nI 0) 5 = true from by decide, if_pos rfl, ob (c_trait_7 b1 h5 hp (by omega)), b1.st p hp]
        exact ⟨_, rfl⟩
      · rw [if_neg (by decide), if_neg (by decide), if_neg (by decide), show X8_isWithin (nI 1) 5 = true from by decide, if_pos rfl, ob (c_trait_7 b1 h5 hp (by omega)), b1.yd p hp]
        exact ⟨_, rfl⟩
      · rw [if_neg (by decide), if_neg (by decide), if_neg (by decide), show X8_isWithin (nI 2) 5 = true from by decide, if_pos rfl, ob (c_trait_7 b1 h5 hp (by omega)), b1.wt p hp]
        exact ⟨_, rfl⟩
      · rw [if_neg (by decide), if_neg (by decide), if_neg (by decide), show X8_isWithin (nI 3) 5 = true from by decide, if_pos rfl, ob (c_trait_7 b1 h5 hp (by omega)), b1.ld p hp]
        exact ⟨_, rfl⟩
      · rw [if_neg (by decide), if_neg (by decide), if_neg (by decide), show X8_isWithin (nI 4) 5 = true from by decide, if_pos rfl, ob (c_trait_7 b1 h5 hp (by omega)), b1.nu p hp]
        exact ⟨_, rfl⟩
      · rw [if_neg (by decide), if_neg (by decide), if_neg (by decide), show X8_isWithin (nI 5) 5 = true from by decide, if_pos rfl, ob (c_trait_7 b1 h5 hp (by omega)), b1.kd p hp]
        exact ⟨_, rfl⟩
      · rw [if_pos (by decide), ob (c_rule_7 a1 a3 a6 b1 b3)]
        obtain ⟨s1, e1, g1⟩ := c_be_28_7 b1 b3 hp A.ru
        rw [ob e1, c_goReach_28 g1 (b3.kd p hp) (b3.nu p hp) (b3.yd p hp) (b3.wt p hp)]
        exact ⟨_, rfl⟩
      · rw [if_neg (by decide), if_pos (by decide), ob (c_owes b1 b3 (by omega))]
        exact ⟨_, rfl⟩
      · rw [if_neg (by decide), if_neg (by decide), if_pos (by decide), ob (c_isOwed b1 b3 (by omega))]
        exact ⟨_, rfl⟩
    · rw [if_neg (show ¬ (inP x A.pp ∧ inR y 8) from fun q => q2 q.2), if_neg (fun e => q2 (by rw [e]; decide)), if_neg (fun e => q2 (by rw [e]; decide)), if_neg (fun e => q2 (by rw [e]; decide)), show X8_isWithin y 5 = _ from c_within y 5, decide_eq_false (fun g => q2 ⟨g.1, Int32.le_trans g.2 (by decide)⟩)]
      exact ⟨_, rfl⟩
  · rw [decide_eq_false q1, if_neg (by decide), if_neg (fun q => q1 q.1)]
    exact ⟨_, rfl⟩
theorem m_told (h : RM A s) (b3 : AbOK A tc) (x y : Int32) : X9_told x y s = some (vTold A x y) := by
  have h5 := b3.pp
  unfold X9_told vTold
  rw [m_isOne h h5, show X9_in y.toInt64 0 8 = decide (inR y 8) from b_dec (m_inR y 8 8 rfl)]
  by_cases q1 : inP x A.pp
  · rw [decide_eq_true q1, if_pos rfl]
    by_cases q2 : inR y 8
    · rw [decide_eq_true q2, if_pos rfl, if_pos (And.intro q1 q2)]
      obtain ⟨p, hp, rfl⟩ := inP_of q1 (by omega)
      obtain ⟨k, hk', rfl⟩ := inR_of q2 (by omega)
      have hin := gl_inb (show p < 5 by omega) (show p < 2147483648 by omega)
      rw [nl_cl (show p < 2147483648 by omega), nl_cl (show k < 2147483648 by omega)]
      have hc : k = 0 ∨ k = 1 ∨ k = 2 ∨ k = 3 ∨ k = 4 ∨ k = 5 ∨ k = 6 ∨ k = 7 ∨ k = 8 := by omega
      rcases hc with rfl | rfl | rfl | rfl | rfl | rfl | rfl | rfl | rfl
      · rw [if_neg (by decide), if_pos (by decide), if_pos hin, h.st p hp]; rfl
      · rw [if_neg (by decide), if_neg (by decide), if_pos (by decide), if_pos hin, h.yd p hp]; rfl
      · rw [if_neg (by decide), if_neg (by decide), if_neg (by decide), if_pos (by decide), if_pos hin, h.wt p hp]; rfl
      · rw [if_neg (by decide), if_neg (by decide), if_neg (by decide), if_neg (by decide), if_pos (by decide), if_pos hin, h.ld p hp]; rfl
      · rw [if_neg (by decide), if_neg (by decide), if_neg (by decide), if_neg (by decide), if_neg (by decide), if_pos hin, h.nu p hp]; rfl
      · rw [if_pos (by decide), if_neg (by decide), if_pos (by decide), if_pos hin, h.kd p hp]; rfl
      · rw [if_pos (by decide), if_neg (by decide), if_neg (by decide), if_pos hin, h.wt p hp, ob (m_reaches h b3 hp (b3.wt p hp))]; rfl
      · rw [if_pos (by decide), if_pos (by decide), show (nI 7) = 7 from rfl, ob (m_sum7 h b3 (by omega))]; rfl
      · rw [if_pos (by decide), if_pos (by decide), show (nI 8) = 8 from rfl, ob (m_sum8 h b3 (by omega))]; rfl
    · rw [decide_eq_false q2, if_neg (by decide), if_neg (fun q => q2 q.2)]
  · rw [decide_eq_false q1, if_neg (by decide), if_neg (fun q => q1 q.1)]
end
theorem L_told {t : mTX} {s : mSG} (h : INV t s) (x y : Int32) : ∃ v s1, X8_told x y s = some (v, s1) ∧ X9_told x y s1 = some v ∧ INV t s1 := by
  obtain ⟨tc, V, A, hk, K, ts, tp, sk, sn, si, hv⟩ := h
  obtain ⟨s1, e1⟩ := c_told hv x y
  have i1 := IV_fr hv (FR_X8_told _ _ _ _ e1) rfl
  exact ⟨_, s1, e1, m_told i1.2.1.2.1 i1.2.1.2.2 x y, tc, V, A, hk, K, ts, tp, sk, sn, si, i1⟩
