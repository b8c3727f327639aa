/-! THE CALLS, ONE BY ONE -/
def INV (t : mTX) (s : mSG) : Prop := ∃ tc V A hk K ts tp sk sn si, IV t tc V A hk K ts tp sk sn si s
theorem e8m {a b : Nat} : (8 : Int32) * nI a + nI b = nI (a * 8 + b) := by
  rw [show (8 : Int32) = nI 8 from rfl, pk_mul, nI_add, Nat.mul_comm 8 a]
theorem e5m {a b : Nat} : (5 : Int32) * nI a + nI b = nI (a * 5 + b) := by
  rw [show (5 : Int32) = nI 5 from rfl, pk_mul, nI_add, Nat.mul_comm 5 a]
theorem c_far {A : Ab} {s : mSG} {tc : Nat} (h : RS 7 8 9 10 11 A s) (ok : AbOK A tc) (x y : Int32) : X8_far x y s = some (if inR x 7 ∧ inR y 7 ∧ ¬ x = y then nI (A.mud (x.toNatClampNeg * 8 + y.toNatClampNeg)) else -2) := by
  unfold X8_far
  rw [c_two]
  by_cases q : inR x 7 ∧ inR y 7 ∧ ¬ x = y
  · obtain ⟨a, ha, rfl⟩ := inR_of q.1 (by omega)
    obtain ⟨b, hb, rfl⟩ := inR_of q.2.1 (by omega)
    rw [decide_eq_true q, if_pos rfl, if_pos q, ob (c_mudB_7 h ok ha hb), nl_cl (by omega), nl_cl (by omega)]
  · rw [decide_eq_false q, if_neg (by decide), if_neg q]
theorem m_far {A : Ab} {s : mSG} (h : RM A s) (x y : Int32) : X9_far x y s = some (if inR x 7 ∧ inR y 7 ∧ ¬ x = y then nI (A.mud (x.toNatClampNeg * 8 + y.toNatClampNeg)) else -2) := by
  unfold X9_far
  rw [m_isStone, m_isStone]
  by_cases q1 : inR x 7
  · rw [decide_eq_true q1, if_pos rfl]
    by_cases q2 : inR y 7
    · rw [decide_eq_true q2, if_pos rfl]
      by_cases q3 : x = y
      · rw [if_pos q3, if_neg (fun q => q.2.2 q3)]
      · have q : inR x 7 ∧ inR y 7 ∧ ¬ x = y := ⟨q1, q2, q3⟩
        rw [if_neg q3]
        obtain ⟨a, ha, rfl⟩ := inR_of q1 (by omega)
        obtain ⟨b, hb, rfl⟩ := inR_of q2 (by omega)
        rw [if_pos q, e8m, if_pos (gl_inb (show a * 8 + b < 64 by omega) (by omega)), nl_cl (by omega), nl_cl (by omega), nl_cl (by omega), h.mud _ (by omega)]
    · rw [decide_eq_false q2, if_neg (by decide), if_neg (fun q => q2 q.2.1)]
  · rw [decide_eq_false q1, if_neg (by decide), if_neg (fun q => q1 q.1)]
theorem L_far {t : mTX} {s : mSG} (h : INV t s) (x y : Int32) : ∃ v, X8_far x y s = some v ∧ X9_far x y s = some v := by
  obtain ⟨tc, V, A, hk, K, ts, tp, sk, sn, si, _, ⟨b1, b2, b3⟩, _⟩ := h
  exact ⟨_, c_far b1 b3 x y, m_far b2 x y⟩
theorem L_owed {t : mTX} {s : mSG} (h : INV t s) (x y : Int32) : ∃ v, X8_owed x y s = some v ∧ X9_owed x y s = some v := by
  obtain ⟨tc, V, A, hk, K, ts, tp, sk, sn, si, _, ⟨b1, b2, b3⟩, _⟩ := h
  have h5 := b3.pp
  unfold X8_owed X9_owed
  rw [c_isOne_7 b1 h5, c_isOne_7 b1 h5, m_isOne b2 h5, m_isOne b2 h5]
  by_cases q1 : inP x A.pp
  · rw [decide_eq_true q1, if_pos rfl, if_pos rfl]
    by_cases q2 : inP y A.pp
    · rw [decide_eq_true q2, if_pos rfl, if_pos rfl]
      obtain ⟨a, ha, rfl⟩ := inP_of q1 (by omega)
      obtain ⟨b, hb, rfl⟩ := inP_of q2 (by omega)
      rw [ob (c_debt_7 b1 b3 (show a < 5 by omega) (show b < 5 by omega)), e5m, if_pos (gl_inb (show a * 5 + b < 25 by omega) (by omega)), nl_cl (by omega), b2.ow _ (by omega)]
      exact ⟨_, rfl, rfl⟩
    · rw [decide_eq_false q2, if_neg (by decide), if_neg (by decide)]
      exact ⟨_, rfl, rfl⟩
  · rw [decide_eq_false q1, if_neg (by decide), if_neg (by decide)]
    exact ⟨_, rfl, rfl⟩
/-- an answer that both give, where each only works -/
theorem L_work {t : mTX} {s : mSG} {α : Type} {F G : mSG → Option (α × mSG)} {WF WG : List (Nat × Option Nat)} {v : α} {tc : Nat} {V : mVT} {A : Ab} {hk : Bool} {K : Ab} {ts : Nat} {tp sk sn : Nat → Nat} {si : Nat → Nat → Int32} (h : IV t tc V A hk K ts tp sk sn si s) (hF : ∀ s, IV t tc V A hk K ts tp sk sn si s → ∃ s', F s = some (v, s')) (hG : ∀ s, IV t tc V A hk K ts tp sk sn si s → ∃ s', G s = some (v, s')) (fF : ∀ s o, F s = some o → Fr WF s o.2) (fG : ∀ s o, G s = some o → Fr WG s o.2) (wF : scrW WF = true) (wG : scrW WG = true) : ∃ v s1 s2, F s = some (v, s1) ∧ G s1 = some (v, s2) ∧ INV t s2 := by
  obtain ⟨s1, e1⟩ := hF s h
  have i1 := IV_fr h (fF _ _ e1) wF
  obtain ⟨s2, e2⟩ := hG s1 i1
  exact ⟨v, s1, s2, e1, e2, tc, V, A, hk, K, ts, tp, sk, sn, si, IV_fr i1 (fG _ _ e2) wG⟩
/-- what can answers -/
def vCan (V : mVT) (A : Ab) (x y z : Int32) : Int32 := if inP x A.pp ∧ inR y 7 ∧ inR z 1 then (if z = 0 then (if aH V A x.toNatClampNeg y.toNatClampNeg = 0 then 0 else 1) else (if aH V A x.toNatClampNeg y.toNatClampNeg = 0 then -1 else nI (aH V A x.toNatClampNeg y.toNatClampNeg))) else -2
section
variable {t : mTX} {tc : Nat} {V : mVT} {A : Ab} {hk : Bool} {K : Ab} {ts : Nat} {tp sk sn : Nat → Nat} {si : Nat → Nat → Int32} {s : mSG}
theorem c_can (h : IV t tc V A hk K ts tp sk sn si s) (x y z : Int32) : ∃ s', X8_can t x y z s = some (vCan V A x y z, s') := by
  obtain ⟨⟨a1, a2, a3, a4, a5, a6⟩, ⟨b1, b2, b3⟩, _⟩ := h
  have h5 := b3.pp
  unfold X8_can vCan
  rw [c_isOne_7 b1 h5, c_isStone, show X8_isWithin z 1 = _ from c_within z 1]
  by_cases q : inP x A.pp ∧ inR y 7 ∧ inR z 1
  · rw [decide_eq_true q.1, decide_eq_true q.2.1, decide_eq_true q.2.2, if_pos rfl, if_pos rfl, if_pos rfl, if_pos q]
    obtain ⟨p, hp, rfl⟩ := inP_of q.1 (by omega)
    obtain ⟨b, hb, rfl⟩ := inR_of q.2.1 (by omega)
    rw [ob (c_rule_7 a1 a3 a6 b1 b3)]
    obtain ⟨s1, e1, g1⟩ := c_be_28_7 b1 b3 hp A.ru
    rw [ob e1]
    have f1 := FR_X0_be_28_7 _ _ _ _ e1
    have r1 := RS_fr b1 f1 (fun _ => rfl) (fun _ => rfl) (fun _ => rfl) (fun _ => rfl) (fun _ => rfl)
    rw [ob (show X5_trait_7 (nI p) 0 s1 = some (nI (A.st p)) from (c_trait_7 (w := 0) r1 h5 hp (by omega)).trans (congrArg some (r1.st p hp)))]
    rw [ob (c_mudB_7 r1 b3 (b3.st p hp) hb)]
    obtain ⟨s2, e2⟩ := c_hours_28 (CT_fr a1 f1 rfl) g1 b3.ru (b3.kd p hp) (b3.nu p hp) (b3.yd p hp) (b3.wt p hp) (b3.ld p hp) (A.st p) b (b3.mud (A.st p * 8 + b))
    rw [ob e2, nl_cl (by omega), nl_cl (by omega)]
    refine ⟨s2, ?_⟩
    have hle := aH_le (V := V) b3 hp b
    show (if z = 0 then (if nI (aH V A p b) ≤ 0 then some (0, s2) else some (1, s2)) else (if nI (aH V A p b) ≤ 0 then some (-1, s2) else some (nI (aH V A p b), s2))) = _
    by_cases q0 : aH V A p b = 0
    · rw [q0, if_pos (show nI 0 ≤ 0 by decide), if_pos (show nI 0 ≤ 0 by decide), if_pos rfl, if_pos rfl]
      split <;> rfl
    · rw [if_neg (nI_nle (by omega) (by omega)), if_neg (nI_nle (by omega) (by omega)), if_neg q0, if_neg q0]
      split <;> rfl
  · rw [if_neg q]
    by_cases q1 : inP x A.pp
    · by_cases q2 : inR y 7
      · rw [decide_eq_true q1, decide_eq_true q2, decide_eq_false (fun q3 => q ⟨q1, q2, q3⟩), if_pos rfl, if_pos rfl, if_neg (by decide)]
        exact ⟨_, rfl⟩
      · rw [decide_eq_true q1, decide_eq_false q2, if_pos rfl, if_neg (by decide)]
        exact ⟨_, rfl⟩
    · rw [decide_eq_false q1, if_neg (by decide)]
      exact ⟨_, rfl⟩
theorem m_can (h : IV t tc V A hk K ts tp sk sn si s) (x y z : Int32) : ∃ s', X9_can x y z s = some (vCan V A x y z, s') := by
  have hv := h
  obtain ⟨⟨a1, a2, a3, a4, a5, a6⟩, ⟨b1, b2, b3⟩, _⟩ := h
  have h5 := b3.pp
  have hh := b3.hr
  unfold X9_can vCan
  rw [m_isOne b2 h5, m_isStone, show X9_in z.toInt64 0 1 = decide (inR z 1) from b_dec (m_inR z 1 1 rfl)]
  by_cases q : inP x A.pp ∧ inR y 7 ∧ inR z 1
  · rw [decide_eq_true q.1, decide_eq_true q.2.1, decide_eq_true q.2.2, if_pos rfl, if_pos rfl, if_pos rfl, if_pos q]
    obtain ⟨p, hp, rfl⟩ := inP_of q.1 (by omega)
    obtain ⟨b, hb, rfl⟩ := inR_of q.2.1 (by omega)
    rw [if_pos (gl_inb (show p < 5 by omega) (by omega)), b2.hr, ob (m_rainAt b2 (by omega)), nl_cl (show p < 2147483648 by omega), nl_cl (show b < 2147483648 by omega), b2.wt p hp, b2.st p hp]
    obtain ⟨s3, e3⟩ := m_canGo a1 a2 b2 b3 (rn := A.rn (A.hr % 24)) hp (b3.wt p hp) (b3.st p hp) hb
    rw [ob e3]
    have f3 := FR_X9_canGo _ _ _ _ _ _ _ e3
    obtain ⟨⟨a1', a2', a3', a4', a5', a6'⟩, ⟨b1', b2', b3'⟩, _⟩ := IV_fr hv f3 rfl
    show ∃ s', (if z = 0 then (if b2i (decide (aH V A p b ≠ 0)) = 0 then some ((0 : Int32), s3) else some (1, s3)) else (if b2i (decide (aH V A p b ≠ 0)) = 0 then some (-1, s3) else (X9_rainAt (s3.1 56 16) s3).bind (fun r7 => (X9_hoursOf (nI p) (s3.1 66 p) r7 (s3.1 65 p) (nI b) s3).bind (fun r8 => some (r8.1, r8.2))))) = _
    by_cases q0 : aH V A p b = 0
    · rw [decide_eq_false (fun g => g q0), if_pos (show b2i false = 0 from rfl), if_pos (show b2i false = 0 from rfl), if_pos q0, if_pos q0]
      refine ⟨s3, ?_⟩
      split <;> rfl
    · rw [decide_eq_true q0, if_neg (show ¬ b2i true = 0 by decide), if_neg (show ¬ b2i true = 0 by decide), if_neg q0, if_neg q0]
      obtain ⟨s4, e4⟩ := m_hoursOf a1' a2' b2' b3 (rn := A.rn (A.hr % 24)) hp (b3.wt p hp) (b3.st p hp) hb q0
      rw [b2'.hr, ob (m_rainAt b2' (by omega)), b2'.wt p hp, b2'.st p hp, ob e4]
      by_cases z0 : z = 0
      · exact ⟨s3, by rw [if_pos z0, if_pos z0]⟩
      · exact ⟨s4, by rw [if_neg z0, if_neg z0]; rfl⟩
  · rw [if_neg q]
    by_cases q1 : inP x A.pp
    · by_cases q2 : inR y 7
      · rw [decide_eq_true q1, decide_eq_true q2, decide_eq_false (fun q3 => q ⟨q1, q2, q3⟩), if_pos rfl, if_pos rfl, if_neg (by decide)]
        exact ⟨_, rfl⟩
      · rw [decide_eq_true q1, decide_eq_false q2, if_pos rfl, if_neg (by decide)]
        exact ⟨_, rfl⟩
    · rw [decide_eq_false q1, if_neg (by decide)]
      exact ⟨_, rfl⟩
end
theorem L_can {t : mTX} {s : mSG} (h : INV t s) (x y z : Int32) : ∃ v s1 s2, X8_can t x y z s = some (v, s1) ∧ X9_can x y z s1 = some (v, s2) ∧ INV t s2 := by
  obtain ⟨tc, V, A, hk, K, ts, tp, sk, sn, si, hv⟩ := h
  exact L_work (F := X8_can t x y z) (G := X9_can x y z) (v := vCan V A x y z) hv (fun s h => c_can h x y z) (fun s h => m_can h x y z) (fun s o e => FR_X8_can _ _ _ _ _ _ e) (fun s o e => FR_X9_can _ _ _ _ _ e) rfl rfl
