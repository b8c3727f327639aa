/-! taken -/
theorem it_l {σ ε : Type} {b : σ → Option (σ ⊕ ε)} {n : Nat} {x y : σ} (hn : 0 < n) (h : b x = some (.inl y)) : iter b n x = iter b (n - 1) y := by
  obtain ⟨m, rfl⟩ : ∃ m, n = m + 1 := ⟨n - 1, by omega⟩
  show (match b x with
    | none => none
    | some (.inl y) => iter b m y
    | some (.inr e) => some e) = iter b (m + 1 - 1) y
  rw [h]
  rfl
theorem it_r {σ ε : Type} {b : σ → Option (σ ⊕ ε)} {n : Nat} {x : σ} {e : ε} (hn : 0 < n) (h : b x = some (.inr e)) : iter b n x = some e := by
  obtain ⟨m, rfl⟩ : ∃ m, n = m + 1 := ⟨n - 1, by omega⟩
  show (match b x with
    | none => none
    | some (.inl y) => iter b m y
    | some (.inr e) => some e) = some e
  rw [h]
/-- the kind above; 6 where there is none -/
def aOver (k : Nat) : Nat := match k with
  | 0 => 6
  | 1 => 0
  | 2 => 0
  | 3 => 1
  | 4 => 2
  | 5 => 1
  | _ => 6
/-- whether k is under a, in at most n steps up -/
def aUnd : Nat → Nat → Nat → Bool
  | 0, _, _ => false
  | n + 1, k, a => if k = 6 then false else if k = a then true else aUnd n (aOver k) a
def kI (k : Nat) : Int32 := if k = 6 then -1 else nI k
theorem aOver_le (k : Nat) : aOver k ≤ 6 := by
  unfold aOver
  split <;> decide
theorem c_above {s : mSG} (h : SS s) {k : Nat} (hk : k ≤ 5) : s.1 1 k = kI (aOver k) := by
  obtain ⟨⟨a0, a1, a2, a3, a4, a5⟩, _⟩ := h
  have hc : k = 0 ∨ k = 1 ∨ k = 2 ∨ k = 3 ∨ k = 4 ∨ k = 5 := by omega
  rcases hc with rfl | rfl | rfl | rfl | rfl | rfl
  · exact a0
  · exact a1
  · exact a2
  · exact a3
  · exact a4
  · exact a5
theorem m_over {k : Nat} (hk : k ≤ 5) : X9_over (nI k) = kI (aOver k) := by
  have hc : k = 0 ∨ k = 1 ∨ k = 2 ∨ k = 3 ∨ k = 4 ∨ k = 5 := by omega
  rcases hc with rfl | rfl | rfl | rfl | rfl | rfl <;> decide
theorem c_und {s : mSG} (h : SS s) {a : Nat} (ha : a ≤ 5) : ∀ n k j m, k ≤ 6 → j + n = 6 → n < m → iter (fun v : Int32 × Int32 => X2_isUnder_b4 (nI a) v.1 v.2 s) m (kI k, nI j) = some (if aUnd n k a = true then .inl () else .inr ()) := by
  intro n
  induction n with
  | zero =>
    intro k j m hk hj hm
    have e : X2_isUnder_b4 (nI a) (kI k) (nI j) s = some (.inr (.inr ())) := by
      unfold X2_isUnder_b4
      rw [if_pos (show (6 : Int32) ≤ nI j by rw [show j = 6 by omega]; decide)]
    rw [it_r (e := .inr ()) hm e]
    rfl
  | succ n ih =>
    intro k j m hk hj hm
    have g6 : ¬ (6 : Int32) ≤ nI j := gl_le (x := 6) (m := 6) rfl (by omega) (by omega)
    unfold aUnd
    by_cases q6 : k = 6
    · subst q6
      have e : X2_isUnder_b4 (nI a) (kI 6) (nI j) s = some (.inr (.inr ())) := by
        unfold X2_isUnder_b4
        rw [if_neg g6, show X8_isWithin (kI 6) 5 = false by decide]
        rfl
      rw [it_r (e := .inr ()) (by omega) e]
      rfl
    · have ek : kI k = nI k := by unfold kI; rw [if_neg q6]
      have hw : X8_isWithin (nI k) 5 = true := by
        rw [show X8_isWithin (nI k) 5 = _ from c_within (nI k) 5]
        exact decide_eq_true ((inR_nI (by omega) (by omega)).mpr (by omega))
      rw [if_neg q6, ek]
      by_cases qa : k = a
      · have e : X2_isUnder_b4 (nI a) (nI k) (nI j) s = some (.inr (.inl ())) := by
          unfold X2_isUnder_b4
          rw [if_neg g6, hw, if_pos rfl, if_pos (by rw [qa])]
        rw [it_r (e := .inl ()) (by omega) e, if_pos qa]
        rfl
      · have e : X2_isUnder_b4 (nI a) (nI k) (nI j) s = some (.inl (kI (aOver k), nI (j + 1))) := by
          unfold X2_isUnder_b4
          rw [if_neg g6, hw, if_pos rfl, if_neg (by rw [nl_eq (by omega) (by omega)]; exact qa), if_pos (gl_inb (show k < 6 by omega) (by omega)), nl_cl (by omega), c_above h (by omega), nI_1]
        rw [it_l (y := (kI (aOver k), nI (j + 1))) (by omega) e, if_neg qa]
        exact ih (aOver k) (j + 1) (m - 1) (aOver_le k) (by omega) (by omega)
def aRank (k : Nat) : Nat := match k with
  | 0 => 2
  | 1 => 3
  | 2 => 3
  | 3 => 4
  | 4 => 4
  | 5 => 4
  | _ => 1
theorem aRank_over {k : Nat} (hk : k ≤ 5) : aRank (aOver k) + 1 ≤ aRank k := by
  have hc : k = 0 ∨ k = 1 ∨ k = 2 ∨ k = 3 ∨ k = 4 ∨ k = 5 := by omega
  rcases hc with rfl | rfl | rfl | rfl | rfl | rfl <;> decide
theorem m_und {s : mSG} {a : Nat} (ha : a ≤ 5) (x : Int32) : ∀ n k m, k ≤ 6 → aRank k ≤ n → n < m → iter (fun v : Int32 => X9_taken_b33 x (nI a) v s) m (kI k) = some (if aUnd n k a = true then nI a else -1) := by
  intro n
  induction n with
  | zero =>
    intro k m hk hr hm
    have : 1 ≤ aRank k := by unfold aRank; split <;> decide
    omega
  | succ n ih =>
    intro k m hk hr hm
    unfold aUnd
    by_cases q6 : k = 6
    · subst q6
      have e : X9_taken_b33 x (nI a) (kI 6) s = some (.inr (-1)) := by
        unfold X9_taken_b33
        rw [if_pos (show kI 6 = -1 from rfl)]
        rfl
      rw [it_r (e := (-1 : Int32)) (by omega) e]
      rfl
    · have ek : kI k = nI k := by unfold kI; rw [if_neg q6]
      have g1 : ¬ nI k = -1 := gl_neN (x := -1) (b := 1) rfl (by omega) (by omega) (by omega)
      rw [if_neg q6, ek]
      by_cases qa : k = a
      · have e : X9_taken_b33 x (nI a) (nI k) s = some (.inr (nI k)) := by
          unfold X9_taken_b33
          rw [if_neg g1, if_pos (by rw [qa])]
        rw [it_r (e := nI k) (by omega) e, if_pos qa, if_pos rfl, qa]
      · have e : X9_taken_b33 x (nI a) (nI k) s = some (.inl (kI (aOver k))) := by
          unfold X9_taken_b33
          rw [if_neg g1, if_neg (by rw [nl_eq (by omega) (by omega)]; exact qa), m_over (by omega)]
        have hr2 := aRank_over (k := k) (by omega)
        rw [it_l (y := kI (aOver k)) (by omega) e, if_neg qa]
        exact ih (aOver k) (m - 1) (aOver_le k) (by omega) (by omega)
theorem L_taken {t : mTX} {s : mSG} (h : INV t s) (x y : Int32) : ∃ v, X8_taken x y s = some v ∧ X9_taken x y s = some v := by
  obtain ⟨tc, V, A, hk, K, ts, tp, sk, sn, si, _, ⟨b1, b2, b3⟩, _, _, _, _, ss⟩ := h
  have h5 := b3.pp
  unfold X8_taken X9_taken
  rw [show X8_isWithin y 5 = _ from c_within y 5, show X9_in y.toInt64 0 5 = decide (inR y 5) from b_dec (m_inR y 5 5 rfl), c_isOne_7 b1 h5, m_isOne b2 h5]
  by_cases q1 : inR y 5
  · rw [decide_eq_true q1, if_pos rfl, if_pos rfl]
    by_cases q2 : inP x A.pp
    · rw [decide_eq_true q2, if_pos rfl, if_pos rfl]
      obtain ⟨a, ha, rfl⟩ := inR_of q1 (by omega)
      obtain ⟨p, hp, rfl⟩ := inP_of q2 (by omega)
      have hkd := b3.kd p hp
      have ek : kI (A.kd p) = nI (A.kd p) := by unfold kI; rw [if_neg (by omega)]
      rw [ob (show X5_trait_7 (nI p) 5 s = some (nI (A.kd p)) from (c_trait_7 (w := 5) b1 h5 hp (by omega)).trans (congrArg some (b1.kd p hp)))]
      have hr : aRank (A.kd p) ≤ 6 := by unfold aRank; split <;> decide
      have c1 : X2_isUnder (nI (A.kd p)) (nI a) s = some (aUnd 6 (A.kd p) a) := by
        unfold X2_isUnder X2_isUnder_l4
        rw [← ek, show (0 : Int32) = nI 0 from rfl, ob (c_und ss ha 6 (A.kd p) 0 mFU (by omega) rfl (by show 6 < 1000000; omega))]
        cases aUnd 6 (A.kd p) a <;> rfl
      have m1 : X9_taken_l33 (nI p) (nI a) s (nI (A.kd p)) = some (if aUnd 6 (A.kd p) a = true then nI a else -1) := by
        unfold X9_taken_l33
        rw [← ek]
        exact m_und ha (nI p) 6 (A.kd p) mFU (by omega) hr (by show 6 < 1000000; omega)
      have hin := gl_inb (show p < 5 by omega) (show p < 2147483648 by omega)
      rw [ob c1, if_pos hin, nl_cl (by omega), b2.kd p hp, ob m1]
      unfold X9_taken_j51
      cases hU : aUnd 6 (A.kd p) a with
      | true =>
        refine ⟨nI (A.nu p), ?_, ?_⟩
        · rw [if_pos rfl, ob (show X5_trait_7 (nI p) 4 s = some (nI (A.nu p)) from (c_trait_7 (w := 4) b1 h5 hp (by omega)).trans (congrArg some (b1.nu p hp)))]
        · rw [if_pos rfl, if_pos rfl, if_pos hin, nl_cl (by omega), b2.nu p hp]
      | false =>
        refine ⟨-13, rfl, ?_⟩
        rw [if_neg (show ¬ (false = true) by decide), if_neg (show ¬ ((-1 : Int32) = nI a) from fun e => gl_neN (x := -1) (b := 1) rfl (show a < 2147483648 by omega) (by omega) (by omega) e.symm)]
    · rw [decide_eq_false q2, if_neg (by decide), if_neg (by decide)]
      exact ⟨_, rfl, rfl⟩
  · rw [decide_eq_false q1, if_neg (by decide), if_neg (by decide)]
    exact ⟨_, rfl, rfl⟩
