/-! THE MODEL SEEKS -/
def DR (L : Nat → Nat × Nat) (dn : Nat → Bool) (s : mSG) : Prop := ∀ k, k < 80 → s.1 69 k = nI (L k).1 ∧ s.1 70 k = fI (L k).2 ∧ s.1 71 k = (if dn k = true then 1 else 0)
def DB (L : Nat → Nat × Nat) : Prop := ∀ k, k < 80 → (L k).1 ≤ 99999999 ∧ (L k).2 ≤ 8
theorem DR_fr {W : List (Nat × Option Nat)} {L : Nat → Nat × Nat} {dn : Nat → Bool} {s s' : mSG} (h : DR L dn s) (f : Fr W s s') (h1 : ∀ k, mW W 69 k = false) (h2 : ∀ k, mW W 70 k = false) (h3 : ∀ k, mW W 71 k = false) : DR L dn s' := fun k hk => by
  rw [(f _ _ (h1 k)).1, (f _ _ (h2 k)).1, (f _ _ (h3 k)).1]
  exact h k hk
section
variable {t : mTX} {tc : Nat} {V : mVT} {A : Ab} {p rn : Nat}
theorem DB_rl {hw : Nat → Nat → Nat → Nat} {fw : Nat → Nat} {v : Nat × Nat} {x b : Nat} {L : Nat → Nat × Nat} (h : DB L) (hb : b < 8) (hv : v.2 ≤ 8) : DB (rlx hw fw v x b L) := fun k hk => by
  obtain ⟨h1, h2⟩ := h k hk
  unfold rlx
  by_cases q : hw (x % 10) (x / 10) b = 0
  · rw [if_pos q]; exact ⟨h1, h2⟩
  · rw [if_neg q]
    by_cases q2 : k = plY fw x b
    · rw [if_pos q2]
      refine ⟨?_, ?_⟩
      · have := min2_l (L k) (plO hw v x b)
        omega
      · rcases min2_c (L k) (plO hw v x b) with e | e
        · rw [e]; exact h2
        · rw [e]
          show (if v.1 = 0 then b + 1 else v.2) ≤ 8
          split <;> omega
    · rw [if_neg q2]; exact ⟨h1, h2⟩
theorem m_leave {s : mSG} {L : Nat → Nat × Nat} {dn : Nat → Bool} {x b : Nat} (ok : AbOK A tc) (hp : p < A.pp) (hr : rn ≤ 9) (hx : x < 80) (hb : b < 8) (hB : DB L) (h9 : (L x).1 < 99999999) (h : MG t tc V A s) (hd : DR L dn s) : ∃ s', X9_leaves_b15 (nI p) (nI x) (nI rn) (nI (x / 10)) (nI (x % 10)) (nI b) s = some (.inl (nI (b + 1), s')) ∧ MG t tc V A s' ∧ DR (rlx (hbB V A p rn) (fun w => aSoak (A.kd p) w rn) (L x) x b L) dn s' := by
  have hM : hbB V A p rn (x % 10) (x / 10) b ≤ 315 := aHrs_le (ok.nu p hp) (ok.ld p hp) (ok.mud _)
  obtain ⟨s1, e1⟩ := m_canGo h.1 h.2.1 h.2.2 ok (rn := rn) hp (show x % 10 ≤ 9 by omega) (show x / 10 ≤ 7 by omega) (show b ≤ 7 by omega)
  have e1 : X9_canGo (nI p) (nI (x % 10)) (nI rn) (nI (x / 10)) (nI b) s = some (decide (hbB V A p rn (x % 10) (x / 10) b ≠ 0), s1) := e1
  have f1 := FR_X9_canGo _ _ _ _ _ _ _ e1
  have h1 := MG_fr h f1 rfl (fun _ => rfl) (fun _ => rfl) (fun _ => rfl) (fun _ => rfl) (fun _ => rfl) (fun _ => rfl) (fun _ => rfl) (fun _ => rfl) (fun _ => rfl) (fun _ => rfl) (fun _ => rfl) rfl rfl rfl
  have d1 := DR_fr hd f1 (fun _ => rfl) (fun _ => rfl) (fun _ => rfl)
  unfold X9_leaves_b15 X9_leaves_j94_15 X9_leaves_j132_15 X9_leaves_j150_15
  rw [if_neg (gl_le (x := 8) (m := 8) rfl hb (by omega)), ob e1, nI_1]
  dsimp only
  by_cases q : hbB V A p rn (x % 10) (x / 10) b = 0
  · rw [decide_eq_false (fun g => g q), if_neg (by decide)]
    refine ⟨s1, rfl, h1, ?_⟩
    unfold rlx
    rw [if_pos q]
    exact d1
  · rw [decide_eq_true q, if_pos rfl, if_pos (gl_inb hx (by omega))]
    obtain ⟨s2, e2⟩ := m_hoursOf h1.1 h1.2.1 h1.2.2 ok (rn := rn) hp (show x % 10 ≤ 9 by omega) (show x / 10 ≤ 7 by omega) (show b ≤ 7 by omega) q
    have e2 : X9_hoursOf (nI p) (nI (x % 10)) (nI rn) (nI (x / 10)) (nI b) s1 = some (nI (hbB V A p rn (x % 10) (x / 10) b), s2) := e2
    have f2 := FR_X9_hoursOf _ _ _ _ _ _ _ e2
    have h2 := MG_fr h1 f2 rfl (fun _ => rfl) (fun _ => rfl) (fun _ => rfl) (fun _ => rfl) (fun _ => rfl) (fun _ => rfl) (fun _ => rfl) (fun _ => rfl) (fun _ => rfl) (fun _ => rfl) (fun _ => rfl) rfl rfl rfl
    have d2 := DR_fr d1 f2 (fun _ => rfl) (fun _ => rfl) (fun _ => rfl)
    have es := m_soaks h2.2.2 ok hp (show x % 10 ≤ 9 by omega) hr
    have hso := aSoak_le (A.kd p) (x % 10) rn
    have hy : plY (fun w => aSoak (A.kd p) w rn) x b < 80 := by unfold plY; dsimp only; omega
    have ey : 10 * nI b + nI (aSoak (A.kd p) (x % 10) rn) = nI (plY (fun w => aSoak (A.kd p) w rn) x b) := by
      rw [show (10 : Int32) * nI b = nI (10 * b) from pk_mul 10 b, nI_add]
      rfl
    rw [ob e2]
    dsimp only
    rw [ob es, nl_cl (show x < 2147483648 by omega), (d1 x hx).1, (d2 x hx).1, (d2 x hx).2.1, nI_add, ey]
    have eby : ∀ (F : Int32 → Option ((Int32 × mSG) ⊕ mSG)), (if nI (L x).1 = 0 then F (nI b) else F (fI (L x).2)) = F (fI (plO (hbB V A p rn) (L x) x b).2) := fun F => by
      unfold plO
      dsimp only
      by_cases g : (L x).1 = 0
      · rw [if_pos (by rw [g]; rfl), if_pos g, fI_s]
      · rw [if_neg (nI_ne0 (by omega) (by omega)), if_neg g]
    have hb2 := (hB x hx).2
    have pb2 : (plO (hbB V A p rn) (L x) x b).2 ≤ 8 := by
      show (if (L x).1 = 0 then b + 1 else (L x).2) ≤ 8
      split <;> omega
    obtain ⟨y1, y2⟩ := hB _ hy
    generalize hyy : plY (fun w => aSoak (A.kd p) w rn) x b = y at hy y1 y2
    have eo : (L x).1 + hbB V A p rn (x % 10) (x / 10) b = (plO (hbB V A p rn) (L x) x b).1 := rfl
    rw [eo]
    have po1 : (plO (hbB V A p rn) (L x) x b).1 ≤ 100000399 := by rw [← eo]; omega
    have yes : lt2 (plO (hbB V A p rn) (L x) x b) (L y) → MG t tc V A (sI (sI s2 69 y (nI (plO (hbB V A p rn) (L x) x b).1)) 70 y (fI (plO (hbB V A p rn) (L x) x b).2)) ∧ DR (rlx (hbB V A p rn) (fun w => aSoak (A.kd p) w rn) (L x) x b L) dn (sI (sI s2 69 y (nI (plO (hbB V A p rn) (L x) x b).1)) 70 y (fI (plO (hbB V A p rn) (L x) x b).2)) := fun hl => by
      refine ⟨MG_sI (MG_sI h2 (by omega) (by omega)) (by omega) (by omega), fun k hk => ?_⟩
      unfold rlx
      rw [if_neg q, hyy]
      by_cases qk : k = y
      · subst qk
        rw [if_pos rfl, sI_adr (by decide), sI_same, sI_same, sI_adr (by decide), sI_adr (by decide)]
        unfold min2
        rw [if_pos hl]
        exact ⟨rfl, rfl, (d2 k hk).2.2⟩
      · rw [if_neg qk, sI_adr (by decide), sI_oth qk, sI_oth qk, sI_adr (by decide), sI_adr (by decide), sI_adr (by decide)]
        exact d2 k hk
    have no : ¬ lt2 (plO (hbB V A p rn) (L x) x b) (L y) → DR (rlx (hbB V A p rn) (fun w => aSoak (A.kd p) w rn) (L x) x b L) dn s2 := fun hl k hk => by
      unfold rlx
      rw [if_neg q, hyy]
      by_cases qk : k = y
      · subst qk
        rw [if_pos rfl]
        unfold min2
        rw [if_neg hl]
        exact d2 k hk
      · rw [if_neg qk]
        exact d2 k hk
    rw [if_pos (gl_inb hy (by omega)), nl_cl (show y < 2147483648 by omega), (d2 y hy).1, (d2 y hy).2.1]
    simp only [gl_inb hy (show y < 2147483648 by omega), if_true]
    rw [eby (fun z => if nI (plO (hbB V A p rn) (L x) x b).1 < nI (L y).1 then some (.inl (nI (b + 1), sI (sI s2 69 y (nI (plO (hbB V A p rn) (L x) x b).1)) 70 y z)) else if nI (plO (hbB V A p rn) (L x) x b).1 = nI (L y).1 then (if fI (L y).2 ≤ z then some (.inl (nI (b + 1), s2)) else some (.inl (nI (b + 1), sI (sI s2 69 y (nI (plO (hbB V A p rn) (L x) x b).1)) 70 y z))) else some (.inl (nI (b + 1), s2)))]
    by_cases q1 : (plO (hbB V A p rn) (L x) x b).1 < (L y).1
    · rw [if_pos (nI_lt q1 (by omega))]
      exact ⟨_, rfl, yes (Or.inl q1)⟩
    · rw [if_neg (nI_nlt (by omega) (by omega))]
      by_cases q2 : (plO (hbB V A p rn) (L x) x b).1 = (L y).1
      · rw [if_pos (by rw [q2])]
        by_cases q3 : (L y).2 ≤ (plO (hbB V A p rn) (L x) x b).2
        · rw [if_pos ((fI_le (by omega) (by omega)).mpr q3)]
          exact ⟨_, rfl, h2, no (fun g => by omega)⟩
        · rw [if_neg (fun g => q3 ((fI_le (by omega) (by omega)).mp g))]
          exact ⟨_, rfl, yes (Or.inr ⟨q2, by omega⟩)⟩
      · rw [if_neg (show ¬ nI (plO (hbB V A p rn) (L x) x b).1 = nI (L y).1 from by rw [nl_eq (by omega) (by omega)]; exact q2)]
        exact ⟨_, rfl, h2, no (fun g => by omega)⟩
theorem m_leaves {s : mSG} {L : Nat → Nat × Nat} {dn : Nat → Bool} {x : Nat} (ok : AbOK A tc) (hp : p < A.pp) (hr : rn ≤ 9) (hx : x < 80) (hB : DB L) (h9 : (L x).1 < 99999999) (hsame : ∀ n, n ≤ 8 → fo (rlx (hbB V A p rn) (fun w => aSoak (A.kd p) w rn) (L x) x) 0 n L x = L x) (h : MG t tc V A s) (hd : DR L dn s) : ∃ s', X9_leaves (nI p) (nI x) (nI rn) s = some s' ∧ MG t tc V A s' ∧ DR (fo (rlx (hbB V A p rn) (fun w => aSoak (A.kd p) w rn) (L x) x) 0 8 L) dn s' ∧ DB (fo (rlx (hbB V A p rn) (fun w => aSoak (A.kd p) w rn) (L x) x) 0 8 L) := by
  have key : ∃ e, X9_leaves_l15 (nI p) (nI x) (nI rn) (nI (x / 10)) (nI (x % 10)) (0, s) = some e ∧ (MG t tc V A e ∧ DR (fo (rlx (hbB V A p rn) (fun w => aSoak (A.kd p) w rn) (L x) x) 0 8 L) dn e ∧ DB (fo (rlx (hbB V A p rn) (fun w => aSoak (A.kd p) w rn) (L x) x) 0 8 L)) := by
    unfold X9_leaves_l15
    refine lpN (fun b (v : Int32 × mSG) => v.1 = nI b ∧ MG t tc V A v.2 ∧ DR (fo (rlx (hbB V A p rn) (fun w => aSoak (A.kd p) w rn) (L x) x) 0 b L) dn v.2 ∧ DB (fo (rlx (hbB V A p rn) (fun w => aSoak (A.kd p) w rn) (L x) x) 0 b L)) _ 8 (by unfold mFU; omega) ?_ ?_ (k := 0) (by omega) (x := (0, s)) ⟨rfl, h, hd, hB⟩
    · intro b v hb hv
      obtain ⟨y, s1⟩ := v
      obtain ⟨g1, g2, g3, g4⟩ := hv
      have g1 : y = nI b := g1
      subst g1
      have sx := hsame b (by omega)
      obtain ⟨s2, e2, m2, d2⟩ := m_leave ok hp hr hx hb g4 (by rw [sx]; exact h9) g2 g3
      rw [sx] at d2
      refine ⟨(nI (b + 1), s2), e2, rfl, m2, ?_, ?_⟩
      · rw [fo_st (Nat.zero_le _)]
        exact d2
      · rw [fo_st (Nat.zero_le _)]
        exact DB_rl g4 hb (hB x hx).2
    · intro v hv
      obtain ⟨y, s1⟩ := v
      obtain ⟨g1, g2, g3, g4⟩ := hv
      have g1 : y = nI 8 := g1
      subst g1
      refine ⟨s1, ?_, g2, g3, g4⟩
      show X9_leaves_b15 (nI p) (nI x) (nI rn) (nI (x / 10)) (nI (x % 10)) (nI 8) s1 = _
      unfold X9_leaves_b15
      rw [if_pos (show (8 : Int32) ≤ nI 8 from by decide)]
  obtain ⟨e, he, hq⟩ := key
  refine ⟨e, ?_, hq⟩
  unfold X9_leaves
  have e10 : nI x / 10 = nI (x / 10) := nl_div (d := 10) (by omega) (by omega) (by omega)
  have em : nI x - nI (x / 10) * 10 = nI (x % 10) := by rw [← e10]; exact nl_rem (d := 10) (by omega) (by omega) (by omega)
  rw [e10, em, ob he]
end
/-- the soonest place that is not done -/
theorem m_select {s : mSG} {L : Nat → Nat × Nat} {dn : Nat → Bool} (hB : DB L) (hd : DR L dn s) (x1 x2 x3 : Int32) : ∃ e, X9_seeks_l78 x1 x2 x3 s (-1, 0) = some e ∧ ((e = -1 ∧ ∀ k, k < 80 → dn k = false → ¬ (L k).1 < 99999999) ∨ ∃ k, k < 80 ∧ e = nI k ∧ dn k = false ∧ (L k).1 < 99999999 ∧ ∀ j, j < 80 → dn j = false → (L k).1 ≤ (L j).1) := by
  unfold X9_seeks_l78
  refine lpN (fun n (v : Int32 × Int32) => v.2 = nI n ∧ ((v.1 = -1 ∧ ∀ k, k < n → dn k = false → ¬ (L k).1 < 99999999) ∨ ∃ k, k < n ∧ k < 80 ∧ v.1 = nI k ∧ dn k = false ∧ (L k).1 < 99999999 ∧ ∀ j, j < n → dn j = false → (L k).1 ≤ (L j).1)) (fun e : Int32 => (e = -1 ∧ ∀ k, k < 80 → dn k = false → ¬ (L k).1 < 99999999) ∨ ∃ k, k < 80 ∧ e = nI k ∧ dn k = false ∧ (L k).1 < 99999999 ∧ ∀ j, j < 80 → dn j = false → (L k).1 ≤ (L j).1) 80 (by unfold mFU; omega) ?_ ?_ (k := 0) (by omega) (x := (-1, 0)) ⟨rfl, Or.inl ⟨rfl, fun k hk => absurd hk (Nat.not_lt_zero k)⟩⟩
  · intro n v hn hv
    obtain ⟨y, z⟩ := v
    obtain ⟨g1, g2⟩ := hv
    have g1 : z = nI n := g1
    subst g1
    have g2 : (y = -1 ∧ ∀ k, k < n → dn k = false → ¬ (L k).1 < 99999999) ∨ ∃ k, k < n ∧ k < 80 ∧ y = nI k ∧ dn k = false ∧ (L k).1 < 99999999 ∧ ∀ j, j < n → dn j = false → (L k).1 ≤ (L j).1 := g2
    obtain ⟨d1, d2, d3⟩ := hd n hn
    have b1 := (hB n hn).1
    have stay : X9_seeks_b78 x1 x2 x3 y (nI n) s = some (.inl (y, nI (n + 1))) → (dn n = true ∨ ¬ (L n).1 < 99999999 ∨ ∃ k, k < 80 ∧ y = nI k ∧ (L k).1 ≤ (L n).1) → ∃ w, X9_seeks_b78 x1 x2 x3 y (nI n) s = some (.inl w) ∧ w.2 = nI (n + 1) ∧ ((w.1 = -1 ∧ ∀ k, k < n + 1 → dn k = false → ¬ (L k).1 < 99999999) ∨ ∃ k, k < n + 1 ∧ k < 80 ∧ w.1 = nI k ∧ dn k = false ∧ (L k).1 < 99999999 ∧ ∀ j, j < n + 1 → dn j = false → (L k).1 ≤ (L j).1) := by
      intro hstep hwhy
      refine ⟨_, hstep, rfl, ?_⟩
      rcases g2 with ⟨c1, c2⟩ | ⟨k, c1, c2, c3, c4, c5, c6⟩
      · refine Or.inl ⟨c1, fun k hk hdk => ?_⟩
        by_cases qk : k = n
        · subst qk
          rcases hwhy with h | h | ⟨k', h1, h2, h3⟩
          · rw [hdk] at h; cases h
          · exact h
          · exfalso
            rw [c1] at h2
            exact (show ¬ nI k' = -1 from gl_neN (b := 1) rfl (by omega) (by omega) (by omega)) h2.symm
        · exact c2 k (by omega) hdk
      · refine Or.inr ⟨k, by omega, c2, c3, c4, c5, fun j hj hdj => ?_⟩
        by_cases qj : j = n
        · subst qj
          rcases hwhy with h | h | ⟨k', h1, h2, h3⟩
          · rw [hdj] at h; cases h
          · omega
          · have : k = k' := by rw [c3, nl_eq (by omega) (by omega)] at h2; exact h2
            rw [this]; exact h3
        · exact c6 j (by omega) hdj
    have take : X9_seeks_b78 x1 x2 x3 y (nI n) s = some (.inl (nI n, nI (n + 1))) → dn n = false → (L n).1 < 99999999 → (∀ k, k < 80 → y = nI k → (L n).1 ≤ (L k).1) → ∃ w, X9_seeks_b78 x1 x2 x3 y (nI n) s = some (.inl w) ∧ w.2 = nI (n + 1) ∧ ((w.1 = -1 ∧ ∀ k, k < n + 1 → dn k = false → ¬ (L k).1 < 99999999) ∨ ∃ k, k < n + 1 ∧ k < 80 ∧ w.1 = nI k ∧ dn k = false ∧ (L k).1 < 99999999 ∧ ∀ j, j < n + 1 → dn j = false → (L k).1 ≤ (L j).1) := by
      intro hstep hdn h9 hle
      refine ⟨_, hstep, rfl, Or.inr ⟨n, by omega, hn, rfl, hdn, h9, fun j hj hdj => ?_⟩⟩
      by_cases qj : j = n
      · rw [qj]; exact Nat.le_refl _
      · rcases g2 with ⟨c1, c2⟩ | ⟨k, c1, c2, c3, c4, c5, c6⟩
        · have := c2 j (by omega) hdj
          omega
        · exact Nat.le_trans (hle k c2 c3) (c6 j (by omega) hdj)
    have head : X9_seeks_b78 x1 x2 x3 y (nI n) s = (if (if dn n = true then (1 : Int32) else 0) = 0 then (if 99999999 ≤ nI (L n).1 then some (.inl (y, nI (n + 1))) else if y = -1 then some (.inl (nI n, nI (n + 1))) else if mInb y 80 = true then (if s.1 69 y.toNatClampNeg ≤ nI (L n).1 then some (.inl (y, nI (n + 1))) else some (.inl (nI n, nI (n + 1)))) else none) else some (.inl (y, nI (n + 1)))) := by
      unfold X9_seeks_b78 X9_seeks_j131_78 X9_seeks_j135_78
      rw [if_neg (gl_le (x := 80) (m := 80) rfl hn (by omega)), if_pos (gl_inb hn (by omega)), nl_cl (show n < 2147483648 by omega), d1, d3, nI_1]
    cases hdn : dn n with
    | true =>
      refine stay ?_ (Or.inl hdn)
      rw [head, hdn, if_pos rfl, if_neg (by decide)]
    | false =>
      rw [hdn, if_neg (show ¬ false = true by decide), if_pos rfl] at head
      by_cases q9 : (L n).1 < 99999999
      · rw [if_neg (show ¬ (99999999 : Int32) ≤ nI (L n).1 from nI_ge (b := 99999999) q9 (by omega))] at head
        rcases g2 with ⟨c1, c2⟩ | ⟨k, c1, c2, c3, c4, c5, c6⟩
        · rw [if_pos c1] at head
          refine take head hdn q9 (fun k hk hy => ?_)
          exfalso
          rw [c1] at hy
          exact (show ¬ nI k = -1 from gl_neN (b := 1) rfl (by omega) (by omega) (by omega)) hy.symm
        · have bk := (hB k c2).1
          rw [c3, if_neg (show ¬ nI k = -1 from gl_neN (b := 1) rfl (by omega) (by omega) (by omega)), if_pos (gl_inb c2 (by omega)), nl_cl (show k < 2147483648 by omega), (hd k c2).1, ← c3] at head
          by_cases q5 : (L k).1 ≤ (L n).1
          · rw [if_pos (nI_le q5 (by omega))] at head
            exact stay head (Or.inr (Or.inr ⟨k, c2, c3, q5⟩))
          · rw [if_neg (nI_ge (by omega) (by omega))] at head
            refine take head hdn q9 (fun k' hk' hy => ?_)
            have : k = k' := by rw [c3, nl_eq (by omega) (by omega)] at hy; exact hy
            rw [← this]
            omega
      · rw [if_pos (show (99999999 : Int32) ≤ nI (L n).1 from nI_le (a := 99999999) (by omega) (by omega))] at head
        exact stay head (Or.inr (Or.inl q9))
  · intro v hv
    obtain ⟨y, z⟩ := v
    obtain ⟨g1, g2⟩ := hv
    have g1 : z = nI 80 := g1
    subst g1
    refine ⟨y, ?_, ?_⟩
    · show X9_seeks_b78 x1 x2 x3 y (nI 80) s = _
      unfold X9_seeks_b78
      rw [if_pos (show (80 : Int32) ≤ nI 80 from by decide)]
    · rcases g2 with c | ⟨k, c1, c2, c3⟩
      · exact Or.inl c
      · exact Or.inr ⟨k, c2, c3⟩
section
variable {t : mTX} {tc : Nat} {V : mVT} {A : Ab} {p rn : Nat}
theorem bN_t {S : Nat → Bool} {i : Nat} (h : S i = true) : bN S i = 1 := if_pos h
theorem bN_f {S : Nat → Bool} {i : Nat} (h : S i = false) : bN S i = 0 := if_neg (by rw [h]; decide)
theorem m_main {st : Nat} {x2 : Int32} (ok : AbOK A tc) (hp : p < A.pp) (hr : rn ≤ 9) : ∀ (m N : Nat) (L : Nat → Nat × Nat) (dn : Nat → Bool) (s : mSG), aSum (bN (fun k => !(dn k))) 80 ≤ m → m + 1 < N → MG t tc V A s → DR L dn s → DB L → DJ (hbB V A p rn) (fun w => aSoak (A.kd p) w rn) (aWet (A.kd p) rn (A.wt p)) st L dn → ∃ e L' dn', iter (fun v : Int32 × mSG => X9_seeks_b67 (nI p) x2 (nI rn) v.1 v.2) N (1, s) = some e ∧ MG t tc V A e ∧ DR L' dn' e ∧ DB L' ∧ DJ (hbB V A p rn) (fun w => aSoak (A.kd p) w rn) (aWet (A.kd p) rn (A.wt p)) st L' dn' ∧ ∀ k, k < 80 → dn' k = false → ¬ (L' k).1 < 99999999 := by
  intro m
  induction m with
  | zero =>
    intro N L dn s hm hN h hd hB hJ
    obtain ⟨e, he, hc⟩ := m_select hB hd (nI p) x2 (nI rn)
    rcases hc with ⟨c1, c2⟩ | ⟨k, c1, c2, c3, c4, c5⟩
    · refine ⟨s, L, dn, ?_, h, hd, hB, hJ, c2⟩
      rw [it_l (by omega) (y := ((0 : Int32), s)) ?_]
      · refine it_r (by omega) ?_
        show X9_seeks_b67 (nI p) x2 (nI rn) 0 s = _
        unfold X9_seeks_b67
        rw [if_pos rfl]
      · show X9_seeks_b67 (nI p) x2 (nI rn) 1 s = _
        unfold X9_seeks_b67 X9_seeks_j152_67 X9_seeks_j175_67
        rw [if_neg (by decide), ob he, if_pos c1, if_pos rfl]
    · exfalso
      have := aSum_lt (f := fun _ => 0) (g := bN (fun k => !(dn k))) 80 (fun i _ => Nat.zero_le _) ⟨k, c1, by rw [bN_t (S := fun k => !(dn k)) (i := k) (by show (!(dn k)) = true; rw [c3]; rfl)]; omega⟩
      omega
  | succ m ih =>
    intro N L dn s hm hN h hd hB hJ
    obtain ⟨e, he, hc⟩ := m_select hB hd (nI p) x2 (nI rn)
    rcases hc with ⟨c1, c2⟩ | ⟨k, c1, c2, c3, c4, c5⟩
    · refine ⟨s, L, dn, ?_, h, hd, hB, hJ, c2⟩
      rw [it_l (by omega) (y := ((0 : Int32), s)) ?_]
      · refine it_r (by omega) ?_
        show X9_seeks_b67 (nI p) x2 (nI rn) 0 s = _
        unfold X9_seeks_b67
        rw [if_pos rfl]
      · show X9_seeks_b67 (nI p) x2 (nI rn) 1 s = _
        unfold X9_seeks_b67 X9_seeks_j152_67 X9_seeks_j175_67
        rw [if_neg (by decide), ob he, if_pos c1, if_pos rfl]
    · obtain ⟨hJ', hsame⟩ := DJ_step (hw := hbB V A p rn) (fw := fun w => aSoak (A.kd p) w rn) (ww := aWet (A.kd p) rn (A.wt p)) (st := st) (fun n => rfl) (fun w => aSoak_le _ _ _) hJ c1 c3 c4 c5
      have hd1 : DR L (fun j => dn j || decide (j = k)) (sI s 71 k 1) := fun j hj => by
        rw [sI_adr (by decide), sI_adr (by decide)]
        obtain ⟨g1, g2, g3⟩ := hd j hj
        refine ⟨g1, g2, ?_⟩
        by_cases q : j = k
        · subst q
          rw [sI_same]
          simp
        · rw [sI_oth q, g3]
          simp [q]
      obtain ⟨s2, e2, m2, d2, b2⟩ := m_leaves ok hp hr c1 hB c4 hsame (MG_sI (k := k) (v := 1) (a := 71) h (by omega) (by omega)) hd1
      have hcount : aSum (bN (fun j => !(dn j || decide (j = k)))) 80 < aSum (bN (fun j => !(dn j))) 80 := aSum_lt 80 (fun i _ => by
        by_cases q : (!(dn i || decide (i = k))) = true
        · have q2 : (!(dn i)) = true := by
            cases hh : dn i with
            | false => rfl
            | true => rw [hh] at q; cases q
          rw [bN_t (S := fun j => !(dn j)) (i := i) q2]
          exact bN_le _ _
        · rw [bN_f (S := fun j => !(dn j || decide (j = k))) (i := i) (Bool.eq_false_iff.mpr q)]
          exact Nat.zero_le _) ⟨k, c1, by
          rw [bN_t (S := fun j => !(dn j)) (i := k) (by show (!(dn k)) = true; rw [c3]; rfl), bN_f (S := fun j => !(dn j || decide (j = k))) (i := k) (by show (!(dn k || decide (k = k))) = false; rw [decide_eq_true rfl, Bool.or_true]; rfl)]
          omega⟩
      obtain ⟨e', L', dn', h1, h2⟩ := ih (N - 1) _ _ s2 (by omega) (by omega) m2 d2 b2 hJ'
      refine ⟨e', L', dn', ?_, h2⟩
      rw [it_l (by omega) (y := ((1 : Int32), s2)) ?_]
      · exact h1
      · show X9_seeks_b67 (nI p) x2 (nI rn) 1 s = _
        unfold X9_seeks_b67 X9_seeks_j152_67 X9_seeks_j175_67
        rw [if_neg (by decide), ob he, c2, if_neg (show ¬ nI k = -1 from gl_neN (b := 1) rfl (by omega) (by omega) (by omega)), if_neg (by decide), if_pos (gl_inb c1 (by omega)), nl_cl (show k < 2147483648 by omega), ob e2]
end
/-- hours as they are answered: FAR is none -/
def cI (x : Nat × Nat) : Int32 := if x.1 < 99999999 then nI x.1 else -1
/-- the least of the places of a stone -/
def lst (L : Nat → Nat × Nat) (to n : Nat) : Nat × Nat := fo (fun w x => min2 x (L (10 * to + w))) 0 n (99999999, 0)
theorem lst_le (L : Nat → Nat × Nat) (to : Nat) : ∀ n, (∀ w, w < n → le2 (lst L to n) (L (10 * to + w))) ∧ (lst L to n = (99999999, 0) ∨ ∃ w, w < n ∧ lst L to n = L (10 * to + w))
  | 0 => ⟨fun w hw => absurd hw (Nat.not_lt_zero w), Or.inl rfl⟩
  | n + 1 => by
    obtain ⟨h1, h2⟩ := lst_le L to n
    unfold lst at h1 h2 ⊢
    rw [fo_st (Nat.zero_le _)]
    refine ⟨fun w hw => ?_, ?_⟩
    · by_cases q : w = n
      · subst q; exact min2_r _ _
      · exact le2_tr (min2_l _ _) (h1 w (by omega))
    · rcases min2_c (fo (fun w x => min2 x (L (10 * to + w))) 0 n (99999999, 0)) (L (10 * to + n)) with e | e
      · rw [e]
        rcases h2 with g | ⟨w, hw, g⟩
        · exact Or.inl g
        · exact Or.inr ⟨w, by omega, g⟩
      · exact Or.inr ⟨n, by omega, e⟩
theorem m_last {s0 : mSG} {L : Nat → Nat × Nat} {dn : Nat → Bool} {to : Nat} (ht : to < 8) (hB : DB L) (hJ1 : ∀ x, x < 80 → ¬ (L x).1 < 99999999 → L x = (99999999, 0)) (hd : DR L dn s0) : ∃ e, X9_seeks_l194 (nI to) (nI (10 * to), sI (sI s0 56 36 (-1)) 56 37 (-1)) = some e ∧ (e.1 56 36 = cI (lst L to 10) ∧ e.1 56 37 = fI (lst L to 10).2) := by
  unfold X9_seeks_l194
  have lb : ∀ n, n ≤ 10 → (lst L to n).1 ≤ 99999999 ∧ (lst L to n).2 ≤ 8 ∧ (¬ (lst L to n).1 < 99999999 → lst L to n = (99999999, 0)) := fun n hn => by
    rcases (lst_le L to n).2 with e | ⟨w, hw, e⟩
    · rw [e]; exact ⟨Nat.le_refl _, Nat.zero_le _, fun _ => rfl⟩
    · rw [e]
      have := hB (10 * to + w) (by omega)
      exact ⟨this.1, this.2, hJ1 _ (by omega)⟩
  refine lpN (fun n (v : Int32 × mSG) => v.1 = nI (10 * to + n) ∧ DR L dn v.2 ∧ v.2.1 56 36 = cI (lst L to n) ∧ v.2.1 56 37 = fI (lst L to n).2) (fun e : mSG => e.1 56 36 = cI (lst L to 10) ∧ e.1 56 37 = fI (lst L to 10).2) 10 (by unfold mFU; omega) ?_ ?_ (k := 0) (by omega) (x := (nI (10 * to), sI (sI s0 56 36 (-1)) 56 37 (-1))) ⟨rfl, fun k hk => ?_, ?_, ?_⟩
  · intro n v hn hv
    obtain ⟨y, s⟩ := v
    obtain ⟨g1, g2, g3, g4⟩ := hv
    have g1 : y = nI (10 * to + n) := g1
    subst g1
    have g2 : DR L dn s := g2
    have g3 : s.1 56 36 = cI (lst L to n) := g3
    have g4 : s.1 56 37 = fI (lst L to n).2 := g4
    obtain ⟨d1, d2, d3⟩ := g2 (10 * to + n) (by omega)
    obtain ⟨b1, b2⟩ := hB (10 * to + n) (by omega)
    obtain ⟨l1, l2, l3⟩ := lb n (by omega)
    have es : lst L to (n + 1) = min2 (lst L to n) (L (10 * to + n)) := by
      unfold lst
      rw [fo_st (Nat.zero_le _)]
    have stay : X9_seeks_b194 (nI to) (nI (10 * to + n)) s = some (.inl (nI (10 * to + (n + 1)), s)) → ¬ lt2 (L (10 * to + n)) (lst L to n) → ∃ w, X9_seeks_b194 (nI to) (nI (10 * to + n)) s = some (.inl w) ∧ (w.1 = nI (10 * to + (n + 1)) ∧ DR L dn w.2 ∧ w.2.1 56 36 = cI (lst L to (n + 1)) ∧ w.2.1 56 37 = fI (lst L to (n + 1)).2) := fun hs hl => by
      have em : lst L to (n + 1) = lst L to n := by rw [es]; unfold min2; rw [if_neg hl]
      exact ⟨_, hs, rfl, g2, by rw [em]; exact g3, by rw [em]; exact g4⟩
    have take : X9_seeks_b194 (nI to) (nI (10 * to + n)) s = some (.inl (nI (10 * to + (n + 1)), sI (sI s 56 36 (nI (L (10 * to + n)).1)) 56 37 (fI (L (10 * to + n)).2))) → lt2 (L (10 * to + n)) (lst L to n) → (L (10 * to + n)).1 < 99999999 → ∃ w, X9_seeks_b194 (nI to) (nI (10 * to + n)) s = some (.inl w) ∧ (w.1 = nI (10 * to + (n + 1)) ∧ DR L dn w.2 ∧ w.2.1 56 36 = cI (lst L to (n + 1)) ∧ w.2.1 56 37 = fI (lst L to (n + 1)).2) := fun hs hl h9 => by
      have em : lst L to (n + 1) = L (10 * to + n) := by rw [es]; unfold min2; rw [if_pos hl]
      refine ⟨_, hs, rfl, fun k hk => ?_, ?_, ?_⟩
      · rw [sI_adr (by decide), sI_adr (by decide), sI_adr (by decide), sI_adr (by decide), sI_adr (by decide), sI_adr (by decide)]
        exact g2 k hk
      · rw [sI_oth (by decide), sI_same, em]
        unfold cI
        rw [if_pos h9]
      · rw [sI_same, em]
    have head : X9_seeks_b194 (nI to) (nI (10 * to + n)) s = (if 99999999 ≤ nI (L (10 * to + n)).1 then some (.inl (nI (10 * to + (n + 1)), s)) else if cI (lst L to n) = -1 then some (.inl (nI (10 * to + (n + 1)), sI (sI s 56 36 (nI (L (10 * to + n)).1)) 56 37 (fI (L (10 * to + n)).2))) else if nI (L (10 * to + n)).1 < cI (lst L to n) then some (.inl (nI (10 * to + (n + 1)), sI (sI s 56 36 (nI (L (10 * to + n)).1)) 56 37 (fI (L (10 * to + n)).2))) else if nI (L (10 * to + n)).1 = cI (lst L to n) then (if fI (lst L to n).2 ≤ fI (L (10 * to + n)).2 then some (.inl (nI (10 * to + (n + 1)), s)) else some (.inl (nI (10 * to + (n + 1)), sI (sI s 56 36 (nI (L (10 * to + n)).1)) 56 37 (fI (L (10 * to + n)).2)))) else some (.inl (nI (10 * to + (n + 1)), s))) := by
      unfold X9_seeks_b194 X9_seeks_j269_194 X9_seeks_j291_194
      rw [show (10 : Int32) * nI to + 10 = nI (10 * to + 10) from by rw [show (10 : Int32) * nI to = nI (10 * to) from pk_mul 10 to]; exact nI_add _ 10, if_neg (nI_ge (by omega) (by omega)), if_pos (gl_inb (show 10 * to + n < 80 by omega) (by omega)), nl_cl (by omega), d1, d2, g3, g4, nI_1, if_pos (gl_inb (show 10 * to + n < 80 by omega) (by omega))]
      rfl
    by_cases q9 : (L (10 * to + n)).1 < 99999999
    · rw [if_neg (show ¬ (99999999 : Int32) ≤ nI (L (10 * to + n)).1 from nI_ge (b := 99999999) q9 (by omega))] at head
      by_cases ql : (lst L to n).1 < 99999999
      · have ec : cI (lst L to n) = nI (lst L to n).1 := if_pos ql
        rw [ec, if_neg (show ¬ nI (lst L to n).1 = -1 from gl_neN (b := 1) rfl (by omega) (by omega) (by omega))] at head
        by_cases q1 : (L (10 * to + n)).1 < (lst L to n).1
        · rw [if_pos (nI_lt q1 (by omega))] at head
          exact take head (Or.inl q1) q9
        · rw [if_neg (nI_nlt (by omega) (by omega))] at head
          by_cases q2 : (L (10 * to + n)).1 = (lst L to n).1
          · rw [if_pos (by rw [q2])] at head
            by_cases q3 : (lst L to n).2 ≤ (L (10 * to + n)).2
            · rw [if_pos ((fI_le (by omega) (by omega)).mpr q3)] at head
              exact stay head (fun g => by omega)
            · rw [if_neg (fun g => q3 ((fI_le (by omega) (by omega)).mp g))] at head
              exact take head (Or.inr ⟨q2, by omega⟩) q9
          · rw [if_neg (show ¬ nI (L (10 * to + n)).1 = nI (lst L to n).1 from by rw [nl_eq (by omega) (by omega)]; exact q2)] at head
            exact stay head (fun g => by omega)
      · have ec : cI (lst L to n) = -1 := if_neg ql
        rw [ec, if_pos rfl] at head
        exact take head (Or.inl (by omega)) q9
    · rw [if_pos (show (99999999 : Int32) ≤ nI (L (10 * to + n)).1 from nI_le (a := 99999999) (by omega) (by omega))] at head
      refine stay head (fun g => ?_)
      rw [hJ1 _ (by omega) q9] at g
      have g : (99999999 : Nat) < (lst L to n).1 ∨ ((99999999 : Nat) = (lst L to n).1 ∧ 0 < (lst L to n).2) := g
      by_cases qq : (lst L to n).1 < 99999999
      · omega
      · rw [l3 qq] at g
        have g : (99999999 : Nat) < 99999999 ∨ ((99999999 : Nat) = 99999999 ∧ 0 < 0) := g
        omega
  · intro v hv
    obtain ⟨y, s⟩ := v
    obtain ⟨g1, g2, g3, g4⟩ := hv
    have g1 : y = nI (10 * to + 10) := g1
    subst g1
    refine ⟨s, ?_, g3, g4⟩
    show X9_seeks_b194 (nI to) (nI (10 * to + 10)) s = _
    unfold X9_seeks_b194
    rw [show (10 : Int32) * nI to + 10 = nI (10 * to + 10) from by rw [show (10 : Int32) * nI to = nI (10 * to) from pk_mul 10 to]; exact nI_add _ 10, if_pos (nI_le (Nat.le_refl _) (by omega))]
  · show (sI (sI s0 56 36 (-1)) 56 37 (-1)).1 69 k = _ ∧ _
    rw [sI_adr (by decide), sI_adr (by decide)]
    show _ ∧ (sI (sI s0 56 36 (-1)) 56 37 (-1)).1 70 k = _ ∧ (sI (sI s0 56 36 (-1)) 56 37 (-1)).1 71 k = _
    rw [sI_adr (by decide), sI_adr (by decide), sI_adr (by decide), sI_adr (by decide)]
    exact hd k hk
  · show (sI (sI s0 56 36 (-1)) 56 37 (-1)).1 56 36 = _
    rw [sI_oth (by decide), sI_same]
    rfl
  · show (sI (sI s0 56 36 (-1)) 56 37 (-1)).1 56 37 = _
    rw [sI_same]
    exact fI_0.symm
theorem m_init (x1 x2 x3 : Int32) (s0 : mSG) : ∃ s', X9_seeks_l3 x1 x2 x3 (0, s0) = some s' ∧ DR (fun _ => (99999999, 0)) (fun _ => false) s' := by
  unfold X9_seeks_l3
  refine lpN (fun i (v : Int32 × mSG) => v.1 = nI i ∧ ∀ k, k < i → v.2.1 69 k = nI 99999999 ∧ v.2.1 70 k = fI 0 ∧ v.2.1 71 k = 0) _ 80 (by unfold mFU; omega) ?_ ?_ (k := 0) (by omega) (x := (0, s0)) ⟨rfl, fun j hj => absurd hj (Nat.not_lt_zero j)⟩
  · intro i v hi hv
    obtain ⟨x, s⟩ := v
    obtain ⟨e, r⟩ := hv
    have e : x = nI i := e
    subst e
    have r : ∀ k, k < i → s.1 69 k = nI 99999999 ∧ s.1 70 k = fI 0 ∧ s.1 71 k = 0 := r
    refine ⟨(nI (i + 1), sI (sI (sI s 69 i 99999999) 70 i (-1)) 71 i 0), ?_, rfl, fun j hj => ?_⟩
    · show X9_seeks_b3 x1 x2 x3 (nI i) s = _
      unfold X9_seeks_b3
      rw [if_neg (gl_le (x := 80) (m := 80) rfl hi (by omega)), if_pos (gl_inb hi (by omega)), nl_cl (by omega), nI_1]
    · show (sI (sI (sI s 69 i 99999999) 70 i (-1)) 71 i 0).1 69 j = _ ∧ (sI (sI (sI s 69 i 99999999) 70 i (-1)) 71 i 0).1 70 j = _ ∧ (sI (sI (sI s 69 i 99999999) 70 i (-1)) 71 i 0).1 71 j = _
      by_cases q : j = i
      · subst q
        rw [sI_adr (by decide), sI_adr (by decide), sI_same, sI_adr (by decide), sI_same, sI_same]
        exact ⟨rfl, fI_0.symm, rfl⟩
      · rw [sI_adr (by decide), sI_adr (by decide), sI_oth q, sI_adr (by decide), sI_oth q, sI_adr (by decide), sI_oth q, sI_adr (by decide), sI_adr (by decide)]
        exact r j (by omega)
  · intro v hv
    obtain ⟨x, s⟩ := v
    obtain ⟨e, r⟩ := hv
    have e : x = nI 80 := e
    subst e
    refine ⟨s, ?_, fun k hk => ?_⟩
    · show X9_seeks_b3 x1 x2 x3 (nI 80) s = _
      unfold X9_seeks_b3
      rw [if_pos (show (80 : Int32) ≤ nI 80 from by decide)]
    · rw [if_neg (show ¬ false = true by decide)]
      exact r k hk
theorem aWet_9 : ∀ kd, kd < 6 → ∀ rn, rn < 10 → ∀ w, w < 10 → aWet kd rn w 10 = aWet kd rn w 9 := by decide +kernel
theorem aWet_c {kd rn w : Nat} (hk : kd ≤ 5) (hr : rn ≤ 9) (hw : w ≤ 9) : ∀ i, 9 ≤ i → aWet kd rn w i = aWet kd rn w 9 := by
  intro i
  induction i with
  | zero => intro h; omega
  | succ i ih =>
    intro h
    by_cases q : i = 8
    · subst q; rfl
    · show aSoak kd (aWet kd rn w i) rn = _
      rw [ih (by omega)]
      exact aWet_9 kd (by omega) rn (by omega) w (by omega)
theorem m_seeks {t : mTX} {tc : Nat} {V : mVT} {A : Ab} {p rn to : Nat} {s : mSG} (ok : AbOK A tc) (hp : p < A.pp) (hr : rn ≤ 9) (ht : to < 8) (h : MG t tc V A s) : ∃ s', X9_seeks (nI p) (nI to) (nI rn) s = some s' ∧ s'.1 56 36 = (if (skB (hbB V A p rn) (aWet (A.kd p) rn (A.wt p)) (A.st p) to).1 < 1000000 then nI (skB (hbB V A p rn) (aWet (A.kd p) rn (A.wt p)) (A.st p) to).1 else -1) ∧ s'.1 56 37 = fI (skB (hbB V A p rn) (aWet (A.kd p) rn (A.wt p)) (A.st p) to).2 := by
  have h5 := ok.pp
  have hst := ok.st p hp
  have hw := ok.wt p hp
  have hM : ∀ w a b, hbB V A p rn w a b ≤ 315 := fun w a b => aHrs_le (ok.nu p hp) (ok.ld p hp) (ok.mud _)
  unfold X9_seeks
  obtain ⟨s1, e1, d1⟩ := m_init (nI p) (nI to) (nI rn) s
  have f1 := FR_X9_seeks_l3 _ _ _ _ _ e1
  have h1 := MG_fr h f1 rfl (fun _ => rfl) (fun _ => rfl) (fun _ => rfl) (fun _ => rfl) (fun _ => rfl) (fun _ => rfl) (fun _ => rfl) (fun _ => rfl) (fun _ => rfl) (fun _ => rfl) (fun _ => rfl) rfl rfl rfl
  have ek : 10 * nI (A.st p) + nI (A.wt p) = nI (10 * A.st p + A.wt p) := by
    rw [show (10 : Int32) * nI (A.st p) = nI (10 * A.st p) from pk_mul 10 _, nI_add]
  rw [ob e1, if_pos (gl_inb (show p < 5 by omega) (by omega)), nl_cl (show p < 2147483648 by omega), h1.2.2.st p hp, h1.2.2.wt p hp, ek, if_pos (gl_inb (show 10 * A.st p + A.wt p < 80 by omega) (by omega)), nl_cl (show 10 * A.st p + A.wt p < 2147483648 by omega)]
  have d2 : DR (fun k => if k = 10 * A.st p + A.wt p then (0, 0) else (99999999, 0)) (fun _ => false) (sI s1 69 (10 * A.st p + A.wt p) 0) := fun k hk => by
    obtain ⟨g1, g2, g3⟩ := d1 k hk
    dsimp only
    by_cases q : k = 10 * A.st p + A.wt p
    · rw [if_pos q, q, sI_same, sI_adr (by decide), sI_adr (by decide)]
      rw [q] at g2 g3
      exact ⟨rfl, g2, g3⟩
    · rw [if_neg q, sI_oth q, sI_adr (by decide), sI_adr (by decide)]
      exact ⟨g1, g2, g3⟩
  have b2 : DB (fun k => if k = 10 * A.st p + A.wt p then (0, 0) else (99999999, 0)) := fun k _ => by
    dsimp only
    split
    · exact ⟨Nat.zero_le _, Nat.zero_le _⟩
    · exact ⟨Nat.le_refl _, Nat.zero_le _⟩
  have j2 : DJ (hbB V A p rn) (fun w => aSoak (A.kd p) w rn) (aWet (A.kd p) rn (A.wt p)) (A.st p) (fun k => if k = 10 * A.st p + A.wt p then (0, 0) else (99999999, 0)) (fun _ => false) := by
    refine ⟨fun x hx h9 => ?_, fun x hx h9 => ?_, fun x _ hd => (by cases hd), fun x y _ _ hd => (by cases hd), if_pos rfl⟩
    · dsimp only at h9 ⊢
      by_cases q : x = 10 * A.st p + A.wt p
      · refine ⟨0, fun _ => A.st p, ⟨rfl, fun _ _ => by show A.st p < 8; omega, fun i hi => absurd hi (Nat.not_lt_zero i)⟩, by show A.st p = x / 10; omega, by show A.wt p = x % 10; omega, ?_⟩
        rw [if_pos q]
        rfl
      · rw [if_neg q] at h9
        exact absurd h9 (by omega)
    · dsimp only at h9 ⊢
      by_cases q : x = 10 * A.st p + A.wt p
      · rw [if_pos q] at h9
        exact absurd (show 0 < 99999999 by omega) h9
      · rw [if_neg q]
  have hc80 : aSum (bN (fun _ => !false)) 80 ≤ 80 := aSum_le (bN_le _) 80
  obtain ⟨s3, L, dn, e3, m3, d3, b3, j3, hend⟩ := m_main (x2 := nI to) ok hp hr 80 mFU _ _ _ hc80 (by unfold mFU; omega) (MG_sI h1 (by omega) (by omega)) d2 b2 j2
  rw [ob (show X9_seeks_l67 (nI p) (nI to) (nI rn) (1, sI s1 69 (10 * A.st p + A.wt p) 0) = some s3 from e3), show (10 : Int32) * nI to = nI (10 * to) from pk_mul 10 to]
  obtain ⟨s4, e4, r1, r2⟩ := m_last ht b3 j3.2.1 d3
  rw [ob e4]
  refine ⟨s4, rfl, ?_⟩
  have all := DJ_all (hw := hbB V A p rn) (fw := fun w => aSoak (A.kd p) w rn) (ww := aWet (A.kd p) rn (A.wt p)) (st := A.st p) (fun n => rfl) (fun n => aWet_le hw n) j3 hend
  have hu := skB_uniq (hw := hbB V A p rn) (ww := aWet (A.kd p) rn (A.wt p)) (st := A.st p) (to := to) (M := 315) (x := lst L to 10) (F := 99999999) (by omega) ht (aWet_c (ok.kd p hp) hr hw) hM (by omega) (fun g => by
      rcases (lst_le L to 10).2 with e | ⟨w, hw', e⟩
      · rw [e] at g
        have g : (99999999 : Nat) < 99999999 := g
        omega
      · rw [e] at g ⊢
        obtain ⟨k, P, p1, p2, p3, p4⟩ := j3.1 _ (by omega) g
        exact ⟨k, P, p1, by rw [p2]; omega, p4⟩) (fun g => by
      rcases (lst_le L to 10).2 with e | ⟨w, hw', e⟩
      · exact e
      · rw [e] at g ⊢
        exact j3.2.1 _ (by omega) g) (by omega) (fun k P hk16 hwk hP => by
      have c1 := cst_le (hw := hbB V A p rn) (ww := aWet (A.kd p) rn (A.wt p)) (P := P) (k := k) hM
      have hk9 := aWet_le (kd := A.kd p) (rn := rn) hw k
      have := all k P hwk (by omega)
      rw [hP] at this
      exact le2_tr ((lst_le L to 10).1 (aWet (A.kd p) rn (A.wt p) k) (by omega)) this)
  rw [r1, r2]
  unfold cI
  by_cases q : (lst L to 10).1 < 99999999
  · obtain ⟨u1, u2⟩ := hu.1 q
    rw [← u1, if_pos q, if_pos u2]
    exact ⟨rfl, rfl⟩
  · rw [hu.2 q, if_neg q, if_neg (by show ¬ (1000000 : Nat) < 1000000; omega)]
    refine ⟨rfl, ?_⟩
    rcases (lst_le L to 10).2 with e | ⟨w, hw', e⟩
    · rw [e]
    · rw [e] at q ⊢
      rw [j3.2.1 _ (by omega) q]
