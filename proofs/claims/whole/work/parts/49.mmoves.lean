/-! THE MODEL'S MOVES -/
theorem m_goes {t : mTX} {A : Ab} {tc : Nat} {V : mVT} {s : mSG} (c : CT t tc V s) (mt : MT tc V s) (h : RM A s) (ok : AbOK A tc) {p b : Nat} (hp : p < A.pp) (hb : b ≤ 7) : ∃ s', X9_goes (nI p) (nI b) s = some (decide (aH V A p b ≠ 0), s') ∧ RM (aMove V A p b) s' := by
  have h5 := ok.pp
  have hh := ok.hr
  unfold X9_goes
  rw [h.hr, ob (m_rainAt h (by omega)), if_pos (gl_inb (show p < 5 by omega) (by omega)), nl_cl (by omega), h.wt p hp, h.st p hp]
  obtain ⟨s1, e1⟩ := m_canGo c mt h ok (rn := A.rn (A.hr % 24)) hp (ok.wt p hp) (ok.st p hp) hb
  rw [ob e1]
  have f1 := FR_X9_canGo _ _ _ _ _ _ _ e1
  have h1 := RM_fr h f1 (fun _ => rfl) (fun _ => rfl) (fun _ => rfl) (fun _ => rfl) (fun _ => rfl) (fun _ => rfl) (fun _ => rfl) (fun _ => rfl) (fun _ => rfl) rfl rfl rfl
  show ∃ s', (if decide (aH V A p b ≠ 0) = true then _ else _) = _ ∧ _
  by_cases q : aH V A p b = 0
  · refine ⟨s1, ?_, ?_⟩
    · simp [q]
    · unfold aMove
      rw [if_pos q]
      exact h1
  · have hle := aH_le (V := V) ok hp b
    rw [if_pos (decide_eq_true q), decide_eq_true q]
    show ∃ s', (X9_hoursOf (nI p) (s1.1 66 p) (nI (A.rn (A.hr % 24))) (s1.1 65 p) (nI b) s1).bind _ = _ ∧ _
    rw [h1.wt p hp, h1.st p hp]
    obtain ⟨s2, e2⟩ := m_hoursOf (CT_fr c f1 rfl) (MT_fr mt f1 (fun _ => rfl) (fun _ => rfl)) h1 ok (rn := A.rn (A.hr % 24)) hp (ok.wt p hp) (ok.st p hp) hb q
    rw [ob e2]
    have f2 := FR_X9_hoursOf _ _ _ _ _ _ _ e2
    have h2 := RM_fr h1 f2 (fun _ => rfl) (fun _ => rfl) (fun _ => rfl) (fun _ => rfl) (fun _ => rfl) (fun _ => rfl) (fun _ => rfl) (fun _ => rfl) (fun _ => rfl) rfl rfl rfl
    show ∃ s', (X9_soaks (nI p) (s2.1 66 p) (nI (A.rn (A.hr % 24))) s2).bind _ = _ ∧ _
    rw [h2.wt p hp, ob (m_soaks h2 ok hp (ok.wt p hp) (ok.rn _))]
    show ∃ s', (if (9999 : Int32) ≤ (s1.1 56 16) + nI (aH V A p b) then some (true, sI (sI (sI s2 66 p _) 65 p (nI b)) 56 16 9999) else some (true, sI (sI (sI s2 66 p _) 65 p (nI b)) 56 16 ((s1.1 56 16) + nI (aH V A p b)))) = _ ∧ _
    rw [h1.hr, nI_add]
    have key : ∃ v : Int32, (if (9999 : Int32) ≤ nI (A.hr + aH V A p b) then some (true, sI (sI (sI s2 66 p (nI (aSoak (A.kd p) (A.wt p) (A.rn (A.hr % 24))))) 65 p (nI b)) 56 16 9999) else some (true, sI (sI (sI s2 66 p (nI (aSoak (A.kd p) (A.wt p) (A.rn (A.hr % 24))))) 65 p (nI b)) 56 16 (nI (A.hr + aH V A p b)))) = some (true, sI (sI (sI s2 66 p (nI (aSoak (A.kd p) (A.wt p) (A.rn (A.hr % 24))))) 65 p (nI b)) 56 16 v) ∧ v = nI (min 9999 (A.hr + aH V A p b)) := by
      by_cases q9 : 9999 ≤ A.hr + aH V A p b
      · have g : (9999 : Int32) ≤ nI (A.hr + aH V A p b) := by
          show nI 9999 ≤ _
          rw [nl_le (by omega) (by omega)]
          exact q9
        refine ⟨9999, by rw [if_pos g], ?_⟩
        rw [Nat.min_eq_left q9]
        rfl
      · have g : ¬ (9999 : Int32) ≤ nI (A.hr + aH V A p b) := by
          show ¬ nI 9999 ≤ _
          rw [nl_le (by omega) (by omega)]
          exact q9
        refine ⟨nI (A.hr + aH V A p b), by rw [if_neg g], ?_⟩
        rw [Nat.min_eq_right (by omega)]
    obtain ⟨v, e3, ev⟩ := key
    refine ⟨_, e3, ?_⟩
    rw [ev]
    unfold aMove
    rw [if_neg q]
    have r1 := RM_put_wt h2 p (aSoak (A.kd p) (A.wt p) (A.rn (A.hr % 24)))
    have r2 := RM_put_st r1 p b
    have r3 := RM_put_hr r2 (min 9999 (A.hr + aH V A p b))
    have ecomm : (((A.up 6 p (aSoak (A.kd p) (A.wt p) (A.rn (A.hr % 24)))).up 5 p b)) = ((A.up 5 p b).up 6 p (aSoak (A.kd p) (A.wt p) (A.rn (A.hr % 24)))) := by
      funext g j
      show (if g = 5 then (if j = p then b else (if g = 6 then (if j = p then _ else A g j) else A g j)) else (if g = 6 then (if j = p then _ else A g j) else A g j)) = (if g = 6 then (if j = p then _ else (if g = 5 then (if j = p then b else A g j) else A g j)) else (if g = 5 then (if j = p then b else A g j) else A g j))
      by_cases g5 : g = 5
      · subst g5; simp
      · by_cases g6 : g = 6
        · subst g6; simp
        · simp [g5, g6]
    rw [ecomm] at r3
    exact r3
