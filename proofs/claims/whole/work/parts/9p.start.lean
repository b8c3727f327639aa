/-! WHAT HOLDS AT THE START -/
theorem nw_off {s : mSG} {a b : Nat} (h : a < b) : ∀ m, (nw s b m).1 a = s.1 a
  | 0 => rfl
  | m + 1 => by
    show mUr (nw s b m).1 (b + m) (fun _ => 0) a = _
    rw [mUr_off (by omega)]
    exact nw_off h m
def aZ : Ab := fun _ _ => 0
theorem aZ_ok : AbOK aZ 1 := ⟨Nat.zero_le _, Nat.zero_le _, Nat.zero_lt_one, fun _ => Nat.zero_le _, fun _ _ _ _ => rfl, fun _ _ => rfl, fun _ _ => Nat.zero_le _, fun _ _ => Nat.zero_le _, fun _ _ => Nat.zero_le _, fun _ _ => Nat.zero_le _, fun _ _ => Nat.zero_le _, fun _ _ => Nat.zero_le _, fun _ => Nat.zero_le _, fun _ _ _ _ _ => rfl, fun _ => Nat.zero_le _⟩
theorem ru_bt : ∀ j, j < 38 → mBt0.getD j 0 = nI (ruB j) := by decide
theorem wd_bt : ∀ j, j < 55 → mBt1.getD j 0 = nI (wL j) := by decide
def V0 : mVT := fun _ p env => vOf (ruC p) env
theorem ru_run (env : Nat → Int32) : ∀ p, p < 3 → (∀ c, c ∈ ruC p → xOk c) ∧ xRun env (ruC p) [] = some [vOf (ruC p) env]
  | 0, _ => ⟨fun c hc => by rw [List.mem_singleton.mp hc]; exact Nat.zero_le _, rfl⟩
  | 1, _ => ⟨fun c hc => by rw [List.mem_singleton.mp hc]; show 1 < 6; decide, rfl⟩
  | 2, _ => ⟨fun c hc => by
      have hc : c ∈ [(0, 1), (1, 3), (4, 4)] := hc
      simp only [List.mem_cons, List.not_mem_nil, or_false] at hc
      rcases hc with rfl | rfl | rfl
      · show 1 ≤ 9999; decide
      · show 3 < 6; decide
      · show 4 < 7; decide, rfl⟩
  | p + 3, h => absurd h (by omega)
set_option maxRecDepth 100000 in
theorem start (D l : Nat) (s0 : mSG) (h1 : ∀ j, s0.1 1 j = mAbv.getD j 0) (h4 : ∀ j, s0.1 4 j = mBt0.getD j 0) (h5 : ∀ j, s0.1 5 j = mBt1.getD j 0) : ∃ s8 sE : mSG, Runs (D + 70) 77 [.ref 6] (mNew s0 6) (mAdd (LY0 (tS l)) 7 13 13) (none, s8, YT (LYC (tS l)) 5) ∧ Runs (D + 70) 127 [.ref 56] (mNew s8 56) (mAdd (YT (LYC (tS l)) 5) 8 54 54) (none, sE, LAY (tS l)) ∧ INV (tS l) sE ∧ ∀ j, sE.1 0 j = s0.1 0 j := by
  obtain ⟨s8, R8, F1, F2, F3, F4, F5, ⟨F6, F7, F8⟩, ⟨F9, F10, F11, F12, F13⟩⟩ := T_X8_init D (tS l) (mNew s0 6) (fun j hj => (show (mNew s0 6).1 4 j = s0.1 4 j from rfl).trans ((h4 j).trans (ru_bt j hj))) (fun i hi => (show (mNew s0 6).1 5 i = s0.1 5 i from rfl).trans ((h5 i).trans (wd_bt i hi)))
  refine ⟨s8, _, R8, T_X9_init (D + 68) l (mNew s8 56), ?_, ?_⟩
  rotate_left 1
  · intro j
    rw [sI_adr (by decide), sI_adr (by decide), sq_off _ (by decide)]
    show s8.1 0 j = _
    rw [F1 0 (by decide) (by decide) (by decide) (by decide) (by decide) (by decide) (by decide), ft_off (by decide)]
    rfl
  have lo : ∀ a j, a < 56 → (sI (sI (sq4 (sm2 (mNew s8 56))) 58 0 40) 56 3 1).1 a j = s8.1 a j := fun a j ha => by
    rw [sI_adr (by omega), sI_adr (by omega), sq_off _ (by omega)]
    show (nw (sI (nw (mNew s8 56) 57 23) 56 47 (-1)) 80 4).1 a j = _
    rw [nw_off (by omega), sI_adr (by omega), nw_off (by omega)]
    show mUr s8.1 56 (fun _ => 0) a j = _
    rw [mUr_off (by omega)]
  have lo2 : ∀ a j, a < 53 → a ≠ 6 → a ≠ 23 → a ≠ 25 → a ≠ 26 → a ≠ 27 → (sI (sI (sq4 (sm2 (mNew s8 56))) 58 0 40) 56 3 1).1 a j = (sa9 (mNew s0 6)).1 a j := fun a j ha h6 h23 h25 h26 h27 => by
    rw [lo a j (by omega), F1 a h6 h25 h26 h27 (by omega) (by omega) (by omega), ft_off h23]
  have mo : ∀ a j, a ≠ 56 → a ≠ 57 → a ≠ 58 → (sI (sI (sq4 (sm2 (mNew s8 56))) 58 0 40) 56 3 1).1 a j = (sm2 (mNew s8 56)).1 a j := fun a j h6 h7 h8 => by
    rw [sI_adr h6, sI_adr h8, sq_off _ h7]
  have m56 : ∀ j, j ≠ 3 → (sI (sI (sq4 (sm2 (mNew s8 56))) 58 0 40) 56 3 1).1 56 j = (sm2 (mNew s8 56)).1 56 j := fun j hj => by
    rw [sI_oth hj, sI_adr (by decide), sq_off _ (by decide)]
  have rf : ∀ a j, (sI (sI (sq4 (sm2 (mNew s8 56))) 58 0 40) 56 3 1).2.1 a j = (sm2 (mNew s8 56)).2.1 a j := fun a j => rfl
  refine ⟨1, V0, aZ, false, aZ, 0, fun _ => 0, fun _ => 0, fun _ => 0, fun _ _ => 0, ⟨?_, ?_, ?_, sI_same, rfl, by decide⟩, ⟨⟨?_, ?_, ?_, ?_, ?_, ?_, ?_, ?_, ?_, ?_, ?_, ?_⟩, ⟨?_, ?_, ?_, ?_, ?_, ?_, ?_, ?_, ?_, ?_, ?_, ?_⟩, aZ_ok⟩, ⟨?_, fun _ => ?_, fun g => Bool.noConfusion g⟩, ⟨by decide, ?_, ?_, fun i hi => absurd hi (Nat.not_lt_zero i)⟩, ?_, ⟨?_, ?_⟩, ?_⟩
  · -- the program's texts
    intro k hk
    have hk : k = 0 := by omega
    subst hk
    refine ⟨Nat.zero_le _, ?_, ruC, fun p hp => ⟨(ru_run (fun _ => 0) p hp).1, fun env => (ru_run env p hp).2⟩, ⟨?_, ?_, ?_⟩, ⟨Nat.le_refl 5, by decide⟩, fun j hj => ?_, fun j hj => ?_, fun j hj => ?_⟩
    · exact F5
    · exact (lo 55 0 (by decide)).trans F6
    · exact (lo 55 1 (by decide)).trans F7
    · exact (lo 55 2 (by decide)).trans F8
    · have hj : j < 1 := hj
      have e : j = 0 := by omega
      subst e
      exact (lo 54 0 (by decide)).trans F9
    · have hj : j < 1 := hj
      have e : j = 0 := by omega
      subst e
      exact (lo 54 1 (by decide)).trans F10
    · have hj : j < 3 := hj
      have e : j = 0 ∨ j = 1 ∨ j = 2 := by omega
      rcases e with rfl | rfl | rfl
      · exact (lo 54 2 (by decide)).trans F11
      · exact (lo 54 3 (by decide)).trans F12
      · exact (lo 54 4 (by decide)).trans F13
  · -- the model's
    intro k hk s2 g1 g2 pt hpt
    have hk : k = 0 := by omega
    subst hk
    obtain ⟨v, q, er, hv⟩ := m_rule (s := s2) hpt (fun j hj => by
      rw [g1 j (by omega) (by omega), sI_adr (by decide), sI_adr (by decide)]
      exact sq_at _ j hj) (by rw [g2, sI_adr (by decide), sI_same]; rfl)
    refine ⟨q, ?_⟩
    rw [er]
    have he : xRun (fun i => s2.1 56 (18 + i)) (ruC pt) [] = some [v] := by
      rw [← hv [] (by decide)]
      refine xRun_env (fun i hi => ?_) _ (ru_run (fun _ => 0) pt hpt).1 []
      unfold envM
      rw [if_pos hi]
    show some (v, q) = some (vOf (ruC pt) (fun i => s2.1 56 (18 + i)), q)
    rw [vOf_e he]
  · exact (lo 6 11 (by decide)).trans F3
  · intro i _; exact (lo2 8 i (by decide) (by decide) (by decide) (by decide) (by decide) (by decide))
  · intro p hp; exact absurd hp (Nat.not_lt_zero p)
  · intro p hp; exact absurd hp (Nat.not_lt_zero p)
  · intro p hp; exact absurd hp (Nat.not_lt_zero p)
  · intro p hp; exact absurd hp (Nat.not_lt_zero p)
  · intro p hp; exact absurd hp (Nat.not_lt_zero p)
  · intro p hp; exact absurd hp (Nat.not_lt_zero p)
  · intro i _; exact (lo2 10 i (by decide) (by decide) (by decide) (by decide) (by decide) (by decide))
  · intro i _; exact (lo2 11 i (by decide) (by decide) (by decide) (by decide) (by decide) (by decide))
  · exact (lo2 7 4 (by decide) (by decide) (by decide) (by decide) (by decide) (by decide))
  · exact (lo2 7 5 (by decide) (by decide) (by decide) (by decide) (by decide) (by decide))
  · exact (lo2 7 6 (by decide) (by decide) (by decide) (by decide) (by decide) (by decide))
  · intro i _; exact mo 60 i (by decide) (by decide) (by decide)
  · intro p hp; exact absurd hp (Nat.not_lt_zero p)
  · intro p hp; exact absurd hp (Nat.not_lt_zero p)
  · intro p hp; exact absurd hp (Nat.not_lt_zero p)
  · intro p hp; exact absurd hp (Nat.not_lt_zero p)
  · intro p hp; exact absurd hp (Nat.not_lt_zero p)
  · intro p hp; exact absurd hp (Nat.not_lt_zero p)
  · intro i _; exact mo 67 i (by decide) (by decide) (by decide)
  · intro i _; exact mo 68 i (by decide) (by decide) (by decide)
  · exact m56 15 (by decide)
  · exact m56 16 (by decide)
  · exact m56 4 (by decide)
  · exact (lo 6 10 (by decide)).trans (F2 10 (by decide))
  · exact m56 47 (by decide)
  · exact (lo 6 12 (by decide)).trans (F2 12 (by decide))
  · exact m56 6 (by decide)
  · -- the sheets
    intro k hk
    have hc : k = 0 ∨ k = 1 ∨ k = 2 ∨ k = 3 := by omega
    have r24 : s8.2.1 24 = (sa9 (mNew s0 6)).2.1 24 := F4 24 (by decide) (by decide) (by decide) (by decide) (by decide)
    rcases hc with rfl | rfl | rfl | rfl
    · exact ⟨(show _ = s8.2.1 24 0 from rfl).trans (by rw [r24]; rfl), Or.inl ⟨rfl, lo2 45 1 (by decide) (by decide) (by decide) (by decide) (by decide) (by decide), mo 80 0 (by decide) (by decide) (by decide)⟩⟩
    · exact ⟨(show _ = s8.2.1 24 1 from rfl).trans (by rw [r24]; rfl), Or.inl ⟨rfl, lo2 47 1 (by decide) (by decide) (by decide) (by decide) (by decide) (by decide), mo 80 1 (by decide) (by decide) (by decide)⟩⟩
    · exact ⟨(show _ = s8.2.1 24 2 from rfl).trans (by rw [r24]; rfl), Or.inl ⟨rfl, lo2 49 1 (by decide) (by decide) (by decide) (by decide) (by decide) (by decide), mo 80 2 (by decide) (by decide) (by decide)⟩⟩
    · exact ⟨(show _ = s8.2.1 24 3 from rfl).trans (by rw [r24]; rfl), Or.inl ⟨rfl, lo2 51 1 (by decide) (by decide) (by decide) (by decide) (by decide) (by decide), mo 80 3 (by decide) (by decide) (by decide)⟩⟩
  · exact lo2 34 8 (by decide) (by decide) (by decide) (by decide) (by decide) (by decide)
  · exact lo2 34 9 (by decide) (by decide) (by decide) (by decide) (by decide) (by decide)
  · have e1 : ∀ j, (sI (sI (sq4 (sm2 (mNew s8 56))) 58 0 40) 56 3 1).1 1 j = mAbv.getD j 0 := fun j => (lo2 1 j (by decide) (by decide) (by decide) (by decide) (by decide) (by decide)).trans ((show (sa9 (mNew s0 6)).1 1 j = s0.1 1 j from rfl).trans (h1 j))
    refine ⟨⟨e1 0, e1 1, e1 2, e1 3, e1 4, e1 5⟩, fun i hi => ?_⟩
    rw [lo2 5 i (by decide) (by decide) (by decide) (by decide) (by decide) (by decide)]
    exact (show (sa9 (mNew s0 6)).1 5 i = s0.1 5 i from rfl).trans ((h5 i).trans (wd_bt i hi))
