/-! THE PROGRAM SEEKS: step by step -/
def fI (f : Nat) : Int32 := nI f - 1
theorem fI_T {f : Nat} (h : f ≤ 100) : (fI f).toInt = (f : Int) - 1 := nI_m1T (by omega)
theorem fI_s (b : Nat) : fI (b + 1) = nI b := nI_pred b
theorem fI_0 : fI 0 = -1 := by decide
theorem fI_lt {f g : Nat} (hf : f ≤ 100) (hg : g ≤ 100) : (fI f < fI g) = (f < g) := by
  rw [Int32.lt_iff_toInt_lt, fI_T hf, fI_T hg]
  exact propext ⟨fun h => by omega, fun h => by omega⟩
theorem fI_le {f g : Nat} (hf : f ≤ 100) (hg : g ≤ 100) : (fI f ≤ fI g) = (f ≤ g) := by
  rw [Int32.le_iff_toInt_le, fI_T hf, fI_T hg]
  exact propext ⟨fun h => by omega, fun h => by omega⟩
theorem fI_m1 {f : Nat} (hf : f ≤ 100) : (fI f = -1) = (f = 0) := by
  refine propext ⟨fun h => ?_, fun h => by rw [h]; exact fI_0⟩
  have h2 := congrArg Int32.toInt h
  rw [fI_T hf] at h2
  have : (-1 : Int32).toInt = -1 := rfl
  omega
/-- where a plank lies -/
def PK (pk : Option (Nat × Nat)) (s : mSG) : Prop := match pk with
  | none => s.1 34 8 = -1 ∧ s.1 34 9 = -1
  | some x => s.1 34 8 = nI x.1 ∧ s.1 34 9 = nI x.2 ∧ x.1 < 8 ∧ x.2 < 8
def onPk (x : Nat × Nat) (a b : Nat) : Prop := (a = x.1 ∧ b = x.2) ∨ (a = x.2 ∧ b = x.1)
def hwC (V : mVT) (A : Ab) (p rn : Nat) (pk : Option (Nat × Nat)) (w a b : Nat) : Nat := match pk with
  | none => hbB V A p rn w a b
  | some x => if (a = x.1 ∧ b = x.2) ∨ (a = x.2 ∧ b = x.1) then hbP V A p rn w a b else hbB V A p rn w a b
theorem hwC_le {V : mVT} {A : Ab} {tc p rn : Nat} {pk : Option (Nat × Nat)} (ok : AbOK A tc) (hp : p < A.pp) (w a b : Nat) : hwC V A p rn pk w a b ≤ 315 := by
  have h1 : hbB V A p rn w a b ≤ 315 := aHrs_le (ok.nu p hp) (ok.ld p hp) (ok.mud _)
  have h2 : hbP V A p rn w a b ≤ 315 := aHrs_le (ok.nu p hp) (ok.ld p hp) (by split <;> omega)
  unfold hwC
  cases pk with
  | none => exact h1
  | some x =>
    dsimp only
    split
    · exact h2
    · exact h1
/-- what is read of the tables -/
def BT (V : mVT) (A : Ab) (p rn : Nat) (pk : Option (Nat × Nat)) (w : Nat) (s : mSG) : Prop := PK pk s ∧ KNw 36 (hbB V A p rn) w s ∧ (pk ≠ none → KNw 38 (hbP V A p rn) w s)
theorem BT_eq {V : mVT} {A : Ab} {p rn : Nat} {pk : Option (Nat × Nat)} {w : Nat} {s s' : mSG} (h : BT V A p rn pk w s) (e4 : s'.1 34 = s.1 34) (e6 : s'.1 36 = s.1 36) (e8 : s'.1 38 = s.1 38) : BT V A p rn pk w s' := by
  obtain ⟨h1, h2, h3⟩ := h
  refine ⟨?_, fun a b ha hb => by rw [e6]; exact h2 a b ha hb, fun q a b ha hb => by rw [e8]; exact h3 q a b ha hb⟩
  unfold PK at h1 ⊢
  cases pk with
  | none => dsimp only at h1 ⊢; rw [e4]; exact h1
  | some x => dsimp only at h1 ⊢; rw [e4]; exact h1
theorem c_btw35 {V : mVT} {A : Ab} {p rn w a b : Nat} {s : mSG} (hw : w ≤ 9) (ha : a < 8) (hb : b < 8) (h : KNw 36 (hbB V A p rn) w s) : X7_between_35 (nI w) (nI a) (nI b) s = some (nI (hbB V A p rn w a b)) := by
  unfold X7_between_35
  rw [show X8_isWithin (nI w) 9 = _ from c_within (nI w) 9, decide_eq_true ((inR_nI (show w < 2147483648 by omega) (show 9 < 2147483648 by omega)).mpr hw), if_pos rfl, c_isStone, decide_eq_true ((inR_nI (show a < 2147483648 by omega) (show 7 < 2147483648 by omega)).mpr (by omega)), if_pos rfl, c_isStone, decide_eq_true ((inR_nI (show b < 2147483648 by omega) (show 7 < 2147483648 by omega)).mpr (by omega)), if_pos rfl, show nI w * 8 = nI (w * 8) from pk_mul w 8, nI_add, show nI (w * 8 + a) * 8 = nI ((w * 8 + a) * 8) from pk_mul _ 8, nI_add, show (w * 8 + a) * 8 + b = w * 64 + (a * 8 + b) by omega, if_pos (gl_inb (show w * 64 + (a * 8 + b) < 640 by omega) (by omega)), nl_cl (by omega), h a b ha hb]
theorem c_btw37 {V : mVT} {A : Ab} {p rn w a b : Nat} {s : mSG} (hw : w ≤ 9) (ha : a < 8) (hb : b < 8) (h : KNw 38 (hbP V A p rn) w s) : X7_between_37 (nI w) (nI a) (nI b) s = some (nI (hbP V A p rn w a b)) := by
  unfold X7_between_37
  rw [show X8_isWithin (nI w) 9 = _ from c_within (nI w) 9, decide_eq_true ((inR_nI (show w < 2147483648 by omega) (show 9 < 2147483648 by omega)).mpr hw), if_pos rfl, c_isStone, decide_eq_true ((inR_nI (show a < 2147483648 by omega) (show 7 < 2147483648 by omega)).mpr (by omega)), if_pos rfl, c_isStone, decide_eq_true ((inR_nI (show b < 2147483648 by omega) (show 7 < 2147483648 by omega)).mpr (by omega)), if_pos rfl, show nI w * 8 = nI (w * 8) from pk_mul w 8, nI_add, show nI (w * 8 + a) * 8 = nI ((w * 8 + a) * 8) from pk_mul _ 8, nI_add, show (w * 8 + a) * 8 + b = w * 64 + (a * 8 + b) by omega, if_pos (gl_inb (show w * 64 + (a * 8 + b) < 640 by omega) (by omega)), nl_cl (by omega), h a b ha hb]
theorem c_btw {V : mVT} {A : Ab} {p rn w a b : Nat} {pk : Option (Nat × Nat)} {s : mSG} (hw : w ≤ 9) (ha : a < 8) (hb : b < 8) (h : BT V A p rn pk w s) : X3_between (nI w) (nI a) (nI b) s = some (nI (hwC V A p rn pk w a b)) := by
  obtain ⟨h1, h2, h3⟩ := h
  have bare : X3_between_j36 (nI w) (nI a) (nI b) s = some (nI (hbB V A p rn w a b)) := by
    unfold X3_between_j36 X3_between_j37
    rw [if_pos rfl, ob (c_btw35 hw ha hb h2)]
  unfold X3_between X3_between_j16
  cases pk with
  | none =>
    have n : ∀ c, c < 8 → ¬ nI c = -1 := fun c hc => gl_neN (b := 1) rfl (by omega) (by omega) (by omega)
    rw [show s.1 34 8 = -1 from h1.1, show s.1 34 9 = -1 from h1.2, if_neg (n a ha), if_neg (n a ha)]
    exact bare
  | some x =>
    have plank : X3_between_j32 (nI w) (nI a) (nI b) s = some (nI (hbP V A p rn w a b)) := by
      unfold X3_between_j32 X3_between_j37
      rw [if_neg (by decide), ob (c_btw37 hw ha hb (h3 (by simp)))]
    obtain ⟨p1, p2, p3, p4⟩ := h1
    have q : ∀ c d, c < 8 → d < 8 → (nI c = nI d) = (c = d) := fun c d hc hd => nl_eq (by omega) (by omega)
    show _ = some (nI (if (a = x.1 ∧ b = x.2) ∨ (a = x.2 ∧ b = x.1) then hbP V A p rn w a b else hbB V A p rn w a b))
    rw [p1, p2]
    by_cases q1 : a = x.1
    · rw [if_pos ((q a x.1 ha p3).mpr q1)]
      by_cases q2 : b = x.2
      · rw [if_pos ((q b x.2 hb p4).mpr q2), if_pos (Or.inl ⟨q1, q2⟩)]
        exact plank
      · rw [if_neg (fun g => q2 ((q b x.2 hb p4).mp g))]
        by_cases q3 : a = x.2
        · rw [if_pos ((q a x.2 ha p4).mpr q3)]
          by_cases q4 : b = x.1
          · rw [if_pos ((q b x.1 hb p3).mpr q4), if_pos (Or.inr ⟨q3, q4⟩)]
            exact plank
          · rw [if_neg (fun g => q4 ((q b x.1 hb p3).mp g)), if_neg (fun g => by omega)]
            exact bare
        · rw [if_neg (fun g => q3 ((q a x.2 ha p4).mp g)), if_neg (fun g => by omega)]
          exact bare
    · rw [if_neg (fun g => q1 ((q a x.1 ha p3).mp g))]
      by_cases q3 : a = x.2
      · rw [if_pos ((q a x.2 ha p4).mpr q3)]
        by_cases q4 : b = x.1
        · rw [if_pos ((q b x.1 hb p3).mpr q4), if_pos (Or.inr ⟨q3, q4⟩)]
          exact plank
        · rw [if_neg (fun g => q4 ((q b x.1 hb p3).mp g)), if_neg (fun g => by omega)]
          exact bare
      · rw [if_neg (fun g => q3 ((q a x.2 ha p4).mp g)), if_neg (fun g => by omega)]
        exact bare
/-- a layer, in two rows -/
def LR (r q : Nat) (L : Nat → Nat × Nat) (s : mSG) : Prop := ∀ i, i < 8 → s.1 r i = nI (L i).1 ∧ s.1 q i = fI (L i).2
def LB (L : Nat → Nat × Nat) : Prop := ∀ i, i < 8 → (L i).1 ≤ 1000000 ∧ (L i).2 ≤ 8
theorem c_offer {s : mSG} {N : Nat → Nat × Nat} {b c f : Nat} (hb : b < 8) (hc : c ≤ 2000000) (hf : f ≤ 8) (h : LR 41 42 N s) (hB : LB N) : ∃ s', X3_offer (nI b) (nI c) (fI f) s = some s' ∧ LR 41 42 (fun i => if i = b then min2 (N i) (c, f) else N i) s' ∧ ∀ r, r ≠ 41 → r ≠ 42 → s'.1 r = s.1 r := by
  obtain ⟨h1, h2⟩ := h b hb
  obtain ⟨b1, b2⟩ := hB b hb
  unfold X3_offer X3_offer_j30
  rw [if_pos (gl_inb hb (by omega)), nl_cl (by omega), h1, h2, if_pos (gl_inb hb (by omega))]
  have yes : lt2 (c, f) (N b) → LR 41 42 (fun i => if i = b then min2 (N i) (c, f) else N i) (sI (sI s 41 b (nI c)) 42 b (fI f)) := fun q i hi => by
    dsimp only
    by_cases qi : i = b
    · subst qi
      rw [sI_adr (by decide), sI_same, sI_same, if_pos rfl]
      unfold min2
      rw [if_pos q]
      exact ⟨rfl, rfl⟩
    · rw [sI_adr (by decide), sI_oth qi, sI_oth qi, sI_adr (by decide), if_neg qi]
      exact h i hi
  have no : ¬ lt2 (c, f) (N b) → LR 41 42 (fun i => if i = b then min2 (N i) (c, f) else N i) s := fun q i hi => by
    dsimp only
    by_cases qi : i = b
    · subst qi
      rw [if_pos rfl]
      unfold min2
      rw [if_neg q]
      exact h i hi
    · rw [if_neg qi]
      exact h i hi
  have row : ∀ r, r ≠ 41 → r ≠ 42 → (sI (sI s 41 b (nI c)) 42 b (fI f)).1 r = s.1 r := fun r g1 g2 => by
    funext k
    rw [sI_adr g2, sI_adr g1]
  by_cases q1 : c < (N b).1
  · rw [if_pos (nI_lt q1 (by omega))]
    exact ⟨_, rfl, yes (Or.inl q1), row⟩
  · rw [if_neg (nI_nlt (by omega) (by omega))]
    by_cases q2 : c = (N b).1
    · rw [if_pos (by rw [q2])]
      by_cases q3 : (N b).2 ≤ f
      · rw [if_pos ((fI_le (by omega) (by omega)).mpr q3)]
        exact ⟨_, rfl, no (fun g => by rcases g with g | g; exact q1 g; have : f < (N b).2 := g.2; omega), fun _ _ _ => rfl⟩
      · rw [if_neg (fun g => q3 ((fI_le (by omega) (by omega)).mp g))]
        exact ⟨_, rfl, yes (Or.inr ⟨q2, by show f < (N b).2; omega⟩), row⟩
    · rw [if_neg (show ¬ nI c = nI (N b).1 from by rw [nl_eq (by omega) (by omega)]; exact q2)]
      exact ⟨_, rfl, no (fun g => by rcases g with g | g; exact q1 g; exact q2 g.1), fun _ _ _ => rfl⟩
theorem skS_B {hw : Nat → Nat → Nat → Nat} {w best : Nat} {L : Nat → Nat × Nat} (hL : LB L) {b : Nat} (hb : b < 8) : ∀ n, n ≤ 8 → (fo (skS hw w best L b) 0 n (1000000, 0)).1 ≤ 1000000 ∧ (fo (skS hw w best L b) 0 n (1000000, 0)).2 ≤ 8 := by
  intro n hn
  obtain ⟨h1, h2, h3⟩ := skS_fo (hw := hw) (w := w) (best := best) (L := L) (b := b) (1000000, 0) n
  refine ⟨by rcases h3 with g | g; exact Nat.le_of_lt g; exact Nat.le_of_eq g.1, ?_⟩
  rcases h1 with e | ⟨a, ha, hc, e⟩
  · rw [e]; exact Nat.zero_le _
  · rw [e]
    show (if (L a).2 = 0 then b + 1 else (L a).2) ≤ 8
    split
    · omega
    · exact (hL a (by omega)).2
theorem skN_B {hw : Nat → Nat → Nat → Nat} {w best : Nat} {L : Nat → Nat × Nat} (hL : LB L) : LB (skN hw w best L) := fun _ hb => skS_B hL hb 8 (Nat.le_refl _)
section
variable {V : mVT} {A : Ab} {tc p rn w : Nat} {pk : Option (Nat × Nat)} {best : Nat} {L : Nat → Nat × Nat}
/-- the next layer, underway -/
def nxt (hw : Nat → Nat → Nat → Nat) (w best : Nat) (L : Nat → Nat × Nat) (a b i : Nat) : Nat × Nat := fo (skS hw w best L i) 0 (if i < b then a + 1 else a) (1000000, 0)
def ST (V : mVT) (A : Ab) (p rn : Nat) (pk : Option (Nat × Nat)) (w best : Nat) (L : Nat → Nat × Nat) (s : mSG) : Prop := BT V A p rn pk w s ∧ LR 39 40 L s ∧ s.1 34 10 = nI best
theorem ST_eq {s s' : mSG} (h : ST V A p rn pk w best L s) (e : ∀ r, r ≠ 41 → r ≠ 42 → s'.1 r = s.1 r) : ST V A p rn pk w best L s' :=
  ⟨BT_eq h.1 (e 34 (by decide) (by decide)) (e 36 (by decide) (by decide)) (e 38 (by decide) (by decide)), fun i hi => by rw [e 39 (by decide) (by decide), e 40 (by decide) (by decide)]; exact h.2.1 i hi, by rw [e 34 (by decide) (by decide)]; exact h.2.2⟩
theorem c_s27 {s : mSG} {a : Nat} (ok : AbOK A tc) (hp : p < A.pp) (hw : w ≤ 9) (hL : LB L) (hb6 : best ≤ 1000000) (ha : a < 8) (h : ST V A p rn pk w best L s) (hn : LR 41 42 (fun i => nxt (hwC V A p rn pk) w best L a 0 i) s) : ∃ s', X3_step_l27 (nI w) (nI a) (0, s) = some s' ∧ (ST V A p rn pk w best L s' ∧ LR 41 42 (fun i => nxt (hwC V A p rn pk) w best L (a + 1) 0 i) s') := by
  have hLa := hL a ha
  have nB : ∀ a b, a < 8 → LB (nxt (hwC V A p rn pk) w best L a b) := fun a b ha i hi => skS_B hL hi _ (by split <;> omega)
  unfold X3_step_l27
  by_cases q : (L a).1 < best
  · refine lpN (fun b (v : Int32 × mSG) => v.1 = nI b ∧ ST V A p rn pk w best L v.2 ∧ LR 41 42 (fun i => nxt (hwC V A p rn pk) w best L a b i) v.2) _ 8 (by unfold mFU; omega) ?_ ?_ (k := 0) (by omega) (x := (0, s)) ⟨rfl, h, hn⟩
    · intro b v hb hv
      obtain ⟨y, s1⟩ := v
      obtain ⟨g1, g2, g3⟩ := hv
      have g1 : y = nI b := g1
      subst g1
      have g2 : ST V A p rn pk w best L s1 := g2
      have g3 : LR 41 42 (nxt (hwC V A p rn pk) w best L a b) s1 := g3
      have hM := hwC_le (V := V) (rn := rn) (pk := pk) ok hp w a b
      obtain ⟨r9, r0⟩ := g2.2.1 a ha
      have head : ∀ o, (if nI (hwC V A p rn pk w a b) ≤ 0 then some (.inl (nI (b + 1), s1)) else (X3_offer (nI b) (nI ((L a).1 + hwC V A p rn pk w a b)) (fI (if (L a).2 = 0 then b + 1 else (L a).2)) s1).bind (fun r10 => some (.inl (nI (b + 1), r10)))) = o → X3_step_b27 (nI w) (nI a) (nI b) s1 = o := by
        intro o ho
        rw [← ho]
        unfold X3_step_b27 X3_step_j91_27 X3_step_j94_27
        rw [if_pos (gl_inb ha (by omega)), nl_cl (show a < 2147483648 by omega), g2.2.2, r9, r0, if_neg (nI_ge q (by omega)), if_neg (gl_le (x := 8) (m := 8) rfl hb (by omega)), ob (c_btw hw ha hb g2.1), nI_1, nI_add]
        by_cases g0 : (L a).2 = 0
        · rw [if_pos ((fI_m1 (by omega)).mpr g0), if_pos g0, fI_s]
        · rw [if_neg (fun g => g0 ((fI_m1 (by omega)).mp g)), if_neg g0]
      have cg : ∀ i, i < 8 → nxt (hwC V A p rn pk) w best L a (b + 1) i = if i = b then skS (hwC V A p rn pk) w best L b a (nxt (hwC V A p rn pk) w best L a b b) else nxt (hwC V A p rn pk) w best L a b i := fun i hi => by
        unfold nxt
        by_cases qi : i = b
        · subst qi
          rw [if_pos (show i < i + 1 by omega), if_pos rfl, if_neg (show ¬ i < i by omega), fo_st (Nat.zero_le _)]
        · rw [if_neg qi]
          by_cases q2 : i < b
          · rw [if_pos (show i < b + 1 by omega), if_pos q2]
          · rw [if_neg (show ¬ i < b + 1 by omega), if_neg q2]
      by_cases q0 : hwC V A p rn pk w a b = 0
      · refine ⟨(nI (b + 1), s1), head _ (by rw [q0, if_pos (by decide)]), rfl, g2, fun i hi => ?_⟩
        show s1.1 41 i = nI (nxt (hwC V A p rn pk) w best L a (b + 1) i).1 ∧ s1.1 42 i = fI (nxt (hwC V A p rn pk) w best L a (b + 1) i).2
        rw [cg i hi]
        by_cases qi : i = b
        · subst qi
          rw [if_pos rfl]
          unfold skS
          rw [if_neg (fun g => g.2 q0)]
          exact g3 i hi
        · rw [if_neg qi]
          exact g3 i hi
      · obtain ⟨s2, e2, l2, w2⟩ := c_offer (c := (L a).1 + hwC V A p rn pk w a b) (f := if (L a).2 = 0 then b + 1 else (L a).2) hb (by omega) (by split <;> omega) g3 (nB a b ha)
        refine ⟨(nI (b + 1), s2), head _ (by rw [if_neg (nI_nle (by omega) (by omega)), ob e2]), rfl, ST_eq g2 w2, fun i hi => ?_⟩
        show s2.1 41 i = nI (nxt (hwC V A p rn pk) w best L a (b + 1) i).1 ∧ s2.1 42 i = fI (nxt (hwC V A p rn pk) w best L a (b + 1) i).2
        rw [cg i hi]
        have l2i := l2 i hi
        dsimp only at l2i
        by_cases qi : i = b
        · subst qi
          rw [if_pos rfl] at l2i ⊢
          unfold skS
          rw [if_pos ⟨q, q0⟩]
          exact l2i
        · rw [if_neg qi] at l2i ⊢
          exact l2i
    · intro v hv
      obtain ⟨y, s1⟩ := v
      obtain ⟨g1, g2, g3⟩ := hv
      have g1 : y = nI 8 := g1
      subst g1
      have g2 : ST V A p rn pk w best L s1 := g2
      obtain ⟨r9, r0⟩ := g2.2.1 a ha
      refine ⟨s1, ?_, g2, fun i hi => ?_⟩
      · show X3_step_b27 (nI w) (nI a) (nI 8) s1 = _
        unfold X3_step_b27
        rw [if_pos (gl_inb ha (by omega)), nl_cl (show a < 2147483648 by omega), g2.2.2, r9, if_neg (nI_ge q (by omega)), if_pos (show (8 : Int32) ≤ nI 8 from by decide)]
      · have := g3 i hi
        unfold nxt at this ⊢
        dsimp only at this ⊢
        rw [if_pos hi] at this
        rw [if_neg (Nat.not_lt_zero i)]
        exact this
  · obtain ⟨r9, r0⟩ := h.2.1 a ha
    refine ⟨s, it_r (by unfold mFU; omega) ?_, h, fun i hi => ?_⟩
    · show X3_step_b27 (nI w) (nI a) 0 s = _
      unfold X3_step_b27
      rw [if_pos (gl_inb ha (by omega)), nl_cl (show a < 2147483648 by omega), h.2.2, r9, if_pos (nI_le (by omega) (by omega))]
    · have := hn i hi
      unfold nxt at this ⊢
      dsimp only at this ⊢
      rw [if_neg (Nat.not_lt_zero i)] at this ⊢
      rw [fo_st (Nat.zero_le _)]
      unfold skS
      rw [if_neg (fun g => q g.1)]
      exact this
theorem c_step {s : mSG} (ok : AbOK A tc) (hp : p < A.pp) (hw : w ≤ 9) (hL : LB L) (hb6 : best ≤ 1000000) (h : ST V A p rn pk w best L s) : ∃ s', X3_step (nI w) s = some s' ∧ LR 39 40 (skN (hwC V A p rn pk) w best L) s' := by
  unfold X3_step
  obtain ⟨s1, e1, f1, g1⟩ := c_fill_41 1000000 s
  obtain ⟨s2, e2, f2, g2⟩ := c_fill_42 (-1) s1
  have h2 : ST V A p rn pk w best L s2 := ST_eq h (fun r r1 r2 => by rw [g2 r r2, g1 r r1])
  have n2 : LR 41 42 (fun i => nxt (hwC V A p rn pk) w best L 0 0 i) s2 := fun i hi => by
    show s2.1 41 i = nI (nxt (hwC V A p rn pk) w best L 0 0 i).1 ∧ s2.1 42 i = fI (nxt (hwC V A p rn pk) w best L 0 0 i).2
    unfold nxt
    rw [if_neg (Nat.not_lt_zero i), g2 41 (by decide), f1 i hi, f2 i hi]
    exact ⟨rfl, fI_0.symm⟩
  rw [ob e1, ob e2]
  have key : ∃ s3, X3_step_l19 (nI w) (0, s2) = some s3 ∧ LR 41 42 (fun i => nxt (hwC V A p rn pk) w best L 8 0 i) s3 := by
    unfold X3_step_l19
    refine lpN (fun a (v : Int32 × mSG) => v.1 = nI a ∧ ST V A p rn pk w best L v.2 ∧ LR 41 42 (fun i => nxt (hwC V A p rn pk) w best L a 0 i) v.2) _ 8 (by unfold mFU; omega) ?_ ?_ (k := 0) (by omega) (x := (0, s2)) ⟨rfl, h2, n2⟩
    · intro a v ha hv
      obtain ⟨y, s3⟩ := v
      obtain ⟨k1, k2, k3⟩ := hv
      have k1 : y = nI a := k1
      subst k1
      obtain ⟨s4, e4, st4, l4⟩ := c_s27 ok hp hw hL hb6 ha k2 k3
      refine ⟨(nI (a + 1), s4), ?_, rfl, st4, l4⟩
      show X3_step_b19 (nI w) (nI a) s3 = _
      unfold X3_step_b19 X3_step_j100_19
      rw [if_neg (gl_le (x := 8) (m := 8) rfl ha (by omega)), ob e4, nI_1]
    · intro v hv
      obtain ⟨y, s3⟩ := v
      obtain ⟨k1, k2, k3⟩ := hv
      have k1 : y = nI 8 := k1
      subst k1
      refine ⟨s3, ?_, k3⟩
      show X3_step_b19 (nI w) (nI 8) s3 = _
      unfold X3_step_b19
      rw [if_pos (show (8 : Int32) ≤ nI 8 from by decide)]
  obtain ⟨s3, e3, l3⟩ := key
  rw [ob e3]
  refine ⟨_, rfl, fun i hi => ?_⟩
  rw [sC_ne (by decide), sC_at hi, sC_at hi, sC_ne (by decide)]
  have := l3 i hi
  unfold nxt at this
  dsimp only at this
  rw [if_neg (Nat.not_lt_zero i)] at this
  exact this
end
theorem c_note {s : mSG} {L : Nat → Nat × Nat} {x : Nat × Nat} {to : Nat} (ht : to < 8) (h : LR 39 40 L s) (hL : LB L) (h1 : s.1 34 10 = nI x.1) (h2 : s.1 34 11 = fI x.2) (b1 : x.1 ≤ 1000000) (b2 : x.2 ≤ 8) (hx : x.1 = 1000000 → x.2 = 0) : ∃ s', X3_noteArrival (nI to) s = some s' ∧ s'.1 34 10 = nI (min2 x (L to)).1 ∧ s'.1 34 11 = fI (min2 x (L to)).2 ∧ s'.1 39 = s.1 39 ∧ s'.1 40 = s.1 40 := by
  obtain ⟨l1, l2⟩ := h to ht
  obtain ⟨c1, c2⟩ := hL to ht
  unfold X3_noteArrival X3_noteArrival_j51
  rw [if_pos (gl_inb ht (by omega)), nl_cl (by omega), l1, l2, h1, h2, if_pos (gl_inb ht (by omega))]
  have no : ¬ lt2 (L to) x → min2 x (L to) = x := fun q => by unfold min2; rw [if_neg q]
  have yes : lt2 (L to) x → min2 x (L to) = L to := fun q => by unfold min2; rw [if_pos q]
  by_cases q0 : (L to).1 = 1000000
  · rw [if_pos (by rw [q0]; rfl)]
    by_cases ql : lt2 (L to) x
    · exfalso
      have e1 : x.1 = 1000000 := by omega
      have e2 := hx e1
      omega
    · rw [no ql]
      exact ⟨s, rfl, h1, h2, rfl, rfl⟩
  · rw [if_neg (show ¬ nI (L to).1 = 1000000 from by show ¬ nI (L to).1 = nI 1000000; rw [nl_eq (by omega) (by omega)]; exact q0)]
    have set : lt2 (L to) x → ∃ s', some (sI (sI s 34 10 (nI (L to).1)) 34 11 (fI (L to).2)) = some s' ∧ s'.1 34 10 = nI (min2 x (L to)).1 ∧ s'.1 34 11 = fI (min2 x (L to)).2 ∧ s'.1 39 = s.1 39 ∧ s'.1 40 = s.1 40 := fun q => by
      refine ⟨_, rfl, ?_, ?_, ?_, ?_⟩
      · rw [sI_oth (by decide), sI_same, yes q]
      · rw [sI_same, yes q]
      · funext k; rw [sI_adr (by decide), sI_adr (by decide)]
      · funext k; rw [sI_adr (by decide), sI_adr (by decide)]
    by_cases q1 : (L to).1 ≤ x.1
    · rw [if_pos (nI_le q1 (by omega))]
      by_cases q2 : (L to).1 < x.1
      · rw [if_pos (nI_lt q2 (by omega))]
        exact set (Or.inl q2)
      · rw [if_neg (nI_nlt (by omega) (by omega))]
        by_cases q3 : x.2 ≤ (L to).2
        · rw [if_pos ((fI_le (by omega) (by omega)).mpr q3), no (fun g => by omega)]
          exact ⟨s, rfl, h1, h2, rfl, rfl⟩
        · rw [if_neg (fun g => q3 ((fI_le (by omega) (by omega)).mp g))]
          exact set (Or.inr ⟨by omega, by omega⟩)
    · rw [if_neg (nI_ge (by omega) (by omega)), no (fun g => by omega)]
      exact ⟨s, rfl, h1, h2, rfl, rfl⟩
theorem skK_B {hw : Nat → Nat → Nat → Nat} {ww : Nat → Nat} {st to : Nat} (ht : to < 8) : ∀ k, LB (skK hw ww st to k).1 ∧ (skK hw ww st to k).2.2 ≤ 8
  | 0 => ⟨fun i _ => by
      show (if i = st then ((0, 0) : Nat × Nat) else (1000000, 0)).1 ≤ 1000000 ∧ (if i = st then ((0, 0) : Nat × Nat) else (1000000, 0)).2 ≤ 8
      by_cases q : i = st
      · rw [if_pos q]; exact ⟨by omega, by omega⟩
      · rw [if_neg q]; exact ⟨by omega, by omega⟩, Nat.zero_le _⟩
  | k + 1 => by
    obtain ⟨h1, h2⟩ := skK_B (hw := hw) (ww := ww) (st := st) ht k
    rw [skK_s]
    refine ⟨skN_B h1, ?_⟩
    show (min2 (skK hw ww st to k).2 (skN hw (ww k) (skK hw ww st to k).2.1 (skK hw ww st to k).1 to)).2 ≤ 8
    rcases min2_c (skK hw ww st to k).2 (skN hw (ww k) (skK hw ww st to k).2.1 (skK hw ww st to k).1 to) with e | e
    · rw [e]; exact h2
    · rw [e]; exact (skN_B h1 to ht).2
theorem skK_never {hw : Nat → Nat → Nat → Nat} {ww : Nat → Nat} {st to : Nat} (hst : st < 8) (ht : to < 8) (hM : ∀ w a b, hw w a b ≤ 315) {k : Nat} (hk : k ≤ 16) (h : (skK hw ww st to k).2.1 = 1000000) : (skK hw ww st to k).2.2 = 0 := by
  rcases (skK_sound (hw := hw) (ww := ww) (to := to) hst ht k).2.1 with e | ⟨j, P, j1, j2, q1, q2, q3⟩
  · rw [e]
  · exfalso
    rw [q3] at h
    have h : cst hw ww P j = 1000000 := h
    have := cst_le (hw := hw) (ww := ww) (P := P) (k := j) hM
    omega
theorem PK_fr {W : List (Nat × Option Nat)} {pk : Option (Nat × Nat)} {s s' : mSG} (h : PK pk s) (f : Fr W s s') (h8 : mW W 34 8 = false) (h9 : mW W 34 9 = false) : PK pk s' := by
  unfold PK at h ⊢
  cases pk with
  | none => dsimp only at h ⊢; rw [(f 34 8 h8).1, (f 34 9 h9).1]; exact h
  | some x => dsimp only at h ⊢; rw [(f 34 8 h8).1, (f 34 9 h9).1]; exact h
theorem LR_fr {W : List (Nat × Option Nat)} {r q : Nat} {L : Nat → Nat × Nat} {s s' : mSG} (h : LR r q L s) (f : Fr W s s') (h1 : ∀ k, mW W r k = false) (h2 : ∀ k, mW W q k = false) : LR r q L s' := fun i hi => by
  rw [(f _ _ (h1 i)).1, (f _ _ (h2 i)).1]
  exact h i hi
section
variable {t : mTX} {tc : Nat} {V : mVT} {A : Ab} {p rn : Nat} {pk : Option (Nat × Nat)}
/-- what stands while it seeks -/
def SKI (t : mTX) (tc : Nat) (V : mVT) (A : Ab) (p rn : Nat) (pk : Option (Nat × Nat)) (w : Nat) (X : (Nat → Nat × Nat) × (Nat × Nat)) (s : mSG) : Prop := GG t tc V A p rn w s ∧ PK pk s ∧ KN 35 36 (hbB V A p rn) s ∧ KN 37 38 (hbP V A p rn) s ∧ LR 39 40 X.1 s ∧ s.1 34 10 = nI X.2.1 ∧ s.1 34 11 = fI X.2.2
theorem c_way {w to : Nat} {X : (Nat → Nat × Nat) × (Nat × Nat)} {s : mSG} (x5 : Int32) {k : Nat} (hk : k < 16) (ok : AbOK A tc) (hp : p < A.pp) (hr : rn ≤ 9) (hw : w ≤ 9) (ht : to < 8) (hB : LB X.1) (b1 : X.2.1 ≤ 1000000) (b2 : X.2.2 ≤ 8) (hx : X.2.1 = 1000000 → X.2.2 = 0) (h : SKI t tc V A p rn pk w X s) : ∃ s', X3_seek_28_7_b64 t (nI to) x5 (nI k) s = some (.inl (nI (k + 1), s')) ∧ SKI t tc V A p rn pk (aSoak (A.kd p) w rn) (skN (hwC V A p rn pk) w X.2.1 X.1, min2 X.2 (skN (hwC V A p rn pk) w X.2.1 X.1 to)) s' := by
  obtain ⟨gg, pk0, k35, k37, lr, c10, c11⟩ := h
  obtain ⟨s1, e1, k1, w1⟩ := c_learn_35 ok hp hw gg k35
  have f1 := FR_X7_learn_35_28_7 _ _ _ _ e1
  have gg1 := GG_fr gg f1 rfl (fun _ => rfl) (fun _ => rfl) (fun _ => rfl) (fun _ => rfl) (fun _ => rfl) (fun _ => rfl)
  have pk1 := PK_fr pk0 f1 rfl rfl
  have lr1 := LR_fr lr f1 (fun _ => rfl) (fun _ => rfl)
  have k371 := KN_fr k37 f1 rfl (fun _ => rfl)
  have key : ∃ s2, (if s1.1 34 8 = -1 then X3_seek_28_7_j99_64 t (nI to) x5 (nI k) s1 else (X7_learn_37_28_7 t 1 s1).bind (fun r8 => X3_seek_28_7_j99_64 t (nI to) x5 (nI k) r8)) = X3_seek_28_7_j99_64 t (nI to) x5 (nI k) s2 ∧ GG t tc V A p rn w s2 ∧ BT V A p rn pk w s2 ∧ KN 35 36 (hbB V A p rn) s2 ∧ KN 37 38 (hbP V A p rn) s2 ∧ LR 39 40 X.1 s2 ∧ s2.1 34 10 = nI X.2.1 ∧ s2.1 34 11 = fI X.2.2 := by
    cases pk with
    | none =>
      have p8 : s1.1 34 8 = -1 := pk1.1
      rw [if_pos p8]
      exact ⟨s1, rfl, gg1, ⟨pk1, w1, fun g => absurd rfl g⟩, k1, k371, lr1, (f1 34 10 rfl).1.trans c10, (f1 34 11 rfl).1.trans c11⟩
    | some x =>
      have p8 : s1.1 34 8 = nI x.1 := pk1.1
      have p3 : x.1 < 8 := pk1.2.2.1
      rw [p8, if_neg (show ¬ nI x.1 = -1 from gl_neN (b := 1) rfl (by omega) (by omega) (by omega))]
      obtain ⟨s2, e2, k2, w2⟩ := c_learn_37 ok hp hw gg1 k371
      have f2 := FR_X7_learn_37_28_7 _ _ _ _ e2
      rw [ob e2]
      exact ⟨s2, rfl, GG_fr gg1 f2 rfl (fun _ => rfl) (fun _ => rfl) (fun _ => rfl) (fun _ => rfl) (fun _ => rfl) (fun _ => rfl), ⟨PK_fr pk1 f2 rfl rfl, KNw_fr w1 f2 (fun _ => rfl), fun _ => w2⟩, KN_fr k1 f2 rfl (fun _ => rfl), k2, LR_fr lr1 f2 (fun _ => rfl) (fun _ => rfl), ((f2 34 10 rfl).1.trans (f1 34 10 rfl).1).trans c10, ((f2 34 11 rfl).1.trans (f1 34 11 rfl).1).trans c11⟩
  obtain ⟨s2, e2, gg2, bt2, k2, k372, lr2, c102, c112⟩ := key
  have hwet : s2.1 28 7 = nI w := gg2.2.2.2.2.2.2.2.1
  obtain ⟨s3, e3, lr3⟩ := c_step ok hp hw hB b1 ⟨bt2, lr2, c102⟩
  have f3 := FR_X3_step _ _ _ e3
  obtain ⟨s4, e4, n1, n2, n3, n4⟩ := c_note ht lr3 (skN_B hB) ((f3 34 10 rfl).1.trans c102) ((f3 34 11 rfl).1.trans c112) b1 b2 hx
  have f4 := FR_X3_noteArrival _ _ _ e4
  have gg3 := GG_fr gg2 f3 rfl (fun _ => rfl) (fun _ => rfl) (fun _ => rfl) (fun _ => rfl) (fun _ => rfl) (fun _ => rfl)
  have gg4 := GG_fr gg3 f4 rfl (fun _ => rfl) (fun _ => rfl) (fun _ => rfl) (fun _ => rfl) (fun _ => rfl) (fun _ => rfl)
  obtain ⟨s5, e5, go5⟩ := c_soak_28 gg4.2.2 (ok.kd p hp) hw hr
  have f5 := FR_X0_soak_28 _ _ e5
  refine ⟨s5, ?_, ⟨CT_fr gg4.1 f5 rfl, RS_fr gg4.2.1 f5 (fun _ => rfl) (fun _ => rfl) (fun _ => rfl) (fun _ => rfl) (fun _ => rfl), go5⟩, PK_fr (PK_fr (PK_fr bt2.1 f3 rfl rfl) f4 rfl rfl) f5 rfl rfl, KN_fr (KN_fr (KN_fr k2 f3 rfl (fun _ => rfl)) f4 rfl (fun _ => rfl)) f5 rfl (fun _ => rfl), KN_fr (KN_fr (KN_fr k372 f3 rfl (fun _ => rfl)) f4 rfl (fun _ => rfl)) f5 rfl (fun _ => rfl), LR_fr (LR_fr lr3 f4 (fun _ => rfl) (fun _ => rfl)) f5 (fun _ => rfl) (fun _ => rfl), (f5 34 10 rfl).1.trans n1, (f5 34 11 rfl).1.trans n2⟩
  unfold X3_seek_28_7_b64
  rw [if_neg (gl_le (x := 16) (m := 16) rfl hk (by omega)), ob e1]
  rw [e2]
  unfold X3_seek_28_7_j99_64
  rw [hwet, ob e3, ob e4, ob e5, nI_1]
theorem c_seek {w0 st to : Nat} {s : mSG} (ok : AbOK A tc) (hp : p < A.pp) (hr : rn ≤ 9) (hw0 : w0 ≤ 9) (hst : st < 8) (ht : to < 8) (gg : GG t tc V A p rn w0 s) (pk0 : PK pk s) (k35 : KN 35 36 (hbB V A p rn) s) (k37 : KN 37 38 (hbP V A p rn) s) : ∃ s', X3_seek_28_7 t (nI st) (nI to) s = some s' ∧ GG t tc V A p rn w0 s' ∧ PK pk s' ∧ KN 35 36 (hbB V A p rn) s' ∧ KN 37 38 (hbP V A p rn) s' ∧ s'.1 34 10 = nI (skB (hwC V A p rn pk) (aWet (A.kd p) rn w0) st to).1 ∧ s'.1 34 11 = fI (skB (hwC V A p rn pk) (aWet (A.kd p) rn w0) st to).2 := by
  have hM := fun w a b => hwC_le (V := V) (rn := rn) (pk := pk) ok hp w a b
  unfold X3_seek_28_7 X3_seek_28_7_j13 skB
  rw [c_two]
  have wr : ∀ (v u : Int32), Fr [(34, some 10), (34, some 11)] s (sI (sI s 34 10 v) 34 11 u) := fun v u => (Fr.rf.wI rfl).wI rfl
  by_cases q : st = to
  · subst q
    rw [if_pos rfl, decide_eq_false (fun g => g.2.2 rfl), if_neg (by decide), if_pos rfl]
    have f := wr 0 (-1)
    exact ⟨_, rfl, GG_fr gg f rfl (fun _ => rfl) (fun _ => rfl) (fun _ => rfl) (fun _ => rfl) (fun _ => rfl) (fun _ => rfl), PK_fr pk0 f rfl rfl, KN_fr k35 f rfl (fun _ => rfl), KN_fr k37 f rfl (fun _ => rfl), by rw [sI_oth (by decide), sI_same]; rfl, by rw [sI_same]; exact fI_0.symm⟩
  · have two : inR (nI st) 7 ∧ inR (nI to) 7 ∧ ¬ nI st = nI to := ⟨(inR_nI (by omega) (by omega)).mpr (by omega), (inR_nI (by omega) (by omega)).mpr (by omega), by rw [nl_eq (by omega) (by omega)]; exact q⟩
    rw [if_neg two.2.2, decide_eq_true two, if_pos rfl, if_neg q]
    have f0 := wr 1000000 (-1)
    obtain ⟨s2, e2, v2, g2⟩ := c_fill_39 1000000 (sI (sI s 34 10 1000000) 34 11 (-1))
    have f2 := FR_J7_fill_39 _ _ _ e2
    obtain ⟨s3, e3, v3, g3⟩ := c_fill_40 (-1) s2
    have f3 := FR_J7_fill_40 _ _ _ e3
    have f4 : Fr [(39, none)] s3 (sI s3 39 st 0) := Fr.rf.wI rfl
    have hwet : s.1 28 7 = nI w0 := gg.2.2.2.2.2.2.2.1
    rw [ob e2, ob e3, if_pos (gl_inb hst (by omega)), nl_cl (by omega), hwet]
    have start : SKI t tc V A p rn pk w0 (skK (hwC V A p rn pk) (aWet (A.kd p) rn w0) st to 0) (sI s3 39 st 0) := by
      refine ⟨GG_fr (GG_fr (GG_fr (GG_fr gg f0 rfl (fun _ => rfl) (fun _ => rfl) (fun _ => rfl) (fun _ => rfl) (fun _ => rfl) (fun _ => rfl)) f2 rfl (fun _ => rfl) (fun _ => rfl) (fun _ => rfl) (fun _ => rfl) (fun _ => rfl) (fun _ => rfl)) f3 rfl (fun _ => rfl) (fun _ => rfl) (fun _ => rfl) (fun _ => rfl) (fun _ => rfl) (fun _ => rfl)) f4 rfl (fun _ => rfl) (fun _ => rfl) (fun _ => rfl) (fun _ => rfl) (fun _ => rfl) (fun _ => rfl), PK_fr (PK_fr (PK_fr (PK_fr pk0 f0 rfl rfl) f2 rfl rfl) f3 rfl rfl) f4 rfl rfl, KN_fr (KN_fr (KN_fr (KN_fr k35 f0 rfl (fun _ => rfl)) f2 rfl (fun _ => rfl)) f3 rfl (fun _ => rfl)) f4 rfl (fun _ => rfl), KN_fr (KN_fr (KN_fr (KN_fr k37 f0 rfl (fun _ => rfl)) f2 rfl (fun _ => rfl)) f3 rfl (fun _ => rfl)) f4 rfl (fun _ => rfl), fun i hi => ?_, ?_, ?_⟩
      · show (sI s3 39 st 0).1 39 i = nI (if i = st then ((0, 0) : Nat × Nat) else (1000000, 0)).1 ∧ (sI s3 39 st 0).1 40 i = fI (if i = st then ((0, 0) : Nat × Nat) else (1000000, 0)).2
        by_cases qi : i = st
        · rw [if_pos qi, qi, sI_same, sI_adr (by decide), v3 st hst]
          exact ⟨rfl, fI_0.symm⟩
        · rw [if_neg qi, sI_oth qi, sI_adr (by decide), v3 i hi, g3 39 (by decide), v2 i hi]
          exact ⟨rfl, fI_0.symm⟩
      · rw [sI_adr (by decide), g3 34 (by decide), g2 34 (by decide), sI_oth (by decide), sI_same]
        rfl
      · rw [sI_adr (by decide), g3 34 (by decide), g2 34 (by decide), sI_same]
        exact fI_0.symm
    have key : ∃ e, X3_seek_28_7_l64 t (nI to) (nI w0) (0, sI s3 39 st 0) = some e ∧ SKI t tc V A p rn pk (aWet (A.kd p) rn w0 16) (skK (hwC V A p rn pk) (aWet (A.kd p) rn w0) st to 16) e := by
      unfold X3_seek_28_7_l64
      refine lpN (fun k (v : Int32 × mSG) => v.1 = nI k ∧ SKI t tc V A p rn pk (aWet (A.kd p) rn w0 k) (skK (hwC V A p rn pk) (aWet (A.kd p) rn w0) st to k) v.2) _ 16 (by unfold mFU; omega) ?_ ?_ (k := 0) (by omega) (x := (0, sI s3 39 st 0)) ⟨rfl, start⟩
      · intro k v hk hv
        obtain ⟨y, s5⟩ := v
        obtain ⟨g1, g2⟩ := hv
        have g1 : y = nI k := g1
        subst g1
        obtain ⟨B1, B2⟩ := skK_B (hw := hwC V A p rn pk) (ww := aWet (A.kd p) rn w0) (st := st) ht k
        obtain ⟨s6, e6, h6⟩ := c_way (nI w0) hk ok hp hr (aWet_le hw0 k) ht B1 (skK_sound (hw := hwC V A p rn pk) (ww := aWet (A.kd p) rn w0) (to := to) hst ht k).2.2 B2 (skK_never hst ht hM (by omega)) g2
        exact ⟨(nI (k + 1), s6), e6, rfl, h6⟩
      · intro v hv
        obtain ⟨y, s5⟩ := v
        obtain ⟨g1, g2⟩ := hv
        have g1 : y = nI 16 := g1
        subst g1
        refine ⟨s5, ?_, g2⟩
        show X3_seek_28_7_b64 t (nI to) (nI w0) (nI 16) s5 = _
        unfold X3_seek_28_7_b64
        rw [if_pos (show (16 : Int32) ≤ nI 16 from by decide)]
    obtain ⟨e, he, hS⟩ := key
    rw [ob he]
    obtain ⟨gg', pk', a35, a37, _, b10, b11⟩ := hS
    have f5 : Fr [(28, some 7)] e (sI e 28 7 (nI w0)) := Fr.rf.wI rfl
    obtain ⟨o1, o2, o3, o4, o5, o6, o7⟩ := gg'.2.2
    refine ⟨_, rfl, ⟨CT_fr gg'.1 f5 rfl, RS_fr gg'.2.1 f5 (fun _ => rfl) (fun _ => rfl) (fun _ => rfl) (fun _ => rfl) (fun _ => rfl), o1, o2, o3, o4, o5, sI_same, o7⟩, PK_fr pk' f5 rfl rfl, KN_fr a35 f5 rfl (fun _ => rfl), KN_fr a37 f5 rfl (fun _ => rfl), (f5 34 10 rfl).1.trans b10, (f5 34 11 rfl).1.trans b11⟩
end
