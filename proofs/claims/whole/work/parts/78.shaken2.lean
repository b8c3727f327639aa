/-! shaken, the model -/
def kW (A : Ab) (p q d : Nat) : Nat := 10 * wtD A p d + wtD A q d
def kR (V : mVT) (A : Ab) (p q e k : Nat) : Bool := decide (kW A p q e = k % 100) && shS V A p e (k / 100)
def sMid (V : mVT) (A : Ab) (p q d : Nat) (P : Nat → Bool) (k : Nat) : Option Nat := match lv (kR V A p q) d k with
  | some e => some e
  | none => if (decide (k % 100 = kW A p q (d + 1)) && P (k / 100)) = true then some (d + 1) else none
def WK (f : Nat → Option Nat) (s : mSG) : Prop := ∀ k, k < 800 → s.1 73 k = oI (f k)
section
variable {t : mTX} {tc : Nat} {V : mVT} {A : Ab} {p q : Nat}
theorem sMid_d {d : Nat} {P : Nat → Bool} {k : Nat} : sMid V A p q d P k = some d ↔ lv (kR V A p q) d k = some d := by
  unfold sMid
  cases hl : lv (kR V A p q) d k with
  | some e => exact Iff.rfl
  | none =>
    refine ⟨fun h => ?_, fun h => by cases h⟩
    have h : (if (decide (k % 100 = kW A p q (d + 1)) && P (k / 100)) = true then some (d + 1) else none) = some d := h
    by_cases g : (decide (k % 100 = kW A p q (d + 1)) && P (k / 100)) = true
    · rw [if_pos g] at h
      have := Option.some.inj h
      omega
    · rw [if_neg g] at h
      cases h
theorem sMid_lt {d : Nat} {P : Nat → Bool} {k : Nat} (hd : d < 100) : ∀ e, sMid V A p q d P k = some e → e < 1000 := by
  intro e h
  unfold sMid at h
  cases hl : lv (kR V A p q) d k with
  | some e' =>
    rw [hl] at h
    have h : some e' = some e := h
    have := (lv_some hl).1
    cases h
    omega
  | none =>
    rw [hl] at h
    have h : (if (decide (k % 100 = kW A p q (d + 1)) && P (k / 100)) = true then some (d + 1) else none) = some e := h
    by_cases g : (decide (k % 100 = kW A p q (d + 1)) && P (k / 100)) = true
    · rw [if_pos g] at h; cases h; omega
    · rw [if_neg g] at h; cases h
theorem sMid_cg {d : Nat} {P Q : Nat → Bool} (h : ∀ i, i < 8 → P i = Q i) {k : Nat} (hk : k < 800) : sMid V A p q d P k = sMid V A p q d Q k := by
  unfold sMid
  rw [h (k / 100) (by omega)]
/-- a place that is new at d -/
theorem kR_at {d k : Nat} (hl : lv (kR V A p q) d k = some d) : kW A p q d = k % 100 ∧ shS V A p d (k / 100) = true := by
  have h := (lv_some hl).2.1
  unfold kR at h
  rw [Bool.and_eq_true] at h
  exact ⟨of_decide_eq_true h.1, h.2⟩
theorem kW_eq (ok : AbOK A tc) (hp : p < A.pp) (hq : q < A.pp) {d e : Nat} (h : kW A p q d = kW A p q e) : wtD A p d = wtD A p e ∧ wtD A q d = wtD A q e := by
  have h1 := wtD_le ok hp d
  have h2 := wtD_le ok hq d
  have h3 := wtD_le ok hp e
  have h4 := wtD_le ok hq e
  unfold kW at h
  omega
theorem kW_s {d e : Nat} (h : wtD A p d = wtD A p e ∧ wtD A q d = wtD A q e) : kW A p q (d + 1) = kW A p q (e + 1) := by
  have h1 : wtD A p (d + 1) = wtD A p (e + 1) := by
    show aSoak _ (wtD A p d) _ = aSoak _ (wtD A p e) _
    rw [h.1]
  have h2 : wtD A q (d + 1) = wtD A q (e + 1) := by
    show aSoak _ (wtD A q d) _ = aSoak _ (wtD A q e) _
    rw [h.2]
  unfold kW
  rw [h1, h2]
theorem m_shk {s : mSG} {P : Nat → Bool} {d k b : Nat} (ok : AbOK A tc) (hp : p < A.pp) (hq : q < A.pp) (hd : d < 8) (hk : k < 800) (hb : b < 8) (h : MG t tc V A s) (hw : WK (sMid V A p q d P) s) (hl : lv (kR V A p q) d k = some d) : ∃ o, X9_shaken_b132 (nI p) (nI q) (nI (tRn A)) (nI d) (nI k) (nI b) s = some o ∧ ((gW V A p (wtD A p d) (k / 100) b && !(gW V A q (wtD A q d) (k / 100) b)) = true ∧ (∃ s', o = .inr (.inl s')) ∨ (gW V A p (wtD A p d) (k / 100) b && !(gW V A q (wtD A q d) (k / 100) b)) = false ∧ ∃ s', o = .inl (nI (b + 1), s') ∧ MG t tc V A s' ∧ WK (sMid V A p q d (fun i => P i || (decide (i = b) && gW V A p (wtD A p d) (k / 100) b))) s') := by
  have h5 := ok.pp
  obtain ⟨w1, w2⟩ := kR_at hl
  have a1 := wtD_le ok hp d
  have a2 := wtD_le ok hq d
  have ew1 : k / 10 % 10 = wtD A p d := by unfold kW at w1; omega
  have ew2 : k % 10 = wtD A q d := by unfold kW at w1; omega
  have hr := ok.rn (A.hr % 24)
  have ek : s.1 73 k = nI d := by
    rw [hw k hk, oI_some (by omega) (sMid_lt (by omega)), sMid_d]
    exact hl
  have n10 : nI k / 10 = nI (k / 10) := nl_div (d := 10) (by omega) (by omega) (by omega)
  have n100 : nI k / 100 = nI (k / 100) := nl_div (d := 100) (by omega) (by omega) (by omega)
  have nw1 : nI (k / 10) - nI (k / 10) / 10 * 10 = nI (wtD A p d) := by
    rw [← ew1]
    exact nl_rem (d := 10) (by omega) (by omega) (by omega)
  have nw2 : nI k - nI (k / 10) * 10 = nI (wtD A q d) := by
    rw [← n10, ← ew2]
    exact nl_rem (d := 10) (by omega) (by omega) (by omega)
  unfold X9_shaken_b132 X9_shaken_j268_132 X9_shaken_j269_132
  rw [if_neg (gl_le (x := 8) (m := 8) rfl hb (by omega)), if_pos (gl_inb hk (by omega)), nl_cl (show k < 2147483648 by omega), if_pos ek, n10, n100, nw1, nw2, nI_1]
  obtain ⟨s1, e1⟩ := m_canGo h.1 h.2.1 h.2.2 ok (rn := tRn A) hp a1 (show k / 100 ≤ 7 by omega) (show b ≤ 7 by omega)
  have e1 : X9_canGo (nI p) (nI (wtD A p d)) (nI (tRn A)) (nI (k / 100)) (nI b) s = some (gW V A p (wtD A p d) (k / 100) b, s1) := e1
  have f1 := FR_X9_canGo _ _ _ _ _ _ _ e1
  have h1 := MG_fr h f1 rfl (fun _ => rfl) (fun _ => rfl) (fun _ => rfl) (fun _ => rfl) (fun _ => rfl) (fun _ => rfl) (fun _ => rfl) (fun _ => rfl) (fun _ => rfl) (fun _ => rfl) (fun _ => rfl) rfl rfl rfl
  rw [ob e1]
  dsimp only
  have hw1 : WK (sMid V A p q d P) s1 := fun i hi => by
    rw [(f1 73 i rfl).1]
    exact hw i hi
  cases hg : gW V A p (wtD A p d) (k / 100) b with
  | false =>
    rw [if_neg (by decide)]
    refine ⟨_, rfl, Or.inr ⟨rfl, s1, rfl, h1, fun i hi => ?_⟩⟩
    rw [hw1 i hi]
    simp
  | true =>
    obtain ⟨s2, e2⟩ := m_canGo h1.1 h1.2.1 h1.2.2 ok (rn := tRn A) hq a2 (show k / 100 ≤ 7 by omega) (show b ≤ 7 by omega)
    have e2 : X9_canGo (nI q) (nI (wtD A q d)) (nI (tRn A)) (nI (k / 100)) (nI b) s1 = some (gW V A q (wtD A q d) (k / 100) b, s2) := e2
    have f2 := FR_X9_canGo _ _ _ _ _ _ _ e2
    have h2 := MG_fr h1 f2 rfl (fun _ => rfl) (fun _ => rfl) (fun _ => rfl) (fun _ => rfl) (fun _ => rfl) (fun _ => rfl) (fun _ => rfl) (fun _ => rfl) (fun _ => rfl) (fun _ => rfl) (fun _ => rfl) rfl rfl rfl
    have hw2 : WK (sMid V A p q d P) s2 := fun i hi => by
      rw [(f2 73 i rfl).1]
      exact hw1 i hi
    rw [if_pos rfl, ob e2]
    dsimp only
    cases hg2 : gW V A q (wtD A q d) (k / 100) b with
    | false =>
      rw [if_neg (by decide)]
      exact ⟨_, rfl, Or.inl ⟨rfl, s2, rfl⟩⟩
    | true =>
      have b1 := wtD_le ok hp (d + 1)
      have b2 := wtD_le ok hq (d + 1)
      have hkey : 100 * b + kW A p q (d + 1) < 800 := by unfold kW; omega
      have es1 := m_soaks h2.2.2 ok hp a1 hr
      have es2 := m_soaks h2.2.2 ok hq a2 hr
      have ekey : 100 * nI b + 10 * nI (wtD A p (d + 1)) + nI (wtD A q (d + 1)) = nI (100 * b + kW A p q (d + 1)) := by
        rw [show (100 : Int32) * nI b = nI (100 * b) from pk_mul 100 b, show (10 : Int32) * nI (wtD A p (d + 1)) = nI (10 * wtD A p (d + 1)) from pk_mul 10 _, nI_add, nI_add]
        unfold kW
        rw [Nat.add_assoc]
      rw [if_pos rfl, ob (show X9_soaks (nI p) (nI (wtD A p d)) (nI (tRn A)) s2 = some (nI (wtD A p (d + 1))) from es1), ob (show X9_soaks (nI q) (nI (wtD A q d)) (nI (tRn A)) s2 = some (nI (wtD A q (d + 1))) from es2), ekey, if_pos (gl_inb hkey (by omega)), nl_cl (by omega), nI_1]
      have em : (100 * b + kW A p q (d + 1)) % 100 = kW A p q (d + 1) := by unfold kW; omega
      have ed : (100 * b + kW A p q (d + 1)) / 100 = b := by unfold kW; omega
      have step : ∀ v, (s2.1 73 (100 * b + kW A p q (d + 1)) = -1 ∧ v = nI (d + 1) ∨ ¬ s2.1 73 (100 * b + kW A p q (d + 1)) = -1 ∧ v = s2.1 73 (100 * b + kW A p q (d + 1))) → WK (sMid V A p q d (fun i => P i || (decide (i = b) && true))) (sI s2 73 (100 * b + kW A p q (d + 1)) v) := by
        intro v hv i hi
        by_cases qi : i = 100 * b + kW A p q (d + 1)
        · rw [qi, sI_same]
          rw [qi] at hi
          have o := hw2 _ hi
          rcases hv with ⟨v1, v2⟩ | ⟨v1, v2⟩
          · rw [o, oI_none (sMid_lt (by omega))] at v1
            unfold sMid at v1 ⊢
            cases hl' : lv (kR V A p q) d (100 * b + kW A p q (d + 1)) with
            | some e => rw [hl'] at v1; cases v1
            | none =>
              rw [em, ed, v2]
              simp [oI]
          · rw [v2, o]
            have o' := o
            rw [o, oI_none (sMid_lt (by omega))] at v1
            unfold sMid at v1 ⊢
            cases hl' : lv (kR V A p q) d (100 * b + kW A p q (d + 1)) with
            | some e => rfl
            | none =>
              rw [hl'] at v1
              dsimp only at v1
              by_cases g : (decide ((100 * b + kW A p q (d + 1)) % 100 = kW A p q (d + 1)) && P ((100 * b + kW A p q (d + 1)) / 100)) = true
              · rw [em, ed] at g ⊢
                simp at g
                simp [g]
              · exact absurd (if_neg g) v1
        · rw [sI_oth qi, hw2 i hi]
          unfold sMid
          by_cases g : i % 100 = kW A p q (d + 1)
          · have g2 : ¬ i / 100 = b := fun g2 => qi (by omega)
            simp [g2]
          · simp [g]
      by_cases g : s2.1 73 (100 * b + kW A p q (d + 1)) = -1
      · rw [if_pos g, if_pos (gl_inb hkey (by omega))]
        exact ⟨_, rfl, Or.inr ⟨rfl, _, rfl, MG_sI h2 (by omega) (by omega), step _ (Or.inl ⟨g, rfl⟩)⟩⟩
      · rw [if_neg g, if_pos (gl_inb hkey (by omega))]
        exact ⟨_, rfl, Or.inr ⟨rfl, _, rfl, MG_sI h2 (by omega) (by omega), step _ (Or.inr ⟨g, rfl⟩)⟩⟩
theorem m_s132 {s : mSG} {P : Nat → Bool} {d k : Nat} (ok : AbOK A tc) (hp : p < A.pp) (hq : q < A.pp) (hd : d < 8) (hk : k < 800) (h : MG t tc V A s) (hw : WK (sMid V A p q d P) s) : ∃ e, X9_shaken_l132 (nI p) (nI q) (nI (tRn A)) (nI d) (nI k) (0, s) = some e ∧ ((lv (kR V A p q) d k = some d ∧ shX V A p q d (k / 100) = true ∧ ∃ s', e = .inl s') ∨ (¬ (lv (kR V A p q) d k = some d ∧ shX V A p q d (k / 100) = true) ∧ ∃ s', e = .inr s' ∧ MG t tc V A s' ∧ WK (sMid V A p q d (fun i => P i || (decide (lv (kR V A p q) d k = some d) && gW V A p (wtD A p d) (k / 100) i))) s')) := by
  unfold X9_shaken_l132
  by_cases hl : lv (kR V A p q) d k = some d
  · refine lpE (fun b (v : Int32 × mSG) => v.1 = nI b ∧ MG t tc V A v.2 ∧ (∀ j, j < b → (gW V A p (wtD A p d) (k / 100) j && !(gW V A q (wtD A q d) (k / 100) j)) = false) ∧ WK (sMid V A p q d (fun i => P i || (decide (i < b) && gW V A p (wtD A p d) (k / 100) i))) v.2) _ 8 (by unfold mFU; omega) ?_ ?_ (k := 0) (by omega) (x := (0, s)) ⟨rfl, h, fun j hj => absurd hj (Nat.not_lt_zero j), fun i hi => by rw [hw i hi]; exact congrArg oI (sMid_cg (fun j _ => by simp) hi)⟩
    · intro b v hb hv
      obtain ⟨y, s1⟩ := v
      obtain ⟨g1, g2, g3, g4⟩ := hv
      have g1 : y = nI b := g1
      subst g1
      obtain ⟨o, e1, hc⟩ := m_shk ok hp hq hd hk hb g2 g4 hl
      rcases hc with ⟨c1, s2, rfl⟩ | ⟨c1, s2, rfl, m2, w2⟩
      · exact Or.inr ⟨_, e1, Or.inl ⟨hl, (anyB_iff 8).mpr ⟨b, hb, c1⟩, s2, rfl⟩⟩
      · refine Or.inl ⟨_, e1, rfl, m2, fun j hj => ?_, fun i hi => ?_⟩
        · by_cases qj : j = b
          · rw [qj]; exact c1
          · exact g3 j (by omega)
        · rw [w2 i hi]
          refine congrArg oI (sMid_cg (fun j _ => ?_) hi)
          by_cases q1 : j = b
          · subst q1
            simp
          · by_cases q2 : j < b
            · simp [q1, q2, show j < b + 1 by omega]
            · simp [q1, q2, show ¬ j < b + 1 by omega]
    · intro v hv
      obtain ⟨y, s1⟩ := v
      obtain ⟨g1, g2, g3, g4⟩ := hv
      have g1 : y = nI 8 := g1
      subst g1
      refine ⟨.inr s1, ?_, Or.inr ⟨fun g => ?_, s1, rfl, g2, fun i hi => ?_⟩⟩
      · show X9_shaken_b132 (nI p) (nI q) (nI (tRn A)) (nI d) (nI k) (nI 8) s1 = _
        unfold X9_shaken_b132
        rw [if_pos (show (8 : Int32) ≤ nI 8 from by decide)]
      · obtain ⟨b, hb, hb'⟩ := (anyB_iff 8).mp g.2
        rw [g3 b hb] at hb'
        cases hb'
      · rw [show s1.1 73 i = _ from g4 i hi]
        exact congrArg oI (sMid_cg (fun j hj => by simp [hj, hl]) hi)
  · refine ⟨.inr s, it_r (by unfold mFU; omega) ?_, Or.inr ⟨fun g => hl g.1, s, rfl, h, fun i hi => ?_⟩⟩
    · show X9_shaken_b132 (nI p) (nI q) (nI (tRn A)) (nI d) (nI k) 0 s = _
      unfold X9_shaken_b132
      rw [if_neg (by decide), if_pos (gl_inb hk (by omega)), nl_cl (show k < 2147483648 by omega), if_neg (fun g => hl (by rw [hw k hk, oI_some (by omega) (sMid_lt (by omega)), sMid_d] at g; exact g))]
    · rw [hw i hi]
      exact congrArg oI (sMid_cg (fun j _ => by simp [hl]) hi)
/-- one round -/
theorem m_s121 {s : mSG} {d : Nat} (ok : AbOK A tc) (hp : p < A.pp) (hq : q < A.pp) (hd : d < 8) (hno : ∀ e, e < d → shB V A p q e = false) (h : MG t tc V A s) (hw : WK (lv (kR V A p q) d) s) : ∃ e, X9_shaken_l121 (nI p) (nI q) (nI (tRn A)) (nI d) (0, s) = some e ∧ ((shB V A p q d = true ∧ ∃ s', e = .inl s') ∨ (shB V A p q d = false ∧ ∃ s', e = .inr s' ∧ MG t tc V A s' ∧ WK (lv (kR V A p q) (d + 1)) s')) := by
  unfold X9_shaken_l121
  refine lpE (fun k (v : Int32 × mSG) => v.1 = nI k ∧ MG t tc V A v.2 ∧ (∀ j, j < k → ¬ (lv (kR V A p q) d j = some d ∧ shX V A p q d (j / 100) = true)) ∧ WK (sMid V A p q d (fun i => anyB (fun k => decide (lv (kR V A p q) d k = some d) && gW V A p (wtD A p d) (k / 100) i) k)) v.2) _ 800 (by unfold mFU; omega) ?_ ?_ (k := 0) (by omega) (x := (0, s)) ⟨rfl, h, fun j hj => absurd hj (Nat.not_lt_zero j), fun i hi => by rw [hw i hi]; unfold sMid anyB; cases lv (kR V A p q) d i <;> simp⟩
  · intro k v hk hv
    obtain ⟨y, s1⟩ := v
    obtain ⟨g1, g2, g3, g4⟩ := hv
    have g1 : y = nI k := g1
    subst g1
    obtain ⟨e, he, hc⟩ := m_s132 ok hp hq hd hk g2 g4
    have hd2 : ∀ o, Sum.elim (fun e132_0 => some (.inr (.inl e132_0))) (fun e132_1 => some (.inl (nI (k + 1), e132_1))) e = o → X9_shaken_b121 (nI p) (nI q) (nI (tRn A)) (nI d) (nI k) s1 = o := by
      intro o ho
      unfold X9_shaken_b121 X9_shaken_j275_121
      rw [if_neg (gl_le (x := 800) (m := 800) rfl hk (by omega)), ob he, nI_1]
      exact ho
    rcases hc with ⟨c1, c2, s2, rfl⟩ | ⟨c1, s2, rfl, m2, w2⟩
    · refine Or.inr ⟨_, hd2 _ rfl, Or.inl ⟨?_, s2, rfl⟩⟩
      exact (anyB_iff 8).mpr ⟨k / 100, by omega, by rw [(kR_at c1).2, c2]; rfl⟩
    · refine Or.inl ⟨_, hd2 _ rfl, rfl, m2, fun j hj => ?_, w2⟩
      by_cases qj : j = k
      · rw [qj]; exact c1
      · exact g3 j (by omega)
  · intro v hv
    obtain ⟨y, s1⟩ := v
    obtain ⟨g1, g2, g3, g4⟩ := hv
    have g1 : y = nI 800 := g1
    subst g1
    -- a stone that was reached stands at a place that is new at d, or was met before
    have place : ∀ a, a < 8 → shS V A p d a = true → lv (kR V A p q) d (100 * a + kW A p q d) = some d ∨ ∃ e, e < d ∧ wtD A p e = wtD A p d ∧ wtD A q e = wtD A q d ∧ shS V A p e a = true := by
      intro a ha hs
      have b1 := wtD_le ok hp d
      have b2 := wtD_le ok hq d
      have em : (100 * a + kW A p q d) % 100 = kW A p q d := by unfold kW; omega
      have ed : (100 * a + kW A p q d) / 100 = a := by unfold kW; omega
      have hR : kR V A p q d (100 * a + kW A p q d) = true := by
        unfold kR
        rw [em, ed, hs]
        simp
      cases hl : lv (kR V A p q) d (100 * a + kW A p q d) with
      | none =>
        have := lv_none hl d (Nat.le_refl _)
        rw [hR] at this
        cases this
      | some e =>
        by_cases qe : e = d
        · rw [qe]; exact Or.inl rfl
        · obtain ⟨l1, l2, l3⟩ := lv_some hl
          unfold kR at l2
          rw [em, ed, Bool.and_eq_true] at l2
          have := kW_eq ok hp hq (of_decide_eq_true l2.1)
          exact Or.inr ⟨e, by omega, this.1, this.2, l2.2⟩
    have noB : shB V A p q d = false := by
      cases hB : shB V A p q d with
      | false => rfl
      | true =>
        exfalso
        obtain ⟨a, ha, hh⟩ := (anyB_iff 8).mp hB
        rw [Bool.and_eq_true] at hh
        have b1 := wtD_le ok hp d
        have b2 := wtD_le ok hq d
        rcases place a ha hh.1 with hl | ⟨e, he, e1, e2, e3⟩
        · have ed : (100 * a + kW A p q d) / 100 = a := by unfold kW; omega
          exact g3 (100 * a + kW A p q d) (by unfold kW; omega) ⟨hl, by rw [ed]; exact hh.2⟩
        · have hx : shX V A p q e a = true := by
            unfold shX
            rw [e1, e2]
            exact hh.2
          have := hno e he
          rw [show shB V A p q e = true from (anyB_iff 8).mpr ⟨a, ha, by rw [e3, hx]; rfl⟩] at this
          cases this
    refine ⟨.inr s1, ?_, Or.inr ⟨noB, s1, rfl, g2, fun k hk => ?_⟩⟩
    · show X9_shaken_b121 (nI p) (nI q) (nI (tRn A)) (nI d) (nI 800) s1 = _
      unfold X9_shaken_b121
      rw [if_pos (show (800 : Int32) ≤ nI 800 from by decide)]
    · rw [show s1.1 73 k = _ from g4 k hk, lv_s]
      unfold sMid
      cases hl : lv (kR V A p q) d k with
      | some e => rfl
      | none =>
        have hR : (decide (k % 100 = kW A p q (d + 1)) && anyB (fun k' => decide (lv (kR V A p q) d k' = some d) && gW V A p (wtD A p d) (k' / 100) (k / 100)) 800) = kR V A p q (d + 1) k := by
          show _ = (decide (kW A p q (d + 1) = k % 100) && shS V A p (d + 1) (k / 100))
          by_cases g : k % 100 = kW A p q (d + 1)
          · rw [decide_eq_true g, decide_eq_true g.symm, Bool.true_and, Bool.true_and]
            show _ = anyB (fun a => shS V A p d a && gW V A p (wtD A p d) a (k / 100)) 8
            rw [Bool.eq_iff_iff, anyB_iff, anyB_iff]
            constructor
            · rintro ⟨k', hk', hh⟩
              rw [Bool.and_eq_true] at hh
              have hl' := of_decide_eq_true hh.1
              exact ⟨k' / 100, by omega, by rw [(kR_at hl').2, hh.2]; rfl⟩
            · rintro ⟨a, ha, hh⟩
              rw [Bool.and_eq_true] at hh
              have b1 := wtD_le ok hp d
              have b2 := wtD_le ok hq d
              rcases place a ha hh.1 with hl' | ⟨e, he, e1, e2, e3⟩
              · have ed : (100 * a + kW A p q d) / 100 = a := by unfold kW; omega
                exact ⟨100 * a + kW A p q d, by unfold kW; omega, by rw [decide_eq_true hl', ed, hh.2]; rfl⟩
              · exfalso
                have hs1 : shS V A p (e + 1) (k / 100) = true := by
                  show anyB (fun a => shS V A p e a && gW V A p (wtD A p e) a (k / 100)) 8 = true
                  exact (anyB_iff 8).mpr ⟨a, ha, by rw [e3, e1, hh.2]; rfl⟩
                have hw1 : kW A p q (e + 1) = k % 100 := by rw [g]; exact kW_s ⟨e1, e2⟩
                have := lv_none hl (e + 1) (by omega)
                unfold kR at this
                rw [hs1, decide_eq_true hw1] at this
                cases this
          · rw [decide_eq_false g, decide_eq_false (fun g' => g g'.symm), Bool.false_and, Bool.false_and]
        show oI (if _ then _ else _) = oI (if _ then _ else _)
        rw [hR]
theorem m_s111 {s : mSG} (ok : AbOK A tc) (hp : p < A.pp) (hq : q < A.pp) : ∀ (m d N : Nat) (s : mSG), d + m = 8 → m < N → (∀ e, e < d → shB V A p q e = false) → MG t tc V A s → WK (lv (kR V A p q) d) s → ∃ e, iter (fun v : Int32 × mSG => X9_shaken_b111 (nI p) (nI q) (nI (tRn A)) v.1 v.2) N (nI d, s) = some e ∧ ∃ s', Sum.elim (fun e0 : Int32 × mSG => some (e0.1 + 1, e0.2)) (fun e1 => some ((-1 : Int32), e1)) e = some (shR V A p q m d, s') := by
  intro m
  induction m with
  | zero =>
    intro d N s hd hN hno h hw
    refine ⟨.inr s, it_r (by omega) ?_, s, rfl⟩
    show X9_shaken_b111 (nI p) (nI q) (nI (tRn A)) (nI d) s = _
    unfold X9_shaken_b111
    rw [if_pos (show (8 : Int32) ≤ nI d from nI_le (a := 8) (by omega) (by omega))]
  | succ m ih =>
    intro d N s hd hN hno h hw
    obtain ⟨e, he, hc⟩ := m_s121 ok hp hq (show d < 8 by omega) hno h hw
    have hd2 : ∀ o, Sum.elim (fun e121_0 => some (.inr (.inl (nI d, e121_0)))) (fun e121_1 => some (.inl (nI (d + 1), e121_1))) e = o → X9_shaken_b111 (nI p) (nI q) (nI (tRn A)) (nI d) s = o := by
      intro o ho
      unfold X9_shaken_b111
      rw [if_neg (gl_le (x := 8) (m := 8) rfl (show d < 8 by omega) (by omega)), ob he, nI_1]
      exact ho
    rcases hc with ⟨hb, s2, rfl⟩ | ⟨hb, s2, rfl, m2, w2⟩
    · refine ⟨.inl (nI d, s2), it_r (by omega) (hd2 _ rfl), s2, ?_⟩
      show some (nI d + 1, s2) = some ((if shB V A p q d = true then nI (d + 1) else shR V A p q m (d + 1)), s2)
      rw [if_pos hb, nI_1]
    · obtain ⟨e', he', s', hs'⟩ := ih (d + 1) (N - 1) s2 (by omega) (by omega) (fun e hee => by
        by_cases qe : e = d
        · rw [qe]; exact hb
        · exact hno e (by omega)) m2 w2
      refine ⟨e', ?_, s', ?_⟩
      · rw [it_l (by omega) (y := (nI (d + 1), s2)) (hd2 _ rfl)]
        exact he'
      · rw [hs']
        show _ = some ((if shB V A p q d = true then nI (d + 1) else shR V A p q m (d + 1)), s')
        rw [if_neg (by rw [hb]; decide)]
end
theorem m_steps0 (x1 x2 x3 : Int32) (s0 : mSG) : ∃ s', X9_shaken_l54 x1 x2 x3 (0, s0) = some s' ∧ (∀ i, i < 800 → s'.1 73 i = -1) := by
  unfold X9_shaken_l54
  refine lpN (fun i (v : Int32 × mSG) => v.1 = nI i ∧ (∀ j, j < i → v.2.1 73 j = -1)) _ 800 (by unfold mFU; omega) ?_ ?_ (k := 0) (by omega) (x := (0, s0)) ⟨rfl, fun j hj => absurd hj (Nat.not_lt_zero j)⟩
  · intro i v hi hv
    obtain ⟨x, s⟩ := v
    obtain ⟨e, r⟩ := hv
    have e : x = nI i := e
    subst e
    have r : ∀ j, j < i → s.1 73 j = -1 := r
    refine ⟨(nI (i + 1), sI s 73 i (-1)), ?_, rfl, fun j hj => ?_⟩
    · show X9_shaken_b54 x1 x2 x3 (nI i) s = _
      unfold X9_shaken_b54
      rw [if_neg (gl_le (x := 800) (m := 800) rfl hi (by omega)), if_pos (gl_inb hi (by omega)), nl_cl (by omega), nI_1]
    · show (sI s 73 i (-1)).1 73 j = -1
      by_cases q : j = i
      · subst q; rw [sI_same]
      · rw [sI_oth q]; exact r j (by omega)
  · intro v hv
    obtain ⟨x, s⟩ := v
    obtain ⟨e, r⟩ := hv
    have e : x = nI 800 := e
    subst e
    refine ⟨s, ?_, r⟩
    show X9_shaken_b54 x1 x2 x3 (nI 800) s = _
    unfold X9_shaken_b54
    rw [if_pos (show (800 : Int32) ≤ nI 800 from by decide)]
theorem L_shaken {t : mTX} {s : mSG} (h : INV t s) (x y : Int32) : ∃ v s1 s2, X8_shaken t x y s = some (v, s1) ∧ X9_shaken x y s1 = some (v, s2) ∧ INV t s2 := by
  have hI := h
  obtain ⟨tc, V, A, hk, K, ts, tp, sk, sn, si, hv⟩ := h
  have hw := hv
  obtain ⟨⟨a1, a2, a3, a4, a5, a6⟩, ⟨b1, b2, b3⟩, _⟩ := hw
  have h5 := b3.pp
  have hh := b3.hr
  by_cases q : inP x A.pp ∧ inP y A.pp ∧ ¬ x = y
  · obtain ⟨q1, q2, q3⟩ := q
    obtain ⟨p, hp, rfl⟩ := inP_of q1 (by omega)
    obtain ⟨r, hr, rfl⟩ := inP_of q2 (by omega)
    have hst := b3.st p hp
    have hst2 := b3.st r hr
    have hw1 := b3.wt p hp
    have hw2 := b3.wt r hr
    by_cases qs : A.st p = A.st r
    · obtain ⟨s1, e1, tg⟩ := c_both (V := V) a1 a3 a6 b1 b3 hp hr (fun r6 r5 => (X8_shaken_l79 t (1 <<< (r6 &&& 31), 1, r5)).bind (fun e79 => Sum.elim (fun e79_0 : Int32 × mSG => some (e79_0.1, e79_0.2)) (fun e79_1 => some ((-1), e79_1)) e79))
      obtain ⟨e2, he2, s2, hs2⟩ := c_shakenL (V := V) (t := t) b3 hp hr 8 0 mFU (1 <<< (nI (A.st p) &&& 31)) s1 (by omega) (by unfold mFU; omega) (bS_one (by omega)) tg
      have x1 : X8_shaken t (nI p) (nI r) s = some (shR V A p r 8 0, s2) := by
        unfold X8_shaken
        rw [c_twoP b1 h5, decide_eq_true ⟨q1, q2, q3⟩, if_pos rfl, ob (c_oneSt b1 b3 hp hr), decide_eq_true qs, if_pos rfl, e1, ob (show X8_shaken_l79 t (1 <<< (nI (A.st p) &&& 31), 1, s1) = some e2 from he2)]
        exact hs2
      have f1 := FR_X8_shaken _ _ _ _ _ x1
      have i1 := IV_fr hv f1 rfl
      have i1' := i1
      obtain ⟨⟨a1', a2', _⟩, ⟨b1', b2', _⟩, _⟩ := i1'
      obtain ⟨s3, e3, w3⟩ := m_steps0 (nI p) (nI r) (nI (tRn A)) s2
      have f3 := FR_X9_shaken_l54 _ _ _ _ _ e3
      have mg3 : MG t tc V A s3 := MG_fr ⟨a1', a2', b2'⟩ f3 rfl (fun _ => rfl) (fun _ => rfl) (fun _ => rfl) (fun _ => rfl) (fun _ => rfl) (fun _ => rfl) (fun _ => rfl) (fun _ => rfl) (fun _ => rfl) (fun _ => rfl) (fun _ => rfl) rfl rfl rfl
      have mg4 : MG t tc V A (sI s3 73 (100 * A.st p + kW A p r 0) 0) := MG_sI mg3 (by omega) (by omega)
      have ek : kW A p r 0 = 10 * A.wt p + A.wt r := rfl
      have wk : WK (lv (kR V A p r) 0) (sI s3 73 (100 * A.st p + kW A p r 0) 0) := fun i hi => by
        show _ = oI (if kR V A p r 0 i = true then some 0 else none)
        by_cases qi : i = 100 * A.st p + kW A p r 0
        · have : kR V A p r 0 i = true := by
            unfold kR
            rw [qi, show (100 * A.st p + kW A p r 0) % 100 = kW A p r 0 by omega, show (100 * A.st p + kW A p r 0) / 100 = A.st p by omega]
            simp [shS]
          rw [if_pos this, qi, sI_same]
          rfl
        · have : ¬ kR V A p r 0 i = true := fun g => by
            unfold kR at g
            rw [Bool.and_eq_true] at g
            have g1 := of_decide_eq_true g.1
            have g2 : decide (i / 100 = A.st p) = true := g.2
            have g2 := of_decide_eq_true g2
            exact qi (by omega)
          rw [if_neg this, sI_oth qi, w3 i hi]
          rfl
      obtain ⟨e5, he5, s5, hs5⟩ := m_s111 (V := V) (t := t) (s := s3) b3 hp hr 8 0 mFU _ (by omega) (by unfold mFU; omega) (fun e he => absurd he (Nat.not_lt_zero e)) mg4 wk
      have ekey : 100 * nI (A.st p) + 10 * nI (A.wt p) + nI (A.wt r) = nI (100 * A.st p + kW A p r 0) := by
        rw [show (100 : Int32) * nI (A.st p) = nI (100 * A.st p) from pk_mul 100 _, show (10 : Int32) * nI (A.wt p) = nI (10 * A.wt p) from pk_mul 10 _, nI_add, nI_add, ek, Nat.add_assoc]
      have x2 : X9_shaken (nI p) (nI r) s2 = some (shR V A p r 8 0, s5) := by
        unfold X9_shaken
        rw [m_isOne b2' h5, m_isOne b2' h5, decide_eq_true q1, decide_eq_true q2, if_pos rfl, if_pos rfl, if_neg q3, if_pos (gl_inb (show p < 5 by omega) (by omega)), if_pos (gl_inb (show r < 5 by omega) (by omega)), nl_cl (show p < 2147483648 by omega), nl_cl (show r < 2147483648 by omega), b2'.st p hp, b2'.st r hr, if_pos (by rw [qs]), b2'.hr, ob (m_rainAt b2' (by omega)), ob (show X9_shaken_l54 (nI p) (nI r) (nI (A.rn (A.hr % 24))) (0, s2) = some s3 from e3), mg3.2.2.st p hp, mg3.2.2.wt p hp, mg3.2.2.wt r hr, ekey, if_pos (gl_inb (show 100 * A.st p + kW A p r 0 < 800 by omega) (by omega)), nl_cl (by omega), ob (show X9_shaken_l111 (nI p) (nI r) (nI (A.rn (A.hr % 24))) (0, sI s3 73 (100 * A.st p + kW A p r 0) 0) = some e5 from he5)]
        exact hs5
      exact ⟨_, s2, s5, x1, x2, tc, V, A, hk, K, ts, tp, sk, sn, si, IV_fr i1 (FR_X9_shaken _ _ _ _ x2) rfl⟩
    · refine ⟨-3, s, s, ?_, ?_, hI⟩
      · unfold X8_shaken
        rw [c_twoP b1 h5, decide_eq_true ⟨q1, q2, q3⟩, if_pos rfl, ob (c_oneSt b1 b3 hp hr), decide_eq_false qs]
        rfl
      · unfold X9_shaken
        rw [m_isOne b2 h5, m_isOne b2 h5, decide_eq_true q1, decide_eq_true q2, if_pos rfl, if_pos rfl, if_neg q3, if_pos (gl_inb (show p < 5 by omega) (by omega)), if_pos (gl_inb (show r < 5 by omega) (by omega)), nl_cl (show p < 2147483648 by omega), nl_cl (show r < 2147483648 by omega), b2.st p hp, b2.st r hr, if_neg (show ¬ nI (A.st p) = nI (A.st r) from by rw [nl_eq (by omega) (by omega)]; exact qs)]
  · refine ⟨-2, s, s, ?_, ?_, hI⟩
    · unfold X8_shaken
      rw [c_twoP b1 h5, decide_eq_false q]
      rfl
    · unfold X9_shaken
      rw [m_isOne b2 h5, m_isOne b2 h5]
      by_cases q1 : inP x A.pp
      · by_cases q2 : inP y A.pp
        · have q3 : x = y := Classical.byContradiction (fun q3 => q ⟨q1, q2, q3⟩)
          rw [decide_eq_true q1, decide_eq_true q2, if_pos rfl, if_pos rfl, if_pos q3]
        · rw [decide_eq_true q1, decide_eq_false q2]
          rfl
      · rw [decide_eq_false q1]
        rfl
