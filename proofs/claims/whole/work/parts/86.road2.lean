/-! road, the model -/
theorem aMud_back {A : Ab} {a b v : Nat} (hs : A.mud (a * 8 + b) = A.mud (b * 8 + a)) : aMud (aMud A a b v) a b (A.mud (a * 8 + b)) = A := by
  funext g j
  unfold aMud Ab.up
  by_cases h0 : g = 0
  · subst h0
    simp only [if_true]
    by_cases h1 : j = b * 8 + a
    · rw [if_pos h1, h1]
      exact hs
    · rw [if_neg h1]
      by_cases h2 : j = a * 8 + b
      · rw [if_pos h2, h2]
        rfl
      · rw [if_neg h2, if_neg h1, if_neg h2]
  · simp only [h0, if_false]
theorem hbB_mud {V : mVT} {A : Ab} {p rn a b : Nat} (ha : a < 8) (hb : b < 8) (hab : a ≠ b) : ∀ w x y, x < 8 → y < 8 → hbB V (aMud A a b 1) p rn w x y = hwC V A p rn (some (a, b)) w x y := by
  intro w x y hx hy
  have em : (aMud A a b 1).mud (x * 8 + y) = if x * 8 + y = b * 8 + a then 1 else if x * 8 + y = a * 8 + b then 1 else A.mud (x * 8 + y) := rfl
  show aHrs V A.ru (A.kd p) (A.nu p) (A.yd p) (A.ld p) w rn x y ((aMud A a b 1).mud (x * 8 + y)) = (if (x = a ∧ y = b) ∨ (x = b ∧ y = a) then hbP V A p rn w x y else hbB V A p rn w x y)
  rw [em]
  by_cases q : (x = a ∧ y = b) ∨ (x = b ∧ y = a)
  · rw [if_pos q]
    unfold hbP
    rw [if_neg (show ¬ x = y by omega)]
    by_cases q1 : x * 8 + y = b * 8 + a
    · rw [if_pos q1]
    · rw [if_neg q1, if_pos (by omega)]
  · rw [if_neg q, if_neg (by omega), if_neg (by omega)]
    rfl
section
variable {t : mTX} {tc : Nat} {V : mVT} {A : Ab} {to : Nat}
theorem m_r86 {s : mSG} {a b : Nat} (x2 x3 x4 x5 x8 : Int32) (ok : AbOK A tc) (ht : to < 8) (hab : a < b) (hb : b < 8) (h : MG t tc V (aMud A a b 1) s) : ∃ e, X9_road_l86 (nI to) x2 x3 x4 x5 (nI a) (nI b) x8 (0, 0, 0, s) = some e ∧ (e.1 = nI (cF V A to A.pp (a * 8 + b)) ∧ e.2.1 = nI (hF V A to A.pp (a * 8 + b)) ∧ MG t tc V (aMud A a b 1) e.2.2) := by
  have ok' : AbOK (aMud A a b 1) tc := aMud_ok ok (by omega) (by omega) (by omega) (by omega)
  have h5 := ok.pp
  have hh := ok.hr
  unfold X9_road_l86
  refine lpN (fun p (v : Int32 × Int32 × Int32 × mSG) => v.1 = nI (cF V A to p (a * 8 + b)) ∧ v.2.1 = nI (hF V A to p (a * 8 + b)) ∧ v.2.2.1 = nI p ∧ MG t tc V (aMud A a b 1) v.2.2.2) (fun e : Int32 × Int32 × mSG => e.1 = nI (cF V A to A.pp (a * 8 + b)) ∧ e.2.1 = nI (hF V A to A.pp (a * 8 + b)) ∧ MG t tc V (aMud A a b 1) e.2.2) A.pp (by unfold mFU; omega) ?_ ?_ (k := 0) (by omega) (x := (0, 0, 0, s)) ⟨rfl, rfl, rfl, h⟩
  · intro p v hp hv
    obtain ⟨y1, y2, y3, s1⟩ := v
    obtain ⟨g1, g2, g3, g4⟩ := hv
    have g1 : y1 = nI (cF V A to p (a * 8 + b)) := g1
    have g2 : y2 = nI (hF V A to p (a * 8 + b)) := g2
    have g3 : y3 = nI p := g3
    subst g1 g2 g3
    have g4 : MG t tc V (aMud A a b 1) s1 := g4
    obtain ⟨s2, e2, v1, v2⟩ := m_seeks (V := V) (A := aMud A a b 1) (p := p) (to := to) (rn := tRn A) ok' hp (ok.rn _) ht g4
    have f2 := FR_X9_seeks _ _ _ _ _ e2
    have m2 := MG_fr g4 f2 rfl (fun _ => rfl) (fun _ => rfl) (fun _ => rfl) (fun _ => rfl) (fun _ => rfl) (fun _ => rfl) (fun _ => rfl) (fun _ => rfl) (fun _ => rfl) (fun _ => rfl) (fun _ => rfl) rfl rfl rfl
    have er : skB (hbB V (aMud A a b 1) p (tRn A)) (aWet (A.kd p) (tRn A) (A.wt p)) (A.st p) to = rdB V A to (a * 8 + b) p := by
      unfold rdB
      rw [show (a * 8 + b) / 8 = a by omega, show (a * 8 + b) % 8 = b by omega]
      exact skB_cg ht (hbB_mud (by omega) hb (by omega))
    have v1 : s2.1 56 36 = (if (skB (hbB V (aMud A a b 1) p (tRn A)) (aWet (A.kd p) (tRn A) (A.wt p)) (A.st p) to).1 < 1000000 then nI (skB (hbB V (aMud A a b 1) p (tRn A)) (aWet (A.kd p) (tRn A) (A.wt p)) (A.st p) to).1 else -1) := v1
    rw [er] at v1
    refine ⟨(nI (cF V A to (p + 1) (a * 8 + b)), nI (hF V A to (p + 1) (a * 8 + b)), nI (p + 1), s2), ?_, rfl, rfl, rfl, m2⟩
    show X9_road_b86 (nI to) x2 x3 x4 x5 (nI a) (nI b) x8 (nI (cF V A to p (a * 8 + b))) (nI (hF V A to p (a * 8 + b))) (nI p) s1 = _
    have ppe : s1.1 56 15 = nI A.pp := g4.2.2.pp
    have hre : s1.1 56 16 = nI A.hr := g4.2.2.hr
    have cs : cF V A to (p + 1) (a * 8 + b) = cF V A to p (a * 8 + b) + rdC V A to (a * 8 + b) p := rfl
    have hs : hF V A to (p + 1) (a * 8 + b) = hF V A to p (a * 8 + b) + rdH V A to (a * 8 + b) p := rfl
    unfold X9_road_b86 X9_road_j125_86 X9_road_j146_86
    rw [ppe, if_neg (nI_ge hp (by omega)), hre, ob (show X9_rainAt (nI A.hr) s1 = some (nI (tRn A)) from m_rainAt g4.2.2 (by omega)), ob e2, v1, nI_1, cs, hs]
    unfold rdC rdH
    by_cases q : (rdB V A to (a * 8 + b) p).1 < 1000000
    · rw [if_pos q, if_pos q, if_pos q, if_neg (show ¬ nI (rdB V A to (a * 8 + b) p).1 = -1 from gl_neN (b := 1) rfl (by omega) (by omega) (by omega)), if_neg (show ¬ nI (rdB V A to (a * 8 + b) p).1 = -1 from gl_neN (b := 1) rfl (by omega) (by omega) (by omega)), nI_1, nI_add]
    · rw [if_neg q, if_neg q, if_neg q, if_pos rfl, if_pos rfl]
      have z : ∀ k : Nat, nI k + 0 = nI (k + 0) := fun k => nI_add k 0
      rw [z, z]
  · intro v hv
    obtain ⟨y1, y2, y3, s1⟩ := v
    obtain ⟨g1, g2, g3, g4⟩ := hv
    have g3 : y3 = nI A.pp := g3
    subst g3
    have g4 : MG t tc V (aMud A a b 1) s1 := g4
    have ppe : s1.1 56 15 = nI A.pp := g4.2.2.pp
    refine ⟨(y1, y2, s1), ?_, g1, g2, g4⟩
    show X9_road_b86 (nI to) x2 x3 x4 x5 (nI a) (nI b) x8 y1 y2 (nI A.pp) s1 = _
    unfold X9_road_b86
    rw [ppe, if_pos (nI_le (Nat.le_refl _) (by omega))]
/-- the best so far -/
def rQ (V : mVT) (A : Ab) (to m : Nat) : Int32 × Int32 × Int32 := if m ≤ 1 then (1, -1, 0) else (nI (10 * (rR V A to m / 8) + rR V A to m % 8), nI (cF V A to A.pp (rR V A to m)), nI (hF V A to A.pp (rR V A to m)))
theorem m_r46s {s : mSG} {a b : Nat} (x2 : Int32) (ok : AbOK A tc) (ht : to < 8) (hab : a < b) (hb : b < 8) (h : MG t tc V A s) : ∃ s', X9_road_b46 (nI to) x2 (nI a) (rQ V A to (a * 8 + b)).1 (rQ V A to (a * 8 + b)).2.1 (rQ V A to (a * 8 + b)).2.2 (nI b) s = some (.inl ((rQ V A to (a * 8 + (b + 1))).1, (rQ V A to (a * 8 + (b + 1))).2.1, (rQ V A to (a * 8 + (b + 1))).2.2, nI (b + 1), s')) ∧ MG t tc V A s' := by
  have h5 := ok.pp
  have hm := ok.mud (a * 8 + b)
  obtain ⟨s1, e1, r1⟩ := m_muddy (v := 1) h.2.2 (show a ≤ 7 by omega) (show b ≤ 7 by omega)
  have f1 := FR_X9_muddy _ _ _ _ _ e1
  have mg1 : MG t tc V (aMud A a b 1) s1 := ⟨CT_fr h.1 f1 rfl, MT_fr h.2.1 f1 (fun _ => rfl) (fun _ => rfl), r1⟩
  obtain ⟨⟨y1, y2, s2⟩, e2, w1, w2, mg2⟩ := m_r86 x2 (rQ V A to (a * 8 + b)).1 (rQ V A to (a * 8 + b)).2.1 (rQ V A to (a * 8 + b)).2.2 (nI (A.mud (a * 8 + b))) ok ht hab hb mg1
  have w1 : y1 = _ := w1
  have w2 : y2 = _ := w2
  subst w1 w2
  have mg2 : MG t tc V (aMud A a b 1) s2 := mg2
  obtain ⟨s3, e3, r3⟩ := m_muddy (v := A.mud (a * 8 + b)) mg2.2.2 (show a ≤ 7 by omega) (show b ≤ 7 by omega)
  rw [aMud_back (ok.sym a b (by omega) hb)] at r3
  have f3 := FR_X9_muddy _ _ _ _ _ e3
  have mg3 : MG t tc V A s3 := ⟨CT_fr mg2.1 f3 rfl, MT_fr mg2.2.1 f3 (fun _ => rfl) (fun _ => rfl), r3⟩
  have c2 := cF_le V A to A.pp (a * 8 + b)
  have h2 := hF_le V A to A.pp (a * 8 + b)
  refine ⟨s3, ?_, mg3⟩
  unfold X9_road_b46 X9_road_j186_46 X9_road_j203_46
  rw [if_neg (gl_le (x := 8) (m := 8) rfl hb (by omega)), e8m, if_pos (gl_inb (show a * 8 + b < 64 by omega) (by omega)), nl_cl (show a * 8 + b < 2147483648 by omega), h.2.2.mud _ (by omega), ob (show X9_muddy (nI a) (nI b) 1 s = some s1 from e1), ob e2]
  dsimp only
  rw [ob e3, nI_1, show (10 : Int32) * nI a + nI b = nI (10 * a + b) from by rw [show (10 : Int32) * nI a = nI (10 * a) from pk_mul 10 a, nI_add]]
  have e10 : 10 * ((a * 8 + b) / 8) + (a * 8 + b) % 8 = 10 * a + b := by omega
  by_cases q1 : a * 8 + b ≤ 1
  · have ea : a = 0 := by omega
    have eb : b = 1 := by omega
    subst ea eb
    have er : rR V A to (0 * 8 + (1 + 1)) = 1 := by
      show fo (rF V A to) 0 2 1 = 1
      show (if 1 < 0 then _ else rF V A to 1 (if 0 < 0 then _ else rF V A to 0 1)) = 1
      rw [if_neg (by omega), if_neg (by omega)]
      have z0 : rF V A to 0 1 = 1 := by
        unfold rF
        rw [if_neg (fun g => absurd g.1 (by decide))]
      rw [z0]
      unfold rF
      split <;> rfl
    have y1 : rQ V A to (0 * 8 + 1) = (1, -1, 0) := rfl
    have y2 : rQ V A to (0 * 8 + (1 + 1)) = (nI (10 * (rR V A to (0 * 8 + (1 + 1)) / 8) + rR V A to (0 * 8 + (1 + 1)) % 8), nI (cF V A to A.pp (rR V A to (0 * 8 + (1 + 1)))), nI (hF V A to A.pp (rR V A to (0 * 8 + (1 + 1))))) := rfl
    rw [y1, y2, er]
    dsimp only
    rw [if_pos (show (-1 : Int32) < nI (cF V A to A.pp (0 * 8 + 1)) from by show -nI 1 < nI _; rw [nl_Nlt (by omega) (by omega) (by omega)]; trivial)]
  · have y1 : rQ V A to (a * 8 + b) = (nI (10 * (rR V A to (a * 8 + b) / 8) + rR V A to (a * 8 + b) % 8), nI (cF V A to A.pp (rR V A to (a * 8 + b))), nI (hF V A to A.pp (rR V A to (a * 8 + b)))) := if_neg q1
    have y2 : rQ V A to (a * 8 + (b + 1)) = (nI (10 * (rR V A to (a * 8 + (b + 1)) / 8) + rR V A to (a * 8 + (b + 1)) % 8), nI (cF V A to A.pp (rR V A to (a * 8 + (b + 1)))), nI (hF V A to A.pp (rR V A to (a * 8 + (b + 1))))) := if_neg (by omega)
    rw [y1, y2, show a * 8 + (b + 1) = a * 8 + b + 1 by omega, rR_s]
    dsimp only
    have okr := rR_ok V A to (a * 8 + b) (by omega)
    generalize rR V A to (a * 8 + b) = r at okr
    have c1 := cF_le V A to A.pp r
    have h1 := hF_le V A to A.pp r
    have pr : (a * 8 + b) / 8 < (a * 8 + b) % 8 := by omega
    unfold rF
    by_cases g1 : cF V A to A.pp r < cF V A to A.pp (a * 8 + b)
    · rw [if_pos (nI_lt g1 (by omega)), if_pos ⟨pr, Or.inl g1⟩, e10]
    · rw [if_neg (nI_nlt (by omega) (by omega))]
      by_cases g2 : cF V A to A.pp (a * 8 + b) = cF V A to A.pp r
      · rw [if_pos (by rw [g2])]
        by_cases g3 : hF V A to A.pp r ≤ hF V A to A.pp (a * 8 + b)
        · rw [if_pos (nI_le g3 (by omega)), if_neg (fun g => by rcases g.2 with g | g <;> omega)]
        · rw [if_neg (nI_ge (by omega) (by omega)), if_pos ⟨pr, Or.inr ⟨g2, by omega⟩⟩, e10]
      · rw [if_neg (show ¬ nI (cF V A to A.pp (a * 8 + b)) = nI (cF V A to A.pp r) from by rw [nl_eq (by omega) (by omega)]; exact g2), if_neg (fun g => by rcases g.2 with g | g <;> omega)]
theorem rQ_skip {m k : Nat} (h : ∀ i, m ≤ i → i < m + k → ¬ i / 8 < i % 8) (h1 : ¬ (m ≤ 1 ∧ 1 < m + k)) : rQ V A to (m + k) = rQ V A to m := by
  unfold rQ
  rw [rR_skip V A to k h]
  by_cases q : m ≤ 1
  · rw [if_pos q, if_pos (by omega)]
  · rw [if_neg q, if_neg (by omega)]
theorem m_r46 {s : mSG} {a : Nat} (x2 : Int32) (ok : AbOK A tc) (ht : to < 8) (ha : a < 8) (h : MG t tc V A s) : ∃ e, X9_road_l46 (nI to) x2 (nI a) ((rQ V A to (a * 8)).1, (rQ V A to (a * 8)).2.1, (rQ V A to (a * 8)).2.2, nI (a + 1), s) = some e ∧ (e.1 = (rQ V A to ((a + 1) * 8)).1 ∧ e.2.1 = (rQ V A to ((a + 1) * 8)).2.1 ∧ e.2.2.1 = (rQ V A to ((a + 1) * 8)).2.2 ∧ MG t tc V A e.2.2.2) := by
  unfold X9_road_l46
  have e0 : rQ V A to (a * 8 + (a + 1)) = rQ V A to (a * 8) := rQ_skip (fun i h1 h2 => by omega) (by omega)
  refine lpN (fun b (v : Int32 × Int32 × Int32 × Int32 × mSG) => v.1 = (rQ V A to (a * 8 + b)).1 ∧ v.2.1 = (rQ V A to (a * 8 + b)).2.1 ∧ v.2.2.1 = (rQ V A to (a * 8 + b)).2.2 ∧ v.2.2.2.1 = nI b ∧ a + 1 ≤ b ∧ MG t tc V A v.2.2.2.2) (fun e : Int32 × Int32 × Int32 × mSG => e.1 = (rQ V A to ((a + 1) * 8)).1 ∧ e.2.1 = (rQ V A to ((a + 1) * 8)).2.1 ∧ e.2.2.1 = (rQ V A to ((a + 1) * 8)).2.2 ∧ MG t tc V A e.2.2.2) 8 (by unfold mFU; omega) ?_ ?_ (k := a + 1) (by omega) (x := ((rQ V A to (a * 8)).1, (rQ V A to (a * 8)).2.1, (rQ V A to (a * 8)).2.2, nI (a + 1), s)) ⟨by rw [e0], by rw [e0], by rw [e0], rfl, Nat.le_refl _, h⟩
  · intro b v hb hv
    obtain ⟨y1, y2, y3, y4, s1⟩ := v
    obtain ⟨g1, g2, g3, g4, g5, g6⟩ := hv
    have g1 : y1 = (rQ V A to (a * 8 + b)).1 := g1
    have g2 : y2 = (rQ V A to (a * 8 + b)).2.1 := g2
    have g3 : y3 = (rQ V A to (a * 8 + b)).2.2 := g3
    have g4 : y4 = nI b := g4
    subst g1 g2 g3 g4
    obtain ⟨s2, e2, m2⟩ := m_r46s x2 ok ht (show a < b by omega) hb g6
    exact ⟨_, e2, rfl, rfl, rfl, rfl, by omega, m2⟩
  · intro v hv
    obtain ⟨y1, y2, y3, y4, s1⟩ := v
    obtain ⟨g1, g2, g3, g4, g5, g6⟩ := hv
    have g4 : y4 = nI 8 := g4
    subst g4
    rw [show a * 8 + 8 = (a + 1) * 8 by omega] at g1 g2 g3
    refine ⟨(y1, y2, y3, s1), ?_, g1, g2, g3, g6⟩
    show X9_road_b46 (nI to) x2 (nI a) y1 y2 y3 (nI 8) s1 = _
    unfold X9_road_b46
    rw [if_pos (show (8 : Int32) ≤ nI 8 from by decide)]
theorem m_road {s : mSG} (b3 : AbOK A tc) (h : MG t tc V A s) (x y : Int32) : ∃ s', X9_road x y s = some (vRoad V A x y, s') ∧ RM A s' := by
  unfold X9_road vRoad
  rw [m_isStone, show X9_in y.toInt64 0 2 = decide (inR y 2) from b_dec (m_inR y 2 2 rfl)]
  by_cases q : inR x 7 ∧ inR y 2
  · rw [decide_eq_true q.1, decide_eq_true q.2, if_pos rfl, if_pos rfl, if_pos q]
    obtain ⟨to, ht, rfl⟩ := inR_of q.1 (by omega)
    rw [nl_cl (by omega)]
    have key : ∃ e, X9_road_l33 (nI to) y (1, -1, 0, 0, s) = some e ∧ (e.1 = (rQ V A to (8 * 8)).1 ∧ e.2.1 = (rQ V A to (8 * 8)).2.1 ∧ e.2.2.1 = (rQ V A to (8 * 8)).2.2 ∧ MG t tc V A e.2.2.2) := by
      unfold X9_road_l33
      refine lpN (fun a (v : Int32 × Int32 × Int32 × Int32 × mSG) => v.1 = (rQ V A to (a * 8)).1 ∧ v.2.1 = (rQ V A to (a * 8)).2.1 ∧ v.2.2.1 = (rQ V A to (a * 8)).2.2 ∧ v.2.2.2.1 = nI a ∧ MG t tc V A v.2.2.2.2) (fun e : Int32 × Int32 × Int32 × mSG => e.1 = (rQ V A to (8 * 8)).1 ∧ e.2.1 = (rQ V A to (8 * 8)).2.1 ∧ e.2.2.1 = (rQ V A to (8 * 8)).2.2 ∧ MG t tc V A e.2.2.2) 8 (by unfold mFU; omega) ?_ ?_ (k := 0) (by omega) (x := (1, -1, 0, 0, s)) ⟨rfl, rfl, rfl, rfl, h⟩
      · intro a v ha hv
        obtain ⟨y1, y2, y3, y4, s1⟩ := v
        obtain ⟨g1, g2, g3, g4, g6⟩ := hv
        have g1 : y1 = (rQ V A to (a * 8)).1 := g1
        have g2 : y2 = (rQ V A to (a * 8)).2.1 := g2
        have g3 : y3 = (rQ V A to (a * 8)).2.2 := g3
        have g4 : y4 = nI a := g4
        subst g1 g2 g3 g4
        obtain ⟨⟨z1, z2, z3, s2⟩, e2, w1, w2, w3, m2⟩ := m_r46 y b3 (show to < 8 by omega) ha g6
        have w1 : z1 = _ := w1
        have w2 : z2 = _ := w2
        have w3 : z3 = _ := w3
        subst w1 w2 w3
        refine ⟨_, (?_ : X9_road_b33 (nI to) y (rQ V A to (a * 8)).1 (rQ V A to (a * 8)).2.1 (rQ V A to (a * 8)).2.2 (nI a) s1 = some (.inl ((rQ V A to ((a + 1) * 8)).1, (rQ V A to ((a + 1) * 8)).2.1, (rQ V A to ((a + 1) * 8)).2.2, nI (a + 1), s2))), rfl, rfl, rfl, rfl, m2⟩
        unfold X9_road_b33
        rw [if_neg (gl_le (x := 8) (m := 8) rfl ha (by omega)), nI_1, ob e2]
      · intro v hv
        obtain ⟨y1, y2, y3, y4, s1⟩ := v
        obtain ⟨g1, g2, g3, g4, g6⟩ := hv
        have g4 : y4 = nI 8 := g4
        subst g4
        refine ⟨(y1, y2, y3, s1), ?_, g1, g2, g3, g6⟩
        show X9_road_b33 (nI to) y y1 y2 y3 (nI 8) s1 = _
        unfold X9_road_b33
        rw [if_pos (show (8 : Int32) ≤ nI 8 from by decide)]
    obtain ⟨e, he, w1, w2, w3, m2⟩ := key
    rw [ob he, w1, w2, w3]
    refine ⟨e.2.2.2, ?_, m2.2.2⟩
    have y2 : rQ V A to (8 * 8) = (nI (10 * (rR V A to 64 / 8) + rR V A to 64 % 8), nI (cF V A to A.pp (rR V A to 64)), nI (hF V A to A.pp (rR V A to 64))) := rfl
    rw [y2]
    by_cases y0 : y = 0
    · rw [if_pos y0, if_pos y0]
    · rw [if_neg y0, if_neg y0]
      by_cases y1 : y = 1
      · rw [if_pos y1, if_pos y1]
      · rw [if_neg y1, if_neg y1]
  · rw [if_neg q]
    by_cases q1 : inR x 7
    · rw [decide_eq_true q1, decide_eq_false (fun q2 => q ⟨q1, q2⟩)]
      exact ⟨_, rfl, h.2.2⟩
    · rw [decide_eq_false q1]
      exact ⟨_, rfl, h.2.2⟩
end
theorem L_road {t : mTX} {s : mSG} (h : INV t s) (x y : Int32) : ∃ v s1 s2, X8_road t x y s = some (v, s1) ∧ X9_road x y s1 = some (v, s2) ∧ INV t s2 := by
  obtain ⟨tc, V, A, hk, K, ts, tp, sk, sn, si, hv⟩ := h
  obtain ⟨⟨a1, a2, a3, a4, a5, a6⟩, b, c, d, e, ⟨k8, k9⟩, z⟩ := hv
  obtain ⟨s1, e1, n8, n9⟩ := c_road (V := V) a1 a3 a6 b.1 b.2.2 k8 k9 x y
  have f1 := FR_X8_road _ _ _ _ _ e1
  have b1 := NW_k b f1 rfl
  have ct1 := CT_fr a1 f1 rfl
  have mt1 := MT_fr a2 f1 (fun _ => rfl) (fun _ => rfl)
  obtain ⟨s2, e2, r2⟩ := m_road (V := V) b.2.2 ⟨ct1, mt1, b1.2.1⟩ x y
  have f2 := FR_X9_road _ _ _ _ e2
  refine ⟨_, s1, s2, e1, e2, tc, V, A, hk, K, ts, tp, sk, sn, si, ⟨CT_fr ct1 f2 rfl, MT_fr mt1 f2 (fun _ => rfl) (fun _ => rfl), ((f2 6 11 rfl).1.trans (f1 6 11 rfl).1).trans a3, ((f2 56 3 rfl).1.trans (f1 56 3 rfl).1).trans a4, a5, a6⟩, ⟨RS_fr b1.1 f2 (fun _ => rfl) (fun _ => rfl) (fun _ => rfl) (fun _ => rfl) (fun _ => rfl), r2, b.2.2⟩, KP_k (KP_k c f1 rfl) f2 rfl, TP_k (TP_k d f1 rfl) f2 rfl, SH_k (SH_k e f1 rfl) f2 rfl, ⟨(f2 34 8 rfl).1.trans n8, (f2 34 9 rfl).1.trans n9⟩, SS_fr (SS_fr z f1 (fun _ => rfl) (fun _ => rfl)) f2 (fun _ => rfl) (fun _ => rfl)⟩
