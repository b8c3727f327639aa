/-! COMPARING, AND THE SMALLEST PIECES -/
theorem i32_nle {x y : Int32} : ¬ y ≤ x ↔ x < y := by
  rw [Int32.le_iff_toInt_le, Int32.lt_iff_toInt_lt]
  omega
def gNotK (F : mSG → Option (Int32 × mSG)) (x1 : Int32) (p0 : Int32) (s : mSG) : Option (Int32 × mSG) :=
  (X9_next s).bind (fun r5 => (F r5).bind (fun r6 =>
  if p0 = 0 then
    if x1 = r6.1 then some (1, r6.2) else some (0, r6.2)
  else
    if r6.1 ≤ x1 then some (0, r6.2) else some (1, r6.2)))
def gNotJ (F : mSG → Option (Int32 × mSG)) (x1 : Int32) (s : mSG) : Option (Int32 × mSG) :=
  if (lg_cmp (s.2.2 56 29) 60) = 0 then gNotK F x1 1 s else gNotK F x1 0 s
def gNotT (F : mSG → Option (Int32 × mSG)) (x1 : Int32) (s : mSG) : Option (Int32 × mSG) :=
  if X9_isSign 60 s = true then gNotJ F x1 s
  else if X9_isSign 61 s = true then gNotJ F x1 s
  else some (x1, s)
def cNotT (t : mTX) (rc : Nat → Int32 → mSG → Option (Bool × mSG)) (q : Int32) (s : mSG) : Option (Bool × mSG) :=
  if (s.1 25 5) = 60 then X1_readsNot_j67 t rc q (s.1 25 5) s
  else if (s.1 25 5) = 61 then X1_readsNot_j67 t rc q (s.1 25 5) s
  else some (true, s)
def cNotB (t : mTX) (rc : Nat → Int32 → mSG → Option (Bool × mSG)) (q : Int32) (s : mSG) : Option (Bool × mSG) :=
  (X1_opens t q s).bind (fun r2 =>
    if r2.1 = true then
      (rc 2 (q + 1) r2.2).bind (fun r3 =>
      if r3.1 = true then
        (X1_emit (-13) r3.2).bind (fun r4 =>
        some (true, r4))
      else
        some (false, r3.2))
    else
      some (false, r2.2))
def spN (c : Nat) : Option Nat := if c = 60 then some 2 else if c = 61 then some 3 else none
theorem spN_n {c : Nat} (h : spN c = none) : ¬ c = 60 ∧ ¬ c = 61 := by
  unfold spN at h
  by_cases g : c = 60
  · rw [if_pos g] at h
    cases h
  · rw [if_neg g] at h
    exact ⟨g, sp1_n h⟩
theorem spN_y {c o : Nat} (h : spN c = some o) : (c = 60 ∧ o = 2) ∨ (c = 61 ∧ o = 3) := by
  unfold spN at h
  by_cases g : c = 60
  · rw [if_pos g] at h
    exact Or.inl ⟨g, (Option.some.inj h).symm⟩
  · rw [if_neg g] at h
    exact Or.inr (sp1_y h)
theorem spN_ok : sepOK spN := fun c o h => by
  have := spN_y h
  omega
section
variable {t : mTX} {k n : Nat} {b : Nat → Nat} {rc : Nat → Int32 → mSG → Option (Bool × mSG)} {q : Int32} {F : mSG → Option (Int32 × mSG)}
theorem cN_0 {i : Nat} {s : mSG} (ha : AT n b i s) (hs : spN (tC b n i) = none) : cNotT t rc q s = some (true, s) := by
  obtain ⟨h3, h5⟩ := spN_n hs
  unfold cNotT
  rw [if_neg (fun g => h3 ((tk_eq ha (X := 60) (w := 60) rfl (by omega)).mp g)), if_neg (fun g => h5 ((tk_eq ha (X := 61) (w := 61) rfl (by omega)).mp g))]
theorem cN_1 {i o : Nat} {s : mSG} (ha : AT n b i s) (hs : spN (tC b n i) = some o) : cNotT t rc q s = (X1_advance t s).bind (fun r8 => (rc 3 q r8).bind (fun r9 => if r9.1 = true then (X1_emit (xOc o) r9.2).bind (fun r11 => some (true, r11)) else some (false, r9.2))) := by
  unfold cNotT X1_readsNot_j67 X1_readsNot_j95
  rcases spN_y hs with ⟨hc, rfl⟩ | ⟨hc, rfl⟩
  · have e := (tk_eq ha (X := 60) (w := 60) rfl (by omega)).mpr hc
    rw [if_pos e, e]
    simp only [if_true]
    rfl
  · have e := (tk_eq ha (X := 61) (w := 61) rfl (by omega)).mpr hc
    have ne : ¬ (61 : Int32) = 60 := by decide
    rw [e, if_neg ne, if_pos rfl]
    simp only [ne, if_false]
    rfl
theorem mN_0 {i : Nat} {x : Int32} {s : mSG} (ha : AM n b i s) (hb : s.1 56 31 = 0) (hs : spN (tC b n i) = none) : gNotT F x s = some (x, s) := by
  obtain ⟨h3, h5⟩ := spN_n hs
  unfold gNotT
  rw [m_sign (x := 60) (c := 60) rfl ha hb (by decide), if_neg (by rw [decide_eq_false h3]; decide), m_sign (x := 61) (c := 61) rfl ha hb (by decide), if_neg (by rw [decide_eq_false h5]; decide)]
theorem mN_B {x : Int32} {s : mSG} (hb : s.1 56 31 = 1) : gNotT F x s = some (x, s) := by
  unfold gNotT
  rw [m_signB hb, if_neg (by decide), m_signB hb, if_neg (by decide)]
theorem mN_1 {i o : Nat} {x : Int32} {s : mSG} (ha : AM n b i s) (hb : s.1 56 31 = 0) (hs : spN (tC b n i) = some o) : gNotT F x s = (X9_next s).bind (fun r5 => (F r5).bind (fun r6 => some (xOp o x r6.1, r6.2))) := by
  unfold gNotT gNotJ
  rcases spN_y hs with ⟨hc, rfl⟩ | ⟨hc, rfl⟩
  · have e := ha.2.2.2.2 (kd_S (by rw [hc]; decide))
    rw [m_sign (x := 60) (c := 60) rfl ha hb (by decide), if_pos (decide_eq_true hc), if_pos ((lgc_eq _ _).mpr (by rw [e, hc]; rfl))]
    unfold gNotK
    cases X9_next s with
    | none => rfl
    | some r3 =>
      show (F r3).bind _ = (F r3).bind _
      cases F r3 with
      | none => rfl
      | some r4 =>
        show (if (1 : Int32) = 0 then (if x = r4.1 then some (1, r4.2) else some (0, r4.2)) else (if r4.1 ≤ x then some (0, r4.2) else some (1, r4.2))) = (some (xOp 2 x r4.1, r4.2) : Option (Int32 × mSG))
        rw [if_neg (show ¬ (1 : Int32) = 0 by decide)]
        by_cases q1 : r4.1 ≤ x
        · rw [if_pos q1, show xOp 2 x r4.1 = 0 from if_neg (fun g => (i32_nle.mpr g) q1)]
        · rw [if_neg q1, show xOp 2 x r4.1 = 1 from if_pos (i32_nle.mp q1)]
  · have e := ha.2.2.2.2 (kd_S (by rw [hc]; decide))
    rw [m_sign (x := 60) (c := 60) rfl ha hb (by decide), if_neg (by rw [decide_eq_false (by omega)]; decide), m_sign (x := 61) (c := 61) rfl ha hb (by decide), if_pos (decide_eq_true hc), if_neg (fun g => by have g := (lgc_eq _ _).mp g; rw [e, hc] at g; exact absurd g (by decide))]
    unfold gNotK
    cases X9_next s with
    | none => rfl
    | some r3 =>
      show (F r3).bind _ = (F r3).bind _
      cases F r3 with
      | none => rfl
      | some r4 =>
        show (if (0 : Int32) = 0 then (if x = r4.1 then some (1, r4.2) else some (0, r4.2)) else (if r4.1 ≤ x then some (0, r4.2) else some (1, r4.2))) = (some (xOp 3 x r4.1, r4.2) : Option (Int32 × mSG))
        rw [if_pos rfl]
        by_cases q1 : x = r4.1
        · rw [if_pos q1, show xOp 3 x r4.1 = 1 from if_pos q1]
        · rw [if_neg q1, show xOp 3 x r4.1 = 0 from if_neg q1]
theorem bp_not {F' G : mSG → Option (Int32 × mSG)} {dd d i : Nat} (hi : i ≤ n) (hn : n ≤ 160) (eF : ∀ s, F' s = (X9_isWord 110 111 116 0 0 0 0 0 s).bind (fun r1 => if r1 = true then G s else (F s).bind (fun r2 => gNotT F r2.1 r2.2))) (hG : tC b n i = 267 → BP k n b (cNotB t rc q) G (dd + 1) d i) (h : ∀ i, i ≤ n → BP k n b (rc 3 q) F dd d i) : BP k n b (X1_readsNot_B t rc q) F' (dd + 1) d i := by
  have eC : ∀ s, X1_readsNot_B t rc q s = if s.1 25 5 = 267 then cNotB t rc q s else (rc 3 q s).bind (fun r5 => if r5.1 = true then cNotT t rc q r5.2 else some (false, r5.2)) := fun s => rfl
  by_cases q0 : tC b n i = 267
  · obtain ⟨ok, i', L, P, cH, mH⟩ := hG q0
    refine ⟨ok, i', L, P, fun c s ht ha hc hci => ?_, fun s ht ha hb ho => ?_⟩
    · obtain ⟨s1, e1, r⟩ := cH c s ht ha hc hci
      exact ⟨s1, by rw [eC, if_pos ((tk_eq ha (X := 267) (w := 267) rfl (by omega)).mpr q0), e1], r⟩
    · have W : X9_isWord 110 111 116 0 0 0 0 0 s = some (decide (tC b n i = 256 + 11)) := m_word ht ha hb hi (by omega) rfl rfl rfl rfl rfl rfl rfl rfl
      obtain ⟨v, s1, e1, r⟩ := mH s ht ha hb ho
      exact ⟨v, s1, by rw [eF, ob (w_y W q0), if_pos rfl, e1], r⟩
  · have cE : ∀ s, AT n b i s → X1_readsNot_B t rc q s = (rc 3 q s).bind (fun r5 => if r5.1 = true then cNotT t rc q r5.2 else some (false, r5.2)) := fun s ha => by rw [eC, if_neg (fun g => q0 ((tk_eq ha (X := 267) (w := 267) rfl (by omega)).mp g))]
    have mE : ∀ s, TM k n b s → AM n b i s → s.1 56 31 = 0 → F' s = (F s).bind (fun r2 => gNotT F r2.1 r2.2) := fun s ht ha hb => by
      have W : X9_isWord 110 111 116 0 0 0 0 0 s = some (decide (tC b n i = 256 + 11)) := m_word ht ha hb hi (by omega) rfl rfl rfl rfl rfl rfl rfl rfl
      rw [eF, ob (w_n W q0), if_neg (by decide)]
    obtain ⟨ok, i2, L, ⟨p1, p2, p3⟩, cH, mH⟩ := h i hi
    cases ok with
    | false =>
      refine ⟨false, i2, [], ⟨p1, p2, fun g => Bool.noConfusion g⟩, fun c s ht ha hc hci => ?_, fun s ht ha hb ho => ?_⟩
      · obtain ⟨s1, e1, a1, b1, _⟩ := cH c s ht ha hc hci
        exact ⟨s1, by rw [cE s ha, ob e1]; rfl, a1, b1, fun g => Bool.noConfusion g⟩
      · obtain ⟨v, s1, e1, b1, _, f1⟩ := mH s ht ha hb ho
        obtain ⟨g1, g2⟩ := f1 rfl
        exact ⟨v, s1, by rw [mE s ht ha hb, ob e1, mN_B g1], b1, fun g => Bool.noConfusion g, fun _ => ⟨g1, g2⟩⟩
    | true =>
      obtain ⟨p4, p5, p6⟩ := p3 rfl
      cases hq : spN (tC b n i2) with
      | none =>
        refine ⟨true, i2, L, ⟨p1, p2, fun _ => ⟨p4, p5, p6⟩⟩, fun c s ht ha hc hci => ?_, fun s ht ha hb ho => ?_⟩
        · obtain ⟨s1, e1, a1, b1, d1⟩ := cH c s ht ha hc hci
          exact ⟨s1, by rw [cE s ha, ob e1, if_pos rfl, cN_0 a1 hq], a1, b1, d1⟩
        · obtain ⟨v, s1, e1, b1, f1, z1⟩ := mH s ht ha hb ho
          obtain ⟨g1, g2, g3, g4⟩ := f1 rfl
          exact ⟨v, s1, by rw [mE s ht ha hb, ob e1, mN_0 g1 g2 hq], b1, fun _ => ⟨g1, g2, g3, isV_mono g4 (by omega)⟩, z1⟩
      | some o =>
        obtain ⟨o7, oc0, oc1⟩ := spN_ok _ _ hq
        have hN := tN_b (b := b) p2
        have hA := tA_b (b := b) p2
        have hNN := hN.2.2 (tC_0 oc0)
        obtain ⟨ok3, i3, L3, ⟨r1, r2, r3⟩, cH3, mH3⟩ := h (tN b n i2) hN.2.1
        refine ⟨ok3, i3, L ++ L3 ++ [(4, o)], ⟨by omega, r2, fun g => ?_⟩, fun c s ht ha hc hci => ?_, fun s ht ha hb ho => ?_⟩
        · obtain ⟨r4, r5, r6⟩ := r3 g
          refine ⟨by simp only [List.length_append, List.length_cons, List.length_nil]; omega, by simp only [List.length_append, List.length_cons, List.length_nil]; omega, fun c hc => ?_⟩
          rcases List.mem_append.mp hc with hc | hc
          · rcases List.mem_append.mp hc with hc | hc
            · exact p6 c hc
            · exact r6 c hc
          · rw [List.mem_singleton.mp hc]; exact xOk_o o7
        · obtain ⟨s1, e1, a1, b1, d1⟩ := cH c s ht ha hc hci
          have d1 := d1 rfl
          obtain ⟨s2, e2, a2, b2, w1, w2⟩ := c_nxt (t := t) (CB_TC b1 ht) a1 p2
          obtain ⟨s3, e3, a3, b3, d3⟩ := cH3 (c + L.length) s2 (CB_TC b2 (CB_TC b1 ht)) a2 (w2.trans d1.2.2) (by omega)
          have bb := CB_tr b1 (CB_tr b2 b3)
          cases ok3 with
          | false =>
            exact ⟨s3, by rw [cE s ha, ob e1, if_pos rfl, cN_1 a1 hq, ob e2, ob e3]; rfl, a3, bb, fun g => Bool.noConfusion g⟩
          | true =>
            obtain ⟨r4, r5, r6⟩ := r3 rfl
            have d3 := d3 rfl
            have dd : CD c (L ++ L3) s s3 := by
              have := CD_app d1 (CD_app (CD_nil w1 (w2.trans d1.2.2)) d3)
              exact this
            have dl : c + L.length + L3.length = c + (L ++ L3).length := by rw [List.length_append]; omega
            have em := c_emit (v := xOc o) (c := c + (L ++ L3).length) dd.2.2 (by rw [List.length_append]; omega)
            exact ⟨_, by rw [cE s ha, ob e1, if_pos rfl, cN_1 a1 hq, ob e2, ob e3, if_pos rfl, ob em]; rfl, em_AT a3, CB_tr bb em_CB, fun _ => CD_one dd rfl⟩
        · obtain ⟨v, s1, e1, b1, f1, _⟩ := mH s ht ha hb ho
          obtain ⟨g1, g2, g3, g4⟩ := f1 rfl
          obtain ⟨s2, e2, a2, b2, w1, w2⟩ := m_nxt (MB_TM b1 ht) g1 p2 (kd_4 oc1)
          obtain ⟨w, s3, e3, b3, y3, z3⟩ := mH3 s2 (MB_TM b2 (MB_TM b1 ht)) a2 (w2.trans g2) (w1.trans g3)
          refine ⟨xOp o v w, s3, by rw [mE s ht ha hb, ob e1, mN_1 g1 g2 hq, ob e2, ob e3], MB_tr b1 (MB_tr b2 b3), fun g => ?_, z3⟩
          obtain ⟨y4, y5, y6, y7⟩ := y3 g
          rw [MB_env (MB_tr b1 b2)] at y7
          exact ⟨y4, y5, y6, isV_mono (isV_bin o g4 y7) (by omega)⟩
end
