/-! drawn -/
def dB (z : Int32) : Nat := z.toBitVec.toNat / 512 % 8
theorem dB_le (z : Int32) : dB z ≤ 7 := by
  unfold dB
  omega
theorem d_to (z : Int32) : ((z.toUInt32 >>> ((9 : Int32).toUInt32 &&& Int32.toUInt32 31)).toInt32) - ((z.toUInt32 >>> ((9 : Int32).toUInt32 &&& Int32.toUInt32 31)).toInt32) / 8 * 8 = nI (dB z) := by
  have h := pk_ushr z 9 9 (by decide)
  generalize (z.toUInt32 >>> ((9 : Int32).toUInt32 &&& Int32.toUInt32 31)).toInt32 = w at h ⊢
  have hz : z.toBitVec.toNat < 4294967296 := z.toBitVec.isLt
  have hw : w = nI (z.toBitVec.toNat / 512) := by
    refine Int32.toBitVec_inj.mp (BitVec.eq_of_toNat_eq ?_)
    rw [h, pk_tn (by omega)]
  rw [hw]
  exact nl_rem (d := 8) (by omega) (by omega) (by omega)
theorem aMove_f {V : mVT} {A : Ab} {p b f i : Nat} (h5 : f ≠ 5) (h6 : f ≠ 6) (h10 : f ≠ 10) : aMove V A p b f i = A f i := by
  unfold aMove
  split
  · rfl
  · unfold Ab.up
    rw [if_neg h10, if_neg h6, if_neg h5]
def dS (V : mVT) (p : Nat) (x : Ab × Int32) : Ab × Int32 := (aMove V x.1 p (dB (x.2 * 1103515245 + 12345)), x.2 * 1103515245 + 12345)
def dR (V : mVT) (n : Nat) (_ : Nat) (x : Ab × Int32) : Ab × Int32 := fo (dS V) 0 n x
def dAll (V : mVT) (A : Ab) (z : Int32) (N : Nat) : Ab × Int32 := fo (dR V A.pp) 0 N (A, z)
/-- as A, but for stones, wet, hour -/
def dP (tc : Nat) (A B : Ab) : Prop := AbOK B tc ∧ ∀ f i, f ≠ 5 → f ≠ 6 → f ≠ 10 → B f i = A f i
theorem dP.pp {tc : Nat} {A B : Ab} (h : dP tc A B) : B.pp = A.pp := h.2 9 0 (by decide) (by decide) (by decide)
theorem dP_move {tc : Nat} {A B : Ab} {V : mVT} {p b : Nat} (h : dP tc A B) (hb : b ≤ 7) : dP tc A (aMove V B p b) :=
  ⟨aMove_ok h.1 hb, fun f i h5 h6 h10 => (aMove_f h5 h6 h10).trans (h.2 f i h5 h6 h10)⟩
theorem dP_dS {tc : Nat} {A : Ab} {V : mVT} {p : Nat} {x : Ab × Int32} (h : dP tc A x.1) : dP tc A (dS V p x).1 := dP_move h (dB_le _)
theorem dP_fo {tc : Nat} {A : Ab} {V : mVT} {x : Ab × Int32} (h : dP tc A x.1) (k : Nat) : dP tc A (fo (dS V) 0 k x).1 := fo_P (P := fun y : Ab × Int32 => dP tc A y.1) k x h (fun _ _ _ _ hy => dP_dS hy)
theorem dP_all {tc : Nat} {A : Ab} {V : mVT} {x : Ab × Int32} {n : Nat} (h : dP tc A x.1) (k : Nat) : dP tc A (fo (dR V n) 0 k x).1 := fo_P (P := fun y : Ab × Int32 => dP tc A y.1) k x h (fun _ _ _ _ hy => dP_fo hy n)
/-- what the program goes in thought with -/
def CJ (t : mTX) (tc : Nat) (V : mVT) (B : Ab) (s : mSG) : Prop := CT t tc V s ∧ s.1 6 11 = nI tc ∧ RS 17 18 19 20 21 B s
theorem c_jmove {t : mTX} {tc : Nat} {V : mVT} {B : Ab} {s : mSG} {p b : Nat} (h6 : tc ≤ 6) (h : CJ t tc V B s) (ok : AbOK B tc) (hp : p < B.pp) (hb : b ≤ 7) : ∃ s', X8_moves_17 t (nI p) (nI b) s = some (decide (aH V B p b ≠ 0), s') ∧ CJ t tc V (aMove V B p b) s' := by
  obtain ⟨s', e, r⟩ := c_moves_17 h.1 h.2.1 h6 h.2.2 ok hp hb
  have f := FR_X8_moves_17 _ _ _ _ _ e
  exact ⟨s', e, CT_fr h.1 f rfl, (f 6 11 rfl).1.trans h.2.1, r⟩
theorem c_d26 {t : mTX} {tc : Nat} {V : mVT} {A : Ab} {s : mSG} {x : Ab × Int32} (h6 : tc ≤ 6) (h : CJ t tc V x.1 s) (hP : dP tc A x.1) (y2 y3 y5 : Int32) : ∃ e, X8_drawnTo_l26 t y2 y3 y5 (x.2, 0, s) = some e ∧ (e.1 = (fo (dS V) 0 A.pp x).2 ∧ CJ t tc V (fo (dS V) 0 A.pp x).1 e.2) := by
  have h5 : A.pp ≤ 5 := by rw [← hP.pp]; exact hP.1.pp
  unfold X8_drawnTo_l26
  refine lpN (fun k (v : Int32 × Int32 × mSG) => v.1 = (fo (dS V) 0 k x).2 ∧ v.2.1 = nI k ∧ CJ t tc V (fo (dS V) 0 k x).1 v.2.2) (fun e : Int32 × mSG => e.1 = (fo (dS V) 0 A.pp x).2 ∧ CJ t tc V (fo (dS V) 0 A.pp x).1 e.2) A.pp (by unfold mFU; omega) ?_ ?_ (k := 0) (by omega) (x := (x.2, 0, s)) ⟨rfl, rfl, h⟩
  · intro k v hk hv
    obtain ⟨y, z, s1⟩ := v
    obtain ⟨g1, g2, g3⟩ := hv
    have g1 : y = (fo (dS V) 0 k x).2 := g1
    have g2 : z = nI k := g2
    have g3 : CJ t tc V (fo (dS V) 0 k x).1 s1 := g3
    subst g1 g2
    have hP1 := dP_fo (V := V) hP k
    obtain ⟨s2, e2, r2⟩ := c_jmove (p := k) (b := dB ((fo (dS V) 0 k x).2 * 1103515245 + 12345)) h6 g3 hP1.1 (by rw [hP1.pp]; exact hk) (dB_le _)
    refine ⟨((fo (dS V) 0 (k + 1) x).2, nI (k + 1), s2), ?_, rfl, rfl, by rw [fo_st (Nat.zero_le _)]; exact r2⟩
    show X8_drawnTo_b26 t y2 y3 y5 (fo (dS V) 0 k x).2 (nI k) s1 = _
    unfold X8_drawnTo_b26
    rw [g3.2.2.pp, hP1.pp, if_neg (nI_ge hk (by omega)), d_to, ob e2, nI_1, fo_st (Nat.zero_le _)]
    rfl
  · intro v hv
    obtain ⟨y, z, s1⟩ := v
    obtain ⟨g1, g2, g3⟩ := hv
    have g2 : z = nI A.pp := g2
    have g3 : CJ t tc V (fo (dS V) 0 A.pp x).1 s1 := g3
    subst g2
    refine ⟨(y, s1), ?_, g1, g3⟩
    show X8_drawnTo_b26 t y2 y3 y5 y (nI A.pp) s1 = _
    unfold X8_drawnTo_b26
    rw [g3.2.2.pp, (dP_fo (V := V) hP A.pp).pp, if_pos (nI_le (Nat.le_refl _) (by omega))]
theorem c_d17 {t : mTX} {tc : Nat} {V : mVT} {A : Ab} {s : mSG} {x : Ab × Int32} {N : Nat} (h6 : tc ≤ 6) (hN : N ≤ 30) (h : CJ t tc V x.1 s) (hP : dP tc A x.1) (y3 : Int32) : ∃ e, X8_drawnTo_l17 t (nI N) y3 (x.2, 0, s) = some e ∧ CJ t tc V (fo (dR V A.pp) 0 N x).1 e := by
  unfold X8_drawnTo_l17
  refine lpN (fun k (v : Int32 × Int32 × mSG) => v.1 = (fo (dR V A.pp) 0 k x).2 ∧ v.2.1 = nI k ∧ CJ t tc V (fo (dR V A.pp) 0 k x).1 v.2.2) (fun e : mSG => CJ t tc V (fo (dR V A.pp) 0 N x).1 e) N (by unfold mFU; omega) ?_ ?_ (k := 0) (by omega) (x := (x.2, 0, s)) ⟨rfl, rfl, h⟩
  · intro k v hk hv
    obtain ⟨y, z, s1⟩ := v
    obtain ⟨g1, g2, g3⟩ := hv
    have g1 : y = (fo (dR V A.pp) 0 k x).2 := g1
    have g2 : z = nI k := g2
    have g3 : CJ t tc V (fo (dR V A.pp) 0 k x).1 s1 := g3
    subst g1 g2
    obtain ⟨⟨v', s2⟩, e2, w2, r2⟩ := c_d26 h6 g3 (dP_all hP k) (nI N) y3 (nI k)
    have w2 : v' = _ := w2
    subst w2
    refine ⟨((fo (dR V A.pp) 0 (k + 1) x).2, nI (k + 1), s2), ?_, rfl, rfl, by rw [fo_st (Nat.zero_le _)]; exact r2⟩
    show X8_drawnTo_b17 t (nI N) y3 (fo (dR V A.pp) 0 k x).2 (nI k) s1 = _
    unfold X8_drawnTo_b17
    rw [if_neg (nI_ge hk (by omega)), ob e2, nI_1, fo_st (Nat.zero_le _)]
    rfl
  · intro v hv
    obtain ⟨y, z, s1⟩ := v
    obtain ⟨g1, g2, g3⟩ := hv
    have g2 : z = nI N := g2
    subst g2
    refine ⟨s1, ?_, g3⟩
    show X8_drawnTo_b17 t (nI N) y3 y (nI N) s1 = _
    unfold X8_drawnTo_b17
    rw [if_pos (nI_le (Nat.le_refl _) (by omega))]
def dAt (B : Ab) (to p : Nat) : Nat := if B.st p = to then 1 else 0
theorem c_d87 {t : mTX} {tc : Nat} {V : mVT} {B : Ab} {s : mSG} {to : Nat} (h : CJ t tc V B s) (ok : AbOK B tc) (ht : to ≤ 7) : X8_drawnTo_l87 t (nI to) s (0, 0) = some (nI (aSum (dAt B to) B.pp)) := by
  have h5 := ok.pp
  unfold X8_drawnTo_l87
  refine iter_cnt (b := fun v : Int32 × Int32 => X8_drawnTo_b87 t (nI to) v.1 v.2 s) (fun i => (nI (aSum (dAt B to) i), nI i)) B.pp _ ?_ ?_ mFU 0 (Nat.zero_le _) (by show B.pp - 0 < 1000000; omega)
  · intro i hi
    show X8_drawnTo_b87 t (nI to) (nI (aSum (dAt B to) i)) (nI i) s = _
    unfold X8_drawnTo_b87 X8_drawnTo_j116_87
    have hs := ok.st i hi
    rw [h.2.2.pp, if_neg (nI_ge hi (by omega)), ob (show X5_trait_17 (nI i) 0 s = some (nI (B.st i)) from (c_trait_17 (w := 0) h.2.2 h5 hi (by omega)).trans (congrArg some (h.2.2.st i hi)))]
    show _ = some (Sum.inl (nI (aSum (dAt B to) i + dAt B to i), nI (i + 1)))
    by_cases q : B.st i = to
    · rw [show dAt B to i = 1 from if_pos q, q, if_pos rfl, nI_1, nI_1]
    · rw [show dAt B to i = 0 from if_neg q, if_neg (show ¬ nI (B.st i) = nI to from by rw [nl_eq (by omega) (by omega)]; exact q), nI_1]
      rfl
  · show X8_drawnTo_b87 t (nI to) (nI (aSum (dAt B to) B.pp)) (nI B.pp) s = _
    unfold X8_drawnTo_b87
    rw [h.2.2.pp, if_pos (nI_le (Nat.le_refl _) (by omega))]
/-- how many are there -/
def dV (V : mVT) (A : Ab) (z : Int32) (N to : Nat) : Nat := aSum (dAt (dAll V A z N).1 to) A.pp
theorem dV_le (V : mVT) (A : Ab) (z : Int32) (N to : Nat) : dV V A z N to ≤ A.pp * 1 := aSum_le (fun i => by unfold dAt; split <;> omega) A.pp
theorem c_drawnTo {t : mTX} {tc : Nat} {V : mVT} {A : Ab} {s : mSG} {N to : Nat} (h6 : tc ≤ 6) (hN : N ≤ 30) (ht : to ≤ 7) (c : CT t tc V s) (hc : s.1 6 11 = nI tc) (h : RS 7 8 9 10 11 A s) (ok : AbOK A tc) (z : Int32) : ∃ s', X8_drawnTo t z (nI N) (nI to) s = some (nI (dV V A z N to), s') := by
  unfold X8_drawnTo
  obtain ⟨s1, e1, r1⟩ := c_bec_17_7 h ok.pp
  have f1 := FR_X5_become_17_7 _ _ e1
  have j1 : CJ t tc V (A, z).1 s1 := ⟨CT_fr c f1 rfl, (f1 6 11 rfl).1.trans hc, r1⟩
  have hP : dP tc A (A, z).1 := ⟨ok, fun _ _ _ _ _ => rfl⟩
  obtain ⟨s2, e2, j2⟩ := c_d17 h6 hN j1 hP (nI to)
  have hP2 : dP tc A (dAll V A z N).1 := dP_all hP N
  have e3 : X8_drawnTo_l87 t (nI to) s2 (0, 0) = some (nI (dV V A z N to)) := (c_d87 (t := t) (to := to) j2 hP2.1 ht).trans (by show some (nI (aSum (dAt (dAll V A z N).1 to) (dAll V A z N).1.pp)) = _; rw [hP2.pp]; rfl)
  rw [ob e1, ob e2, ob e3]
  exact ⟨s2, rfl⟩
theorem m_aside (s0 : mSG) : ∃ s', X9_laysAside s0 = some s' ∧ (∀ p, p < 5 → s'.1 74 p = s0.1 65 p ∧ s'.1 75 p = s0.1 66 p) ∧ s'.1 56 42 = s0.1 56 16 := by
  have key : ∃ e, X9_laysAside_l2 (0, s0) = some e ∧ ((∀ j, j < 5 → e.1 74 j = s0.1 65 j ∧ e.1 75 j = s0.1 66 j) ∧ ∀ a, a ≠ 74 → a ≠ 75 → e.1 a = s0.1 a) := by
    unfold X9_laysAside_l2
    refine lpN (fun i (v : Int32 × mSG) => v.1 = nI i ∧ (∀ j, j < i → v.2.1 74 j = s0.1 65 j ∧ v.2.1 75 j = s0.1 66 j) ∧ ∀ a, a ≠ 74 → a ≠ 75 → v.2.1 a = s0.1 a) _ 5 (by unfold mFU; omega) ?_ ?_ (k := 0) (by omega) (x := (0, s0)) ⟨rfl, fun j hj => absurd hj (Nat.not_lt_zero j), fun _ _ _ => rfl⟩
    · intro i v hi hv
      obtain ⟨x, s⟩ := v
      obtain ⟨e, r, g⟩ := hv
      have e : x = nI i := e
      subst e
      have r : ∀ j, j < i → s.1 74 j = s0.1 65 j ∧ s.1 75 j = s0.1 66 j := r
      have g : ∀ a, a ≠ 74 → a ≠ 75 → s.1 a = s0.1 a := g
      refine ⟨(nI (i + 1), sI (sI s 74 i (s.1 65 i)) 75 i (s.1 66 i)), ?_, rfl, fun j hj => ?_, fun a ha hb => ?_⟩
      · show X9_laysAside_b2 (nI i) s = _
        unfold X9_laysAside_b2
        rw [if_neg (gl_le (x := 5) (m := 5) rfl hi (by omega)), if_pos (gl_inb hi (by omega)), nl_cl (by omega), nI_1]
      · show (sI (sI s 74 i (s.1 65 i)) 75 i (s.1 66 i)).1 74 j = _ ∧ (sI (sI s 74 i (s.1 65 i)) 75 i (s.1 66 i)).1 75 j = _
        by_cases q : j = i
        · subst q
          rw [sI_adr (by decide), sI_same, sI_same, g 65 (by decide) (by decide), g 66 (by decide) (by decide)]
          exact ⟨rfl, rfl⟩
        · rw [sI_adr (by decide), sI_oth q, sI_oth q, sI_adr (by decide)]
          exact r j (by omega)
      · rw [← g a ha hb]
        funext k
        show (sI (sI s 74 i (s.1 65 i)) 75 i (s.1 66 i)).1 a k = s.1 a k
        rw [sI_adr hb, sI_adr ha]
    · intro v hv
      obtain ⟨x, s⟩ := v
      obtain ⟨e, r, g⟩ := hv
      have e : x = nI 5 := e
      subst e
      refine ⟨s, ?_, r, g⟩
      show X9_laysAside_b2 (nI 5) s = _
      unfold X9_laysAside_b2
      rw [if_pos (show (5 : Int32) ≤ nI 5 from by decide)]
  obtain ⟨e, he, h1, h2⟩ := key
  unfold X9_laysAside
  rw [ob he]
  refine ⟨_, rfl, fun p hp => ?_, ?_⟩
  · rw [sI_adr (by decide), sI_adr (by decide)]
    exact h1 p hp
  · rw [sI_same, h2 56 (by decide) (by decide)]
theorem m_layback (s0 : mSG) : ∃ s', X9_laysBack s0 = some s' ∧ (∀ p, p < 5 → s'.1 65 p = s0.1 74 p ∧ s'.1 66 p = s0.1 75 p) ∧ s'.1 56 16 = s0.1 56 42 := by
  have key : ∃ e, X9_laysBack_l2 (0, s0) = some e ∧ ((∀ j, j < 5 → e.1 65 j = s0.1 74 j ∧ e.1 66 j = s0.1 75 j) ∧ ∀ a, a ≠ 65 → a ≠ 66 → e.1 a = s0.1 a) := by
    unfold X9_laysBack_l2
    refine lpN (fun i (v : Int32 × mSG) => v.1 = nI i ∧ (∀ j, j < i → v.2.1 65 j = s0.1 74 j ∧ v.2.1 66 j = s0.1 75 j) ∧ ∀ a, a ≠ 65 → a ≠ 66 → v.2.1 a = s0.1 a) _ 5 (by unfold mFU; omega) ?_ ?_ (k := 0) (by omega) (x := (0, s0)) ⟨rfl, fun j hj => absurd hj (Nat.not_lt_zero j), fun _ _ _ => rfl⟩
    · intro i v hi hv
      obtain ⟨x, s⟩ := v
      obtain ⟨e, r, g⟩ := hv
      have e : x = nI i := e
      subst e
      have r : ∀ j, j < i → s.1 65 j = s0.1 74 j ∧ s.1 66 j = s0.1 75 j := r
      have g : ∀ a, a ≠ 65 → a ≠ 66 → s.1 a = s0.1 a := g
      refine ⟨(nI (i + 1), sI (sI s 65 i (s.1 74 i)) 66 i (s.1 75 i)), ?_, rfl, fun j hj => ?_, fun a ha hb => ?_⟩
      · show X9_laysBack_b2 (nI i) s = _
        unfold X9_laysBack_b2
        rw [if_neg (gl_le (x := 5) (m := 5) rfl hi (by omega)), if_pos (gl_inb hi (by omega)), nl_cl (by omega), nI_1]
      · show (sI (sI s 65 i (s.1 74 i)) 66 i (s.1 75 i)).1 65 j = _ ∧ (sI (sI s 65 i (s.1 74 i)) 66 i (s.1 75 i)).1 66 j = _
        by_cases q : j = i
        · subst q
          rw [sI_adr (by decide), sI_same, sI_same, g 74 (by decide) (by decide), g 75 (by decide) (by decide)]
          exact ⟨rfl, rfl⟩
        · rw [sI_adr (by decide), sI_oth q, sI_oth q, sI_adr (by decide)]
          exact r j (by omega)
      · rw [← g a ha hb]
        funext k
        show (sI (sI s 65 i (s.1 74 i)) 66 i (s.1 75 i)).1 a k = s.1 a k
        rw [sI_adr hb, sI_adr ha]
    · intro v hv
      obtain ⟨x, s⟩ := v
      obtain ⟨e, r, g⟩ := hv
      have e : x = nI 5 := e
      subst e
      refine ⟨s, ?_, r, g⟩
      show X9_laysBack_b2 (nI 5) s = _
      unfold X9_laysBack_b2
      rw [if_pos (show (5 : Int32) ≤ nI 5 from by decide)]
  obtain ⟨e, he, h1, h2⟩ := key
  unfold X9_laysBack
  rw [ob he]
  refine ⟨_, rfl, fun p hp => ?_, ?_⟩
  · rw [sI_adr (by decide), sI_adr (by decide)]
    exact h1 p hp
  · rw [sI_same, h2 56 (by decide) (by decide)]
/-- what the model goes in thought with -/
def MJ (t : mTX) (tc : Nat) (V : mVT) (A B : Ab) (s : mSG) : Prop := CT t tc V s ∧ MT tc V s ∧ RM B s ∧ (∀ p, p < A.pp → s.1 74 p = nI (A.st p) ∧ s.1 75 p = nI (A.wt p)) ∧ s.1 56 42 = nI A.hr
theorem m_jgoes {t : mTX} {tc : Nat} {V : mVT} {A B : Ab} {s : mSG} {p b : Nat} (h : MJ t tc V A B s) (ok : AbOK B tc) (hp : p < B.pp) (hb : b ≤ 7) : ∃ s', X9_goes (nI p) (nI b) s = some (decide (aH V B p b ≠ 0), s') ∧ MJ t tc V A (aMove V B p b) s' := by
  obtain ⟨h1, h2, h3, h4, h5⟩ := h
  obtain ⟨s', e, r⟩ := m_goes h1 h2 h3 ok hp hb
  have f := FR_X9_goes _ _ _ _ e
  refine ⟨s', e, CT_fr h1 f rfl, MT_fr h2 f (fun _ => rfl) (fun _ => rfl), r, fun q hq => ?_, (f 56 42 rfl).1.trans h5⟩
  rw [(f 74 q rfl).1, (f 75 q rfl).1]
  exact h4 q hq
theorem m_jaside {t : mTX} {tc : Nat} {V : mVT} {A : Ab} {s : mSG} (c : CT t tc V s) (mt : MT tc V s) (h : RM A s) (ok : AbOK A tc) : ∃ s', X9_laysAside s = some s' ∧ MJ t tc V A A s' := by
  obtain ⟨s', e, g1, g2⟩ := m_aside s
  have f := FR_X9_laysAside _ _ e
  have h5 := ok.pp
  refine ⟨s', e, CT_fr c f rfl, MT_fr mt f (fun _ => rfl) (fun _ => rfl), RM_fr h f (fun _ => rfl) (fun _ => rfl) (fun _ => rfl) (fun _ => rfl) (fun _ => rfl) (fun _ => rfl) (fun _ => rfl) (fun _ => rfl) (fun _ => rfl) rfl rfl rfl, fun p hp => ?_, g2.trans h.hr⟩
  rw [(g1 p (by omega)).1, (g1 p (by omega)).2]
  exact ⟨h.st p hp, h.wt p hp⟩
theorem m_jback {t : mTX} {tc : Nat} {V : mVT} {A B : Ab} {s : mSG} (h : MJ t tc V A B s) (hP : dP tc A B) : ∃ s', X9_laysBack s = some s' ∧ RM A s' := by
  obtain ⟨h1, h2, h3, h4, h5⟩ := h
  obtain ⟨s', e, g1, g2⟩ := m_layback s
  have f := FR_X9_laysBack _ _ e
  have hp5 : A.pp ≤ 5 := by rw [← hP.pp]; exact hP.1.pp
  have ff : ∀ g i, g ≠ 5 → g ≠ 6 → g ≠ 10 → B g i = A g i := hP.2
  refine ⟨s', e, fun i hi => ?_, fun p hp => ?_, fun p hp => ?_, fun p hp => ?_, fun p hp => ?_, fun p hp => ?_, fun p hp => ?_, fun i hi => ?_, fun i hi => ?_, ?_, ?_, ?_⟩
  · rw [(f 60 i rfl).1, h3.mud i hi]; exact congrArg nI (ff 0 i (by decide) (by decide) (by decide))
  · rw [(f 61 p rfl).1, h3.kd p (by rw [hP.pp]; exact hp)]; exact congrArg nI (ff 1 p (by decide) (by decide) (by decide))
  · rw [(f 62 p rfl).1, h3.nu p (by rw [hP.pp]; exact hp)]; exact congrArg nI (ff 2 p (by decide) (by decide) (by decide))
  · rw [(f 63 p rfl).1, h3.yd p (by rw [hP.pp]; exact hp)]; exact congrArg nI (ff 3 p (by decide) (by decide) (by decide))
  · rw [(f 64 p rfl).1, h3.ld p (by rw [hP.pp]; exact hp)]; exact congrArg nI (ff 4 p (by decide) (by decide) (by decide))
  · rw [(g1 p (by omega)).1]; exact (h4 p hp).1
  · rw [(g1 p (by omega)).2]; exact (h4 p hp).2
  · rw [(f 67 i rfl).1, h3.ow i hi]; exact congrArg nI (ff 7 i (by decide) (by decide) (by decide))
  · rw [(f 68 i rfl).1, h3.rn i hi]; exact congrArg nI (ff 8 i (by decide) (by decide) (by decide))
  · rw [(f 56 15 rfl).1, h3.pp]; exact congrArg nI (ff 9 0 (by decide) (by decide) (by decide))
  · rw [g2]; exact h5
  · rw [(f 56 4 rfl).1, h3.ru]; exact congrArg nI (ff 11 0 (by decide) (by decide) (by decide))
theorem m_d19 {t : mTX} {tc : Nat} {V : mVT} {A : Ab} {s : mSG} {x : Ab × Int32} (h : MJ t tc V A x.1 s) (hP : dP tc A x.1) (y2 y3 y5 : Int32) : ∃ e, X9_draws_l19 y2 y3 y5 (x.2, 0, s) = some e ∧ (e.1 = (fo (dS V) 0 A.pp x).2 ∧ MJ t tc V A (fo (dS V) 0 A.pp x).1 e.2) := by
  have h5 : A.pp ≤ 5 := by rw [← hP.pp]; exact hP.1.pp
  unfold X9_draws_l19
  refine lpN (fun k (v : Int32 × Int32 × mSG) => v.1 = (fo (dS V) 0 k x).2 ∧ v.2.1 = nI k ∧ MJ t tc V A (fo (dS V) 0 k x).1 v.2.2) (fun e : Int32 × mSG => e.1 = (fo (dS V) 0 A.pp x).2 ∧ MJ t tc V A (fo (dS V) 0 A.pp x).1 e.2) A.pp (by unfold mFU; omega) ?_ ?_ (k := 0) (by omega) (x := (x.2, 0, s)) ⟨rfl, rfl, h⟩
  · intro k v hk hv
    obtain ⟨y, z, s1⟩ := v
    obtain ⟨g1, g2, g3⟩ := hv
    have g1 : y = (fo (dS V) 0 k x).2 := g1
    have g2 : z = nI k := g2
    have g3 : MJ t tc V A (fo (dS V) 0 k x).1 s1 := g3
    subst g1 g2
    have hP1 := dP_fo (V := V) hP k
    obtain ⟨s2, e2, r2⟩ := m_jgoes (p := k) (b := dB ((fo (dS V) 0 k x).2 * 1103515245 + 12345)) g3 hP1.1 (by rw [hP1.pp]; exact hk) (dB_le _)
    refine ⟨((fo (dS V) 0 (k + 1) x).2, nI (k + 1), s2), ?_, rfl, rfl, by rw [fo_st (Nat.zero_le _)]; exact r2⟩
    show X9_draws_b19 y2 y3 y5 (fo (dS V) 0 k x).2 (nI k) s1 = _
    unfold X9_draws_b19
    rw [g3.2.2.1.pp, hP1.pp, if_neg (nI_ge hk (by omega)), d_to, ob e2, nI_1, fo_st (Nat.zero_le _)]
    rfl
  · intro v hv
    obtain ⟨y, z, s1⟩ := v
    obtain ⟨g1, g2, g3⟩ := hv
    have g2 : z = nI A.pp := g2
    have g3 : MJ t tc V A (fo (dS V) 0 A.pp x).1 s1 := g3
    subst g2
    refine ⟨(y, s1), ?_, g1, g3⟩
    show X9_draws_b19 y2 y3 y5 y (nI A.pp) s1 = _
    unfold X9_draws_b19
    rw [g3.2.2.1.pp, (dP_fo (V := V) hP A.pp).pp, if_pos (nI_le (Nat.le_refl _) (by omega))]
theorem m_d10 {t : mTX} {tc : Nat} {V : mVT} {A : Ab} {s : mSG} {x : Ab × Int32} {N : Nat} (hN : N ≤ 30) (h : MJ t tc V A x.1 s) (hP : dP tc A x.1) (y3 : Int32) : ∃ e, X9_draws_l10 (nI N) y3 (x.2, 0, s) = some e ∧ MJ t tc V A (fo (dR V A.pp) 0 N x).1 e := by
  unfold X9_draws_l10
  refine lpN (fun k (v : Int32 × Int32 × mSG) => v.1 = (fo (dR V A.pp) 0 k x).2 ∧ v.2.1 = nI k ∧ MJ t tc V A (fo (dR V A.pp) 0 k x).1 v.2.2) (fun e : mSG => MJ t tc V A (fo (dR V A.pp) 0 N x).1 e) N (by unfold mFU; omega) ?_ ?_ (k := 0) (by omega) (x := (x.2, 0, s)) ⟨rfl, rfl, h⟩
  · intro k v hk hv
    obtain ⟨y, z, s1⟩ := v
    obtain ⟨g1, g2, g3⟩ := hv
    have g1 : y = (fo (dR V A.pp) 0 k x).2 := g1
    have g2 : z = nI k := g2
    have g3 : MJ t tc V A (fo (dR V A.pp) 0 k x).1 s1 := g3
    subst g1 g2
    obtain ⟨⟨v', s2⟩, e2, w2, r2⟩ := m_d19 g3 (dP_all hP k) (nI N) y3 (nI k)
    have w2 : v' = _ := w2
    subst w2
    refine ⟨((fo (dR V A.pp) 0 (k + 1) x).2, nI (k + 1), s2), ?_, rfl, rfl, by rw [fo_st (Nat.zero_le _)]; exact r2⟩
    show X9_draws_b10 (nI N) y3 (fo (dR V A.pp) 0 k x).2 (nI k) s1 = _
    unfold X9_draws_b10
    rw [if_neg (nI_ge hk (by omega)), ob e2, nI_1, fo_st (Nat.zero_le _)]
    rfl
  · intro v hv
    obtain ⟨y, z, s1⟩ := v
    obtain ⟨g1, g2, g3⟩ := hv
    have g2 : z = nI N := g2
    subst g2
    refine ⟨s1, ?_, g3⟩
    show X9_draws_b10 (nI N) y3 y (nI N) s1 = _
    unfold X9_draws_b10
    rw [if_pos (nI_le (Nat.le_refl _) (by omega))]
theorem m_d73 {tc : Nat} {B : Ab} {s : mSG} {to : Nat} (h : RM B s) (ok : AbOK B tc) (ht : to ≤ 7) : X9_draws_l73 (nI to) s (0, 0) = some (nI (aSum (dAt B to) B.pp)) := by
  have h5 := ok.pp
  unfold X9_draws_l73
  refine iter_cnt (b := fun v : Int32 × Int32 => X9_draws_b73 (nI to) v.1 v.2 s) (fun i => (nI (aSum (dAt B to) i), nI i)) B.pp _ ?_ ?_ mFU 0 (Nat.zero_le _) (by show B.pp - 0 < 1000000; omega)
  · intro i hi
    show X9_draws_b73 (nI to) (nI (aSum (dAt B to) i)) (nI i) s = _
    unfold X9_draws_b73 X9_draws_j100_73
    have hs := ok.st i hi
    rw [h.pp, if_neg (nI_ge hi (by omega)), if_pos (gl_inb (show i < 5 by omega) (by omega)), nl_cl (by omega), h.st i hi]
    show _ = some (Sum.inl (nI (aSum (dAt B to) i + dAt B to i), nI (i + 1)))
    by_cases q : B.st i = to
    · rw [show dAt B to i = 1 from if_pos q, q, if_pos rfl, nI_1, nI_1]
    · rw [show dAt B to i = 0 from if_neg q, if_neg (show ¬ nI (B.st i) = nI to from by rw [nl_eq (by omega) (by omega)]; exact q), nI_1]
      exact congrArg (fun z => some (Sum.inl (z, nI (i + 1)))) (nI_add _ 0)
  · show X9_draws_b73 (nI to) (nI (aSum (dAt B to) B.pp)) (nI B.pp) s = _
    unfold X9_draws_b73
    rw [h.pp, if_pos (nI_le (Nat.le_refl _) (by omega))]
theorem m_draws {t : mTX} {tc : Nat} {V : mVT} {A : Ab} {s : mSG} {N to : Nat} (hN : N ≤ 30) (ht : to ≤ 7) (c : CT t tc V s) (mt : MT tc V s) (h : RM A s) (ok : AbOK A tc) (z : Int32) : ∃ s', X9_draws z (nI N) (nI to) s = some (nI (dV V A z N to), s') ∧ RM A s' := by
  unfold X9_draws
  obtain ⟨s1, e1, j1⟩ := m_jaside c mt h ok
  have hP : dP tc A (A, z).1 := ⟨ok, fun _ _ _ _ _ => rfl⟩
  obtain ⟨s2, e2, j2⟩ := m_d10 hN (x := (A, z)) j1 hP (nI to)
  have hP2 : dP tc A (dAll V A z N).1 := dP_all hP N
  have e3 : X9_draws_l73 (nI to) s2 (0, 0) = some (nI (dV V A z N to)) := (m_d73 (to := to) j2.2.2.1 hP2.1 ht).trans (by show some (nI (aSum (dAt (dAll V A z N).1 to) (dAll V A z N).1.pp)) = _; rw [hP2.pp]; rfl)
  obtain ⟨s3, e4, r3⟩ := m_jback j2 hP2
  rw [ob e1, ob e2, ob e3, ob e4]
  exact ⟨s3, rfl, r3⟩
theorem L_drawn {t : mTX} {s : mSG} (h : INV t s) (x y z : Int32) : ∃ v s1 s2, X8_drawn t x y z s = some (v, s1) ∧ X9_drawn x y z s1 = some (v, s2) ∧ INV t s2 := by
  have hI := h
  obtain ⟨tc, V, A, hk, K, ts, tp, sk, sn, si, hv⟩ := h
  have hw := hv
  obtain ⟨⟨a1, a2, a3, a4, a5, a6⟩, ⟨b1, b2, b3⟩, _⟩ := hw
  by_cases q : inR y 30 ∧ inR z 7
  · obtain ⟨N, hN, rfl⟩ := inR_of q.1 (by omega)
    obtain ⟨to, ht, rfl⟩ := inR_of q.2 (by omega)
    obtain ⟨s1, e1⟩ := c_drawnTo a6 hN ht a1 a3 b1 b3 x
    have x1 : X8_drawn t x (nI N) (nI to) s = some (nI (dV V A x N to), s1) := by
      unfold X8_drawn
      rw [show X8_isWithin (nI N) 30 = _ from c_within (nI N) 30, decide_eq_true q.1, if_pos rfl, c_isStone, decide_eq_true q.2, if_pos rfl, ob e1]
    have f1 := FR_X8_drawn _ _ _ _ _ _ x1
    have i1 := IV_fr hv f1 rfl
    obtain ⟨⟨a1', a2', _⟩, ⟨_, b2', _⟩, _⟩ := i1
    obtain ⟨s2, e2, r2⟩ := m_draws hN ht a1' a2' b2' b3 x
    have x2 : X9_drawn x (nI N) (nI to) s1 = some (nI (dV V A x N to), s2) := by
      unfold X9_drawn
      rw [show X9_in (nI N).toInt64 0 30 = _ from b_dec (m_inR (nI N) 30 30 rfl), decide_eq_true q.1, if_pos rfl, m_isStone, decide_eq_true q.2, if_pos rfl, ob e2]
    have f2 := FR_X9_drawn _ _ _ _ _ x2
    have c2 := RS_fr (RS_fr b1 f1 (fun _ => rfl) (fun _ => rfl) (fun _ => rfl) (fun _ => rfl) (fun _ => rfl)) f2 (fun _ => rfl) (fun _ => rfl) (fun _ => rfl) (fun _ => rfl) (fun _ => rfl)
    exact ⟨_, s1, s2, x1, x2, L_now hv f1 f2 rfl rfl c2 r2 b3 (Nat.le_refl _) (fun _ _ => rfl)⟩
  · refine ⟨-2, s, s, ?_, ?_, hI⟩
    · unfold X8_drawn
      rw [show X8_isWithin y 30 = _ from c_within y 30, c_isStone]
      by_cases q1 : inR y 30
      · rw [decide_eq_true q1, decide_eq_false (fun q2 => q ⟨q1, q2⟩)]
        rfl
      · rw [decide_eq_false q1]
        rfl
    · unfold X9_drawn
      rw [show X9_in y.toInt64 0 30 = _ from b_dec (m_inR y 30 30 rfl), m_isStone]
      by_cases q1 : inR y 30
      · rw [decide_eq_true q1, decide_eq_false (fun q2 => q ⟨q1, q2⟩)]
        rfl
      · rw [decide_eq_false q1]
        rfl
