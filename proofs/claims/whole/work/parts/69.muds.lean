/-! muds -/
def uM (g : Nat → Int32) (p : Nat) (x : Ab × Nat) : Ab × Nat := if (inR (g p) 7 ∧ inR (g (p + 1)) 7 ∧ ¬ g p = g (p + 1)) ∧ inR (g (p + 2)) 99 then (aMud x.1 (g p).toNatClampNeg (g (p + 1)).toNatClampNeg (g (p + 2)).toNatClampNeg, x.2 + 1) else x
def muR (g : Nat → Int32) (sz f : Nat) : Nat → Nat → Ab × Nat → Int32 × Ab
  | 0, _, x => (nI x.2, x.1)
  | m + 1, c, x => if f + 3 * c + 3 ≤ sz then muR g sz f m (c + 1) (uM g (f + 3 * c) x) else (-12, x.1)
def uP (tc : Nat) (A : Ab) (x : Ab) : Prop := AbOK x tc ∧ x.pp = A.pp ∧ x.kd = A.kd
theorem uP_uM {tc : Nat} {A : Ab} {g : Nat → Int32} {p : Nat} {x : Ab × Nat} (h : uP tc A x.1) : uP tc A (uM g p x).1 := by
  unfold uM
  by_cases q : (inR (g p) 7 ∧ inR (g (p + 1)) 7 ∧ ¬ g p = g (p + 1)) ∧ inR (g (p + 2)) 99
  · rw [if_pos q]
    obtain ⟨a, ha, ea⟩ := inR_of q.1.1 (by omega)
    obtain ⟨b, hb, eb⟩ := inR_of q.1.2.1 (by omega)
    obtain ⟨v, hv, ev⟩ := inR_of q.2 (by omega)
    have hab : a ≠ b := fun e => q.1.2.2 (by rw [ea, eb, e])
    rw [ea, eb, ev, nl_cl (by omega), nl_cl (by omega), nl_cl (by omega)]
    exact ⟨aMud_ok h.1 ha hb hab hv, h.2⟩
  · rw [if_neg q]
    exact h
theorem uP_muR {tc : Nat} {A : Ab} {g : Nat → Int32} {sz f : Nat} : ∀ (m c : Nat) (x : Ab × Nat), uP tc A x.1 → uP tc A (muR g sz f m c x).2
  | 0, _, _, h => h
  | m + 1, c, x, h => by
    show uP tc A (if f + 3 * c + 3 ≤ sz then muR g sz f m (c + 1) (uM g (f + 3 * c) x) else (-12, x.1)).2
    by_cases q : f + 3 * c + 3 ≤ sz
    · rw [if_pos q]
      exact uP_muR m (c + 1) _ (uP_uM h)
    · rw [if_neg q]
      exact h
/-- a sheet of the program -/
def CS (k sz : Nat) (g : Nat → Int32) (s : mSG) : Prop := s.1 (45 + 2 * k) 2 = nI sz ∧ ∀ i, i < sz → s.1 (46 + 2 * k) i = g i
theorem CS_fr {W : List (Nat × Option Nat)} {k sz : Nat} {g : Nat → Int32} {s s' : mSG} (h : CS k sz g s) (f : Fr W s s') (hw : ∀ j, mW W (45 + 2 * k) j = false ∧ mW W (46 + 2 * k) j = false) : CS k sz g s' :=
  ⟨by rw [(f _ _ (hw 2).1).1]; exact h.1, fun i hi => by rw [(f _ _ (hw i).2).1]; exact h.2 i hi⟩
theorem c_item {t : mTX} {s : mSG} {k sz i : Nat} {g : Nat → Int32} (hk : k < 4) (hz : sz ≤ 40) (h : CS k sz g s) (hi : i < sz) : X4_item t (45 + 2 * k) (nI i) s = some (g i) := by
  unfold X4_item
  obtain ⟨k1, k2, k3⟩ := kS (t := t) hk
  rw [if_pos k1, h.1, c_withinP _ (by omega), decide_eq_true ((inP_nI (show i < 2147483648 by omega) (show sz < 2147483648 by omega)).mpr hi), if_pos rfl, if_pos k1, ob k2, k3, if_pos ⟨rfl, gl_inb (show i < 40 by omega) (by omega)⟩, nl_cl (by omega), h.2 i hi]
theorem c_uM {s : mSG} {tc p : Nat} {A : Ab} {g : Nat → Int32} {x : Ab × Nat} (h : RS 7 8 9 10 11 x.1 s) : ∃ b s', X5_putMud_7 (g p) (g (p + 1)) (g (p + 2)) s = some (b, s') ∧ RS 7 8 9 10 11 (uM g p x).1 s' ∧ (uM g p x).2 = x.2 + (if b = true then 1 else 0) := by
  unfold uM
  by_cases q : (inR (g p) 7 ∧ inR (g (p + 1)) 7 ∧ ¬ g p = g (p + 1)) ∧ inR (g (p + 2)) 99
  · rw [if_pos q]
    obtain ⟨a, ha, ea⟩ := inR_of q.1.1 (by omega)
    obtain ⟨b, hb, eb⟩ := inR_of q.1.2.1 (by omega)
    obtain ⟨v, hv, ev⟩ := inR_of q.2 (by omega)
    have hab : a ≠ b := fun e => q.1.2.2 (by rw [ea, eb, e])
    obtain ⟨s', e, r⟩ := c_putMud h ha hb hab hv
    rw [ea, eb, ev, nl_cl (by omega), nl_cl (by omega), nl_cl (by omega)]
    exact ⟨true, s', e, r, rfl⟩
  · rw [if_neg q]
    exact ⟨false, s, c_putMudN q, h, rfl⟩
theorem m_uM {s : mSG} {p : Nat} {tc : Nat} {g : Nat → Int32} {x : Ab × Nat} (h : RM x.1 s) (ok : AbOK x.1 tc) : ∃ r s', X9_mud (g p) (g (p + 1)) (g (p + 2)) s = some (r, s') ∧ RM (uM g p x).1 s' ∧ (r < 0 ∧ (uM g p x).2 = x.2 ∨ ¬ r < 0 ∧ (uM g p x).2 = x.2 + 1) := by
  unfold uM
  by_cases q : (inR (g p) 7 ∧ inR (g (p + 1)) 7 ∧ ¬ g p = g (p + 1)) ∧ inR (g (p + 2)) 99
  · rw [if_pos q]
    obtain ⟨a, ha, ea⟩ := inR_of q.1.1 (by omega)
    obtain ⟨b, hb, eb⟩ := inR_of q.1.2.1 (by omega)
    obtain ⟨v, hv, ev⟩ := inR_of q.2 (by omega)
    have hab : a ≠ b := fun e => q.1.2.2 (by rw [ea, eb, e])
    obtain ⟨s', e, r⟩ := m_mudY h ha hb hab hv
    rw [ea, eb, ev, nl_cl (by omega), nl_cl (by omega), nl_cl (by omega)]
    have := ok.mud (a * 8 + b)
    exact ⟨_, s', e, r, Or.inr ⟨nI_pos (by omega), rfl⟩⟩
  · rw [if_neg q]
    exact ⟨-2, s, m_mudN q, h, Or.inl ⟨by decide, rfl⟩⟩
theorem c_hasRunN {t : mTX} {s : mSG} {k sz p : Nat} {g : Nat → Int32} (hk : k < 4) (hz : sz ≤ 40) (h : CS k sz g s) (hp : p ≤ 100) : X4_hasRun t (45 + 2 * k) (nI p) 3 s = some (decide (p + 3 ≤ sz)) := by
  obtain ⟨r, e, w⟩ := c_hasRun (t := t) hk hz h.1 (nI p) 3
  rw [e]
  congr 1
  have : runR sz (nI p) 3 ↔ p + 3 ≤ sz := by
    unfold runR
    rw [nI_toInt (by omega)]
    have e3 : (3 : Int32).toInt = 3 := rfl
    rw [e3]
    exact ⟨fun q => by omega, fun q => ⟨nI_pos' (by omega), by decide, by omega⟩⟩
  by_cases q : p + 3 ≤ sz
  · rw [decide_eq_true q]; exact w.mpr (this.mpr q)
  · rw [decide_eq_false q]
    cases r with
    | false => rfl
    | true => exact absurd (this.mp (w.mp rfl)) q
theorem mW_mud {k : Nat} (hk : k < 4) (j : Nat) : mW W_X5_putMud_7 (45 + 2 * k) j = false ∧ mW W_X5_putMud_7 (46 + 2 * k) j = false := by
  have hc : k = 0 ∨ k = 1 ∨ k = 2 ∨ k = 3 := by omega
  rcases hc with rfl | rfl | rfl | rfl <;> exact ⟨rfl, rfl⟩
theorem c_mudsL {t : mTX} {k sz f n tc : Nat} {g : Nat → Int32} {A : Ab} (hk : k < 4) (hz : sz ≤ 40) (hf : f ≤ 40) (hn : n ≤ 13) : ∀ (m c N : Nat) (x : Ab × Nat) (s : mSG), c + m = n → m < N → RS 7 8 9 10 11 x.1 s → CS k sz g s → ∃ e, iter (fun v : Int32 × Int32 × mSG => X8_muds_b66 t (nI f) (nI n) (45 + 2 * k) v.1 v.2.1 v.2.2) N (nI x.2, nI c, s) = some e ∧ ∃ r s', Sum.elim (fun e0 => some ((-12 : Int32), e0)) (fun e1 : Int32 × mSG => some (e1.1, e1.2)) e = some (r, s') ∧ r = (muR g sz f m c x).1 ∧ RS 7 8 9 10 11 (muR g sz f m c x).2 s' := by
  intro m
  induction m with
  | zero =>
    intro c N x s hc hN h hs
    refine ⟨.inr (nI x.2, s), it_r (by omega) ?_, _, _, rfl, rfl, h⟩
    show X8_muds_b66 t (nI f) (nI n) (45 + 2 * k) (nI x.2) (nI c) s = _
    unfold X8_muds_b66
    rw [if_pos (nI_le (by omega) (by omega))]
  | succ m ih =>
    intro c N x s hc hN h hs
    have hat : nI f + 3 * nI c = nI (f + 3 * c) := by
      rw [show (3 : Int32) * nI c = nI (3 * c) from pk_mul 3 c, nI_add]
    by_cases q : f + 3 * c + 3 ≤ sz
    · obtain ⟨b, s', e1, r1, w1⟩ := c_uM (tc := tc) (A := A) (p := f + 3 * c) (g := g) h
      have f1 := FR_X5_putMud_7 _ _ _ _ _ e1
      obtain ⟨e, he, r, s'', h1, h2, h3⟩ := ih (c + 1) (N - 1) (uM g (f + 3 * c) x) s' (by omega) (by omega) r1 (CS_fr hs f1 (mW_mud hk))
      refine ⟨e, ?_, r, s'', h1, ?_, ?_⟩
      · rw [it_l (by omega) (y := (nI (uM g (f + 3 * c) x).2, nI (c + 1), s')) ?_]
        · exact he
        · show X8_muds_b66 t (nI f) (nI n) (45 + 2 * k) (nI x.2) (nI c) s = _
          unfold X8_muds_b66 X8_muds_j133_66
          rw [if_neg (nI_ge (by omega) (by omega)), if_pos (kS hk).1, hat, ob (c_hasRunN hk hz hs (by omega)), decide_eq_true q, if_pos rfl, if_pos (kS hk).1, ob (c_item hk hz hs (show f + 3 * c < sz by omega)), if_pos (kS hk).1, nI_1, ob (c_item hk hz hs (show f + 3 * c + 1 < sz by omega)), if_pos (kS hk).1, show nI (f + 3 * c) + 2 = nI (f + 3 * c + 2) from nI_add _ 2, ob (c_item hk hz hs (show f + 3 * c + 2 < sz by omega)), ob e1, nI_1, w1]
          cases b with
          | true => rw [if_pos rfl, if_pos rfl, nI_1]
          | false => rw [if_neg (show ¬ ((false, s') : Bool × mSG).1 = true from fun h => (by cases h)), if_neg (show ¬ false = true by decide), nI_1]; rfl
      · rw [h2]
        show _ = (if f + 3 * c + 3 ≤ sz then muR g sz f m (c + 1) (uM g (f + 3 * c) x) else (-12, x.1)).1
        rw [if_pos q]
      · show RS 7 8 9 10 11 (if f + 3 * c + 3 ≤ sz then muR g sz f m (c + 1) (uM g (f + 3 * c) x) else (-12, x.1)).2 s''
        rw [if_pos q]
        exact h3
    · refine ⟨.inl s, it_r (by omega) ?_, _, _, rfl, ?_, ?_⟩
      · show X8_muds_b66 t (nI f) (nI n) (45 + 2 * k) (nI x.2) (nI c) s = _
        unfold X8_muds_b66
        rw [if_neg (nI_ge (by omega) (by omega)), if_pos (kS hk).1, hat, ob (c_hasRunN hk hz hs (by omega)), decide_eq_false q, if_neg (by decide)]
      · show _ = (if f + 3 * c + 3 ≤ sz then muR g sz f m (c + 1) (uM g (f + 3 * c) x) else (-12, x.1)).1
        rw [if_neg q]
      · show RS 7 8 9 10 11 (if f + 3 * c + 3 ≤ sz then muR g sz f m (c + 1) (uM g (f + 3 * c) x) else (-12, x.1)).2 s
        rw [if_neg q]
        exact h
/-- a sheet of the model -/
def MS (k sz : Nat) (g : Nat → Int32) (s : mSG) : Prop := s.1 82 k = nI sz ∧ ∀ i, i < sz → s.1 83 (40 * k + i) = g i
theorem MS_fr {W : List (Nat × Option Nat)} {k sz : Nat} {g : Nat → Int32} {s s' : mSG} (h : MS k sz g s) (f : Fr W s s') (h2 : ∀ j, mW W 82 j = false) (h3 : ∀ j, mW W 83 j = false) : MS k sz g s' :=
  ⟨by rw [(f _ _ (h2 k)).1]; exact h.1, fun i hi => by rw [(f _ _ (h3 _)).1]; exact h.2 i hi⟩
theorem m_mudsL {k sz f n tc : Nat} {g : Nat → Int32} {A : Ab} (hk : k < 4) (hz : sz ≤ 40) (hf : f ≤ 40) (hn : n ≤ 13) : ∀ (m c N : Nat) (x : Ab × Nat) (s : mSG), c + m = n → m < N → RM x.1 s → uP tc A x.1 → MS k sz g s → ∃ e, iter (fun v : Int32 × Int32 × mSG => X9_muds_b75 (nI k) (nI f) (nI n) v.1 v.2.1 v.2.2) N (nI x.2, nI c, s) = some e ∧ ∃ r s', Sum.elim (fun e0 => some ((-12 : Int32), e0)) (fun e1 : Int32 × mSG => some (e1.1, e1.2)) e = some (r, s') ∧ r = (muR g sz f m c x).1 ∧ RM (muR g sz f m c x).2 s' := by
  intro m
  induction m with
  | zero =>
    intro c N x s hc hN h hP hs
    refine ⟨.inr (nI x.2, s), it_r (by omega) ?_, _, _, rfl, rfl, h⟩
    show X9_muds_b75 (nI k) (nI f) (nI n) (nI x.2) (nI c) s = _
    unfold X9_muds_b75
    rw [if_pos (nI_le (by omega) (by omega))]
  | succ m ih =>
    intro c N x s hc hN h hP hs
    have hle : (nI f ≤ nI sz - 3 * nI c - 3) = (f + 3 * c + 3 ≤ sz) := by
      rw [show (3 : Int32) * nI c = nI (3 * c) from pk_mul 3 c]
      refine propext ?_
      rw [Int32.le_iff_toInt_le, Int32.toInt_sub, pk_sub_toInt (by omega) (by omega), nI_toInt (by omega), show (3 : Int32).toInt = 3 from rfl, Int.bmod_eq_of_le (by omega) (by omega)]
      omega
    by_cases q : f + 3 * c + 3 ≤ sz
    · obtain ⟨b, s', e1, r1, w1⟩ := m_uM (p := f + 3 * c) (g := g) h hP.1
      have f1 := FR_X9_mud _ _ _ _ _ e1
      obtain ⟨e, he, r, s'', h1, h2, h3⟩ := ih (c + 1) (N - 1) (uM g (f + 3 * c) x) s' (by omega) (by omega) r1 (uP_uM hP) (MS_fr hs f1 (fun _ => rfl) (fun _ => rfl))
      refine ⟨e, ?_, r, s'', h1, ?_, ?_⟩
      · rw [it_l (by omega) (y := (nI (uM g (f + 3 * c) x).2, nI (c + 1), s')) ?_]
        · exact he
        · show X9_muds_b75 (nI k) (nI f) (nI n) (nI x.2) (nI c) s = _
          unfold X9_muds_b75 X9_muds_j158_75
          have e3 : (3 : Int32) * nI c = nI (3 * c) := pk_mul 3 c
          rw [if_neg (nI_ge (by omega) (by omega)), if_neg (nI_pos (by omega)), if_pos (gl_inb hk (by omega)), nl_cl (show k < 2147483648 by omega), hs.1, if_pos (hle.mpr q), e3, show (40 : Int32) * nI k = nI (40 * k) from pk_mul 40 k, nI_add, nI_add, nI_1, show nI (40 * k + f + 3 * c) + 2 = nI (40 * k + f + 3 * c + 2) from nI_add _ 2, if_pos (gl_inb (show 40 * k + f + 3 * c < 160 by omega) (by omega)), if_pos (gl_inb (show 40 * k + f + 3 * c + 1 < 160 by omega) (by omega)), if_pos (gl_inb (show 40 * k + f + 3 * c + 2 < 160 by omega) (by omega)), nl_cl (by omega), nl_cl (by omega), nl_cl (by omega), show 40 * k + f + 3 * c + 2 = 40 * k + (f + 3 * c + 2) by omega, show 40 * k + f + 3 * c + 1 = 40 * k + (f + 3 * c + 1) by omega, show 40 * k + f + 3 * c = 40 * k + (f + 3 * c) by omega, hs.2 _ (by omega), hs.2 _ (by omega), hs.2 _ (by omega), ob e1, nI_1]
          rcases w1 with ⟨w1, w2⟩ | ⟨w1, w2⟩
          · rw [if_pos w1, w2]
            exact congrArg (fun z => some (Sum.inl (z, nI (c + 1), s'))) (nI_add x.2 0)
          · rw [if_neg w1, w2, nI_1]
      · rw [h2]
        show _ = (if f + 3 * c + 3 ≤ sz then muR g sz f m (c + 1) (uM g (f + 3 * c) x) else (-12, x.1)).1
        rw [if_pos q]
      · show RM (if f + 3 * c + 3 ≤ sz then muR g sz f m (c + 1) (uM g (f + 3 * c) x) else (-12, x.1)).2 s''
        rw [if_pos q]
        exact h3
    · refine ⟨.inl s, it_r (by omega) ?_, _, _, rfl, ?_, ?_⟩
      · show X9_muds_b75 (nI k) (nI f) (nI n) (nI x.2) (nI c) s = _
        unfold X9_muds_b75
        rw [if_neg (nI_ge (by omega) (by omega)), if_neg (nI_pos (by omega)), if_pos (gl_inb hk (by omega)), nl_cl (show k < 2147483648 by omega), hs.1, if_neg (fun g => q (hle.mp g))]
      · show _ = (if f + 3 * c + 3 ≤ sz then muR g sz f m (c + 1) (uM g (f + 3 * c) x) else (-12, x.1)).1
        rw [if_neg q]
      · show RM (if f + 3 * c + 3 ≤ sz then muR g sz f m (c + 1) (uM g (f + 3 * c) x) else (-12, x.1)).2 s
        rw [if_neg q]
        exact h
/-- the place is beyond all sheets -/
theorem c_mudsX {t : mTX} {k sz n : Nat} {g : Nat → Int32} {s : mSG} {x : Int32} (hk : k < 4) (hz : sz ≤ 40) (hn : n ≤ 13) (hx : ¬ inR x 40) (hs : CS k sz g s) : X8_muds_l66 t x (nI n) (45 + 2 * k) (0, 0, s) = some (if n = 0 then .inr (0, s) else .inl s) := by
  unfold X8_muds_l66
  refine it_r (by unfold mFU; omega) ?_
  show X8_muds_b66 t x (nI n) (45 + 2 * k) 0 0 s = _
  unfold X8_muds_b66
  by_cases q : n = 0
  · subst q
    rw [if_pos (by decide), if_pos rfl]
  · rw [if_neg (show ¬ nI n ≤ 0 from nI_nle (by omega) (by omega)), if_neg q, if_pos (kS hk).1, show x + 3 * 0 = x from by rw [Int32.mul_zero, Int32.add_zero]]
    obtain ⟨r, e, w⟩ := c_hasRun (t := t) hk hz hs.1 x 3
    rw [ob e, if_neg (fun g => hx ?_)]
    obtain ⟨h1, h2, h3⟩ := w.mp g
    refine ⟨h1, ?_⟩
    rw [Int32.le_iff_toInt_le, nI_toInt (by omega)]
    have e3 : (3 : Int32).toInt = 3 := rfl
    omega
theorem m_mudsX {k sz n : Nat} {g : Nat → Int32} {s : mSG} {x : Int32} (hk : k < 4) (hz : sz ≤ 40) (hn : n ≤ 13) (hx : ¬ inR x 40) (hs : MS k sz g s) : X9_muds_l75 (nI k) x (nI n) (0, 0, s) = some (if n = 0 then .inr (0, s) else .inl s) := by
  unfold X9_muds_l75
  refine it_r (by unfold mFU; omega) ?_
  show X9_muds_b75 (nI k) x (nI n) 0 0 s = _
  unfold X9_muds_b75
  by_cases q : n = 0
  · subst q
    rw [if_pos (by decide), if_pos rfl]
  · rw [if_neg (show ¬ nI n ≤ 0 from nI_nle (by omega) (by omega)), if_neg q]
    by_cases q0 : x < 0
    · rw [if_pos q0]
    · rw [if_neg q0, if_pos (gl_inb hk (by omega)), nl_cl (show k < 2147483648 by omega), hs.1, show nI sz - 3 * 0 = nI sz from by rw [Int32.mul_zero, Int32.sub_zero], if_neg (fun g => hx ⟨nneg.mp q0, ?_⟩)]
      rw [Int32.le_iff_toInt_le, show (3 : Int32) = nI 3 from rfl, pk_sub_toInt (by omega) (by omega)] at g
      rw [Int32.le_iff_toInt_le, nI_toInt (by omega)]
      omega
theorem L_muds {t : mTX} {s : mSG} (h : INV t s) (x y z u : Int32) : ∃ r s1 s2, X8_muds t x y z u s = some (r, s1) ∧ X9_muds x y z u s1 = some (r, s2) ∧ INV t s2 := by
  have hI := h
  obtain ⟨tc, V, A, hk, K, ts, tp, sk, sn, si, hv⟩ := h
  have hw := hv
  obtain ⟨_, ⟨b1, b2, b3⟩, _, _, e, _, _⟩ := hw
  by_cases q : inR x 3 ∧ inR y 2 ∧ inR u 13
  · obtain ⟨q1, q2, q3⟩ := q
    obtain ⟨k, hk3, rfl⟩ := inR_of q1 (by omega)
    obtain ⟨n, hn, rfl⟩ := inR_of q3 (by omega)
    have hk4 : k < 4 := by omega
    have base8 : X8_muds t (nI k) y z (nI n) s = (X4_isMissing t (45 + 2 * k) s).bind (fun r2 => if r2 = true then some ((-11), s) else if (mKl (LAY t) (45 + 2 * k)).1 = 3 then (if (s.1 (45 + 2 * k) 1) = y then (X8_muds_l66 t z (nI n) (45 + 2 * k) (0, 0, s)).bind (fun e66 => Sum.elim (fun e66_0 => some ((-12), e66_0)) (fun e66_1 => some (e66_1.1, e66_1.2)) e66) else some ((-13), s)) else none) := by
      unfold X8_muds
      rw [show X8_isWithin (nI k) 3 = _ from c_within (nI k) 3, show X8_isWithin y 2 = _ from c_within y 2, show X8_isWithin (nI n) 13 = _ from c_within (nI n) 13, decide_eq_true q1, decide_eq_true q2, decide_eq_true q3, if_pos rfl, if_pos rfl, if_pos rfl, if_pos (gl_inb hk4 (by omega)), nl_cl (show k < 2147483648 by omega), ob (e k hk4).1, if_pos (kS hk4).1]
    have base9 : ∀ s0 : mSG, X9_muds (nI k) y z (nI n) s0 = if s0.1 80 k = 0 then X9_muds_j57 (nI k) z (nI n) s0 else if s0.1 81 k = y then X9_muds_j57 (nI k) z (nI n) s0 else some (-13, s0) := fun s0 => by
      unfold X9_muds
      rw [m_isSheet, decide_eq_true q1, if_pos rfl, show X9_in y.toInt64 0 2 = _ from b_dec (m_inR y 2 2 rfl), decide_eq_true q2, if_pos rfl, show X9_in (nI n).toInt64 0 13 = _ from b_dec (m_inR (nI n) 13 13 rfl), decide_eq_true q3, if_pos rfl, if_pos (gl_inb hk4 (by omega)), nl_cl (show k < 2147483648 by omega)]
    rcases (e k hk4).2 with ⟨a1, a2, a3⟩ | ⟨a1, a2, a3, a4, a5, a6, a7, a8, a9⟩
    · refine ⟨-11, s, s, ?_, ?_, hI⟩
      · rw [base8, ob (c_missY hk4 a2)]
        rfl
      · rw [base9, if_pos a3]
        unfold X9_muds_j57
        rw [if_pos (gl_inb hk4 (by omega)), nl_cl (show k < 2147483648 by omega), if_pos a3]
    · by_cases qs : nI (sk k - 1) = y
      · have cs : CS k (sn k) (si k) s := ⟨a5, fun i hi => (a9 i hi).1⟩
        have ms : MS k (sn k) (si k) s := ⟨a8, fun i hi => (a9 i hi).2⟩
        have c8 : X8_muds t (nI k) y z (nI n) s = (X8_muds_l66 t z (nI n) (45 + 2 * k) (0, 0, s)).bind (fun e66 => Sum.elim (fun e66_0 => some ((-12), e66_0)) (fun e66_1 => some (e66_1.1, e66_1.2)) e66) := by
          rw [base8, ob (c_missN hk4 a2 a4), if_neg (by decide), if_pos (kS hk4).1, a4, if_pos qs]
        have c9 : ∀ s0 : mSG, s0.1 80 k = 1 → s0.1 81 k = nI (sk k - 1) → X9_muds (nI k) y z (nI n) s0 = (X9_muds_l75 (nI k) z (nI n) (0, 0, s0)).bind (fun e75 => Sum.elim (fun e75_0 => some ((-12), e75_0)) (fun e75_1 => some (e75_1.1, e75_1.2)) e75) := fun s0 g1 g2 => by
          rw [base9, g1, if_neg (by decide), g2, if_pos qs]
          unfold X9_muds_j57
          rw [if_pos (gl_inb hk4 (by omega)), nl_cl (show k < 2147483648 by omega), g1, if_neg (by decide)]
        by_cases qz : inR z 40
        · obtain ⟨f, hf, rfl⟩ := inR_of qz (by omega)
          have hP : uP tc A (A, 0).1 := ⟨b3, rfl, rfl⟩
          obtain ⟨e1, he1, r, s1, w1, w2, w3⟩ := c_mudsL (t := t) (tc := tc) (A := A) (f := f) (n := n) hk4 a3 hf hn n 0 mFU (A, 0) s (by omega) (by unfold mFU; omega) b1 cs
          have x1 : X8_muds t (nI k) y (nI f) (nI n) s = some (r, s1) := by
            rw [c8, ob (show X8_muds_l66 t (nI f) (nI n) (45 + 2 * k) (0, 0, s) = some e1 from he1)]
            exact w1
          have f1 := FR_X8_muds _ _ _ _ _ _ _ x1
          have m1 := RM_fr b2 f1 (fun _ => rfl) (fun _ => rfl) (fun _ => rfl) (fun _ => rfl) (fun _ => rfl) (fun _ => rfl) (fun _ => rfl) (fun _ => rfl) (fun _ => rfl) rfl rfl rfl
          have ms1 := MS_fr ms f1 (fun _ => rfl) (fun _ => rfl)
          obtain ⟨e2, he2, r', s2, v1, v2, v3⟩ := m_mudsL (tc := tc) (A := A) (f := f) (n := n) hk4 a3 hf hn n 0 mFU (A, 0) s1 (by omega) (by unfold mFU; omega) m1 hP ms1
          have x2 : X9_muds (nI k) y (nI f) (nI n) s1 = some (r', s2) := by
            rw [c9 s1 (by rw [(f1 80 k rfl).1]; exact a6) (by rw [(f1 81 k rfl).1]; exact a7), ob (show X9_muds_l75 (nI k) (nI f) (nI n) (0, 0, s1) = some e2 from he2)]
            exact v1
          have f2 := FR_X9_muds _ _ _ _ _ _ x2
          have c2 := RS_fr w3 f2 (fun _ => rfl) (fun _ => rfl) (fun _ => rfl) (fun _ => rfl) (fun _ => rfl)
          have hP' := uP_muR (g := si k) (sz := sn k) (f := f) n 0 (A, 0) hP
          refine ⟨r, s1, s2, x1, ?_, L_now hv f1 f2 rfl rfl c2 v3 hP'.1 (by rw [hP'.2.1]; exact Nat.le_refl _) (fun p _ => by rw [hP'.2.2])⟩
          rw [x2, v2, w2]
        · by_cases q0 : n = 0
          · refine ⟨0, s, s, ?_, ?_, hI⟩
            · rw [c8, ob (c_mudsX hk4 a3 hn qz cs), if_pos q0]
              rfl
            · rw [c9 s a6 a7, ob (m_mudsX hk4 a3 hn qz ms), if_pos q0]
              rfl
          · refine ⟨-12, s, s, ?_, ?_, hI⟩
            · rw [c8, ob (c_mudsX hk4 a3 hn qz cs), if_neg q0]
              rfl
            · rw [c9 s a6 a7, ob (m_mudsX hk4 a3 hn qz ms), if_neg q0]
              rfl
      · refine ⟨-13, s, s, ?_, ?_, hI⟩
        · rw [base8, ob (c_missN hk4 a2 a4), if_neg (by decide), if_pos (kS hk4).1, a4, if_neg qs]
        · rw [base9, a6, if_neg (by decide), a7, if_neg qs]
  · refine ⟨-2, s, s, ?_, ?_, hI⟩
    · unfold X8_muds
      rw [show X8_isWithin x 3 = _ from c_within x 3, show X8_isWithin y 2 = _ from c_within y 2, show X8_isWithin u 13 = _ from c_within u 13]
      by_cases q1 : inR x 3
      · by_cases q2 : inR y 2
        · rw [decide_eq_true q1, decide_eq_true q2, decide_eq_false (fun q3 => q ⟨q1, q2, q3⟩)]
          rfl
        · rw [decide_eq_true q1, decide_eq_false q2]
          rfl
      · rw [decide_eq_false q1]
        rfl
    · unfold X9_muds
      rw [m_isSheet, show X9_in y.toInt64 0 2 = _ from b_dec (m_inR y 2 2 rfl), show X9_in u.toInt64 0 13 = _ from b_dec (m_inR u 13 13 rfl)]
      by_cases q1 : inR x 3
      · by_cases q2 : inR y 2
        · rw [decide_eq_true q1, decide_eq_true q2, decide_eq_false (fun q3 => q ⟨q1, q2, q3⟩)]
          rfl
        · rw [decide_eq_true q1, decide_eq_false q2]
          rfl
      · rw [decide_eq_false q1]
        rfl
