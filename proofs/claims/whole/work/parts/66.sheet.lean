/-! SHEETS: sheet, cell -/
theorem kS {t : mTX} {k : Nat} (hk : k < 4) : (mKl (LAY t) (45 + 2 * k)).1 = 3 ∧ mRf (LAY t) (45 + 2 * k) 0 = some (46 + 2 * k) ∧ mKl (LAY t) (46 + 2 * k) = (20, 40) := by
  have hc : k = 0 ∨ k = 1 ∨ k = 2 ∨ k = 3 := by omega
  rcases hc with rfl | rfl | rfl | rfl <;> exact ⟨rfl, rfl, rfl⟩
def SHK (k a n : Nat) (f : Nat → Int32) (s : mSG) : Prop := a = 0 ∧ s.1 (45 + 2 * k) 1 = -1 ∧ s.1 80 k = 0 ∨ (1 ≤ a ∧ a ≤ 3 ∧ n ≤ 40 ∧ s.1 (45 + 2 * k) 1 = nI (a - 1) ∧ s.1 (45 + 2 * k) 2 = nI n ∧ s.1 80 k = 1 ∧ s.1 81 k = nI (a - 1) ∧ s.1 82 k = nI n ∧ ∀ i, i < n → s.1 (46 + 2 * k) i = f i ∧ s.1 83 (40 * k + i) = f i)
theorem SH_upd {sk sn : Nat → Nat} {si : Nat → Nat → Int32} {s s' : mSG} {k a n : Nat} {f : Nat → Int32} (h : SH sk sn si s) (hq : ∀ j, s'.2.1 24 j = s.2.1 24 j) (ho : ∀ j, j < 4 → j ≠ k → s'.1 (45 + 2 * j) = s.1 (45 + 2 * j) ∧ s'.1 (46 + 2 * j) = s.1 (46 + 2 * j) ∧ s'.1 80 j = s.1 80 j ∧ s'.1 81 j = s.1 81 j ∧ s'.1 82 j = s.1 82 j ∧ ∀ i, i < 40 → s'.1 83 (40 * j + i) = s.1 83 (40 * j + i)) (new : SHK k a n f s') : SH (fun j => if j = k then a else sk j) (fun j => if j = k then n else sn j) (fun j i => if j = k then f i else si j i) s' := by
  intro j hj
  refine ⟨by rw [hq]; exact (h j hj).1, ?_⟩
  by_cases q : j = k
  · subst q
    simp only [if_true]
    exact new
  · simp only [q, if_false]
    obtain ⟨w1, w2, w3, w4, w5, w6⟩ := ho j hj q
    rcases (h j hj).2 with ⟨a1, a2, a3⟩ | ⟨a1, a2, a3, a4, a5, a6, a7, a8, a9⟩
    · exact Or.inl ⟨a1, by rw [w1]; exact a2, by rw [w3]; exact a3⟩
    · exact Or.inr ⟨a1, a2, a3, by rw [w1]; exact a4, by rw [w1]; exact a5, by rw [w3]; exact a6, by rw [w4]; exact a7, by rw [w5]; exact a8, fun i hi => by rw [w2, w6 i (by omega)]; exact a9 i hi⟩
def Wsh : List (Nat × Option Nat) := [(45, none), (46, none), (47, none), (48, none), (49, none), (50, none), (51, none), (52, none), (80, none), (81, none), (82, none), (83, none)]
theorem IV_sh {t : mTX} {tc : Nat} {V : mVT} {A : Ab} {hk : Bool} {K : Ab} {ts : Nat} {tp sk sn sk' sn' : Nat → Nat} {si si' : Nat → Nat → Int32} {s s' : mSG} (h : IV t tc V A hk K ts tp sk sn si s) (f : Fr Wsh s s') (hs : SH sk' sn' si' s') : IV t tc V A hk K ts tp sk' sn' si' s' := by
  obtain ⟨a, b, c, d, e, p, z⟩ := h
  have o := OT_k ⟨a, p, z⟩ f rfl rfl
  exact ⟨o.1, NW_k b f rfl, KP_k c f rfl, TP_k d f rfl, hs, o.2.1, o.2.2⟩
theorem Fr_rows {s s' : mSG} {W : List (Nat × Option Nat)} (h : ∀ a, (∀ k, mW W a k = true) ∨ s'.1 a = s.1 a) (h2 : s'.2 = s.2) : Fr W s s' := fun a k hk => by
  refine ⟨?_, by rw [h2], by rw [h2]⟩
  rcases h a with q | q
  · rw [q k] at hk; cases hk
  · rw [q]
theorem mW_sh {k : Nat} (hk : k < 4) (j : Nat) : mW Wsh (45 + 2 * k) j = true ∧ mW Wsh (46 + 2 * k) j = true := by
  have hc : k = 0 ∨ k = 1 ∨ k = 2 ∨ k = 3 := by omega
  rcases hc with rfl | rfl | rfl | rfl <;> exact ⟨rfl, rfl⟩
theorem c_fill {t : mTX} {a n : Nat} (h : mKl (LAY t) a = (20, n)) (hn : n < 1000) (v : Int32) (s0 : mSG) : ∃ s', J7_fill t a v s0 = some s' ∧ (∀ i, i < n → s'.1 a i = v) ∧ (∀ b, b ≠ a → s'.1 b = s0.1 b) ∧ s'.2 = s0.2 := by
  unfold J7_fill
  rw [h, if_pos rfl]
  have key : ∃ e, J7_fill_l5 t a v (Int32.ofNat n) (0, s0) = some e ∧ ((∀ i, i < n → e.1 a i = v) ∧ (∀ b, b ≠ a → e.1 b = s0.1 b) ∧ e.2 = s0.2) := by
    unfold J7_fill_l5
    refine lpN (fun i (x : Int32 × mSG) => x.1 = nI i ∧ (∀ j, j < i → x.2.1 a j = v) ∧ (∀ b, b ≠ a → x.2.1 b = s0.1 b) ∧ x.2.2 = s0.2) (fun e : mSG => (∀ i, i < n → e.1 a i = v) ∧ (∀ b, b ≠ a → e.1 b = s0.1 b) ∧ e.2 = s0.2) n (by unfold mFU; omega) ?_ ?_ (k := 0) (by omega) (x := (0, s0)) ⟨rfl, fun j hj => absurd hj (Nat.not_lt_zero j), fun _ _ => rfl, rfl⟩
    · intro i x hi hx
      obtain ⟨y, s⟩ := x
      obtain ⟨e, r, g, g2⟩ := hx
      have e : y = nI i := e
      subst e
      have r : ∀ j, j < i → s.1 a j = v := r
      have g : ∀ b, b ≠ a → s.1 b = s0.1 b := g
      have g2 : s.2 = s0.2 := g2
      refine ⟨(nI (i + 1), sI s a i v), ?_, rfl, fun j hj => ?_, fun b hb => ?_, g2⟩
      · show J7_fill_b5 t a v (nI n) (nI i) s = _
        unfold J7_fill_b5
        rw [if_neg (nI_ge hi (by omega)), h, if_pos ⟨rfl, gl_inb hi (by omega)⟩, nl_cl (by omega), nI_1]
      · show (sI s a i v).1 a j = v
        by_cases q : j = i
        · subst q; rw [sI_same]
        · rw [sI_oth q]; exact r j (by omega)
      · rw [← g b hb]
        funext c
        show (sI s a i v).1 b c = s.1 b c
        rw [sI_adr hb]
    · intro x hx
      obtain ⟨y, s⟩ := x
      obtain ⟨e, r, g, g2⟩ := hx
      have e : y = nI n := e
      subst e
      refine ⟨s, ?_, r, g, g2⟩
      show J7_fill_b5 t a v (nI n) (nI n) s = _
      unfold J7_fill_b5
      rw [if_pos (nI_le (Nat.le_refl _) (by omega))]
  obtain ⟨e, he, hq⟩ := key
  refine ⟨e, ?_, hq⟩
  show (J7_fill_l5 t a v (Int32.ofNat n) (0, s0)).bind _ = _
  rw [ob he]
theorem c_become {t : mTX} {k n : Nat} (hk : k < 4) (hn : n ≤ 40) (a : Int32) (s : mSG) : ∃ s', X4_become t (45 + 2 * k) a (nI n) s = some s' ∧ s'.1 (45 + 2 * k) 1 = a ∧ s'.1 (45 + 2 * k) 2 = nI n ∧ (∀ i, i < 40 → s'.1 (46 + 2 * k) i = 0) ∧ (∀ b, b ≠ 45 + 2 * k → b ≠ 46 + 2 * k → s'.1 b = s.1 b) ∧ s'.2 = s.2 := by
  unfold X4_become
  obtain ⟨k1, k2, k3⟩ := kS (t := t) hk
  rw [if_pos k1, if_pos k1, if_pos k1, ob k2, show X8_bounded (nI n) 0 40 = nI n from (c_bnd (l := 0) (m := 40) (by omega) (by omega) (by omega)).trans (congrArg nI (by omega))]
  obtain ⟨s', e, g1, g2, g3⟩ := c_fill (t := t) k3 (by omega) 0 (sI (sI s (45 + 2 * k) 1 a) (45 + 2 * k) 2 (nI n))
  rw [ob e]
  refine ⟨s', rfl, ?_, ?_, g1, fun b hb hb' => ?_, g3⟩
  · rw [g2 _ (by omega), sI_oth (by decide), sI_same]
  · rw [g2 _ (by omega), sI_same]
  · rw [g2 b hb']
    funext c
    rw [sI_adr hb, sI_adr hb]
theorem m_sheetL {k n j : Nat} (hk : k < 4) (hn : n ≤ 40) (hj : j ≤ 2) (s0 : mSG) : ∃ e, X9_sheet_l77 (nI k) (nI j) (nI n) (0, s0) = some e ∧ ((∀ i, i < n → e.1 83 (40 * k + i) = 0) ∧ (∀ c, c < 40 * k ∨ 40 * k + n ≤ c → e.1 83 c = s0.1 83 c) ∧ (∀ b, b ≠ 83 → e.1 b = s0.1 b)) := by
  unfold X9_sheet_l77
  refine lpN (fun i (x : Int32 × mSG) => x.1 = nI i ∧ (∀ c, c < i → x.2.1 83 (40 * k + c) = 0) ∧ (∀ c, c < 40 * k ∨ 40 * k + n ≤ c → x.2.1 83 c = s0.1 83 c) ∧ (∀ b, b ≠ 83 → x.2.1 b = s0.1 b)) _ n (by unfold mFU; omega) ?_ ?_ (k := 0) (by omega) (x := (0, s0)) ⟨rfl, fun j hj => absurd hj (Nat.not_lt_zero j), fun _ _ => rfl, fun _ _ => rfl⟩
  · intro i x hi hx
    obtain ⟨y, s⟩ := x
    obtain ⟨e, r, g, g2⟩ := hx
    have e : y = nI i := e
    subst e
    have r : ∀ c, c < i → s.1 83 (40 * k + c) = 0 := r
    have g : ∀ c, c < 40 * k ∨ 40 * k + n ≤ c → s.1 83 c = s0.1 83 c := g
    have g2 : ∀ b, b ≠ 83 → s.1 b = s0.1 b := g2
    refine ⟨(nI (i + 1), sI s 83 (40 * k + i) 0), ?_, rfl, fun c hc => ?_, fun c hc => ?_, fun b hb => ?_⟩
    · show X9_sheet_b77 (nI k) (nI j) (nI n) (nI i) s = _
      unfold X9_sheet_b77
      rw [if_neg (nI_ge hi (by omega)), if_neg (nI_pos (by omega)), show (40 : Int32) * nI k = nI (40 * k) from pk_mul 40 k, nI_add, if_pos (gl_inb (show 40 * k + i < 160 by omega) (by omega)), nl_cl (by omega), nI_1]
    · show (sI s 83 (40 * k + i) 0).1 83 (40 * k + c) = 0
      by_cases q : c = i
      · subst q; rw [sI_same]
      · rw [sI_oth (by omega)]; exact r c (by omega)
    · show (sI s 83 (40 * k + i) 0).1 83 c = _
      rw [sI_oth (by omega)]
      exact g c hc
    · rw [← g2 b hb]
      funext c
      show (sI s 83 (40 * k + i) 0).1 b c = s.1 b c
      rw [sI_adr hb]
  · intro x hx
    obtain ⟨y, s⟩ := x
    obtain ⟨e, r, g, g2⟩ := hx
    have e : y = nI n := e
    subst e
    refine ⟨s, ?_, r, g, g2⟩
    show X9_sheet_b77 (nI k) (nI j) (nI n) (nI n) s = _
    unfold X9_sheet_b77
    rw [if_pos (nI_le (Nat.le_refl _) (by omega))]
theorem m_sheetOff (k n : Int32) (s : mSG) : X9_sheet_l77 k (-1) n (0, s) = some s := by
  unfold X9_sheet_l77
  refine it_r (by unfold mFU; omega) ?_
  show X9_sheet_b77 k (-1) n 0 s = _
  unfold X9_sheet_b77
  rw [if_pos (show (-1 : Int32) < 0 by decide)]
  split <;> rfl
section
variable {t : mTX} {tc : Nat} {V : mVT} {A : Ab} {hk : Bool} {K : Ab} {ts : Nat} {tp sk sn : Nat → Nat} {si : Nat → Nat → Int32} {s : mSG}
theorem L_sheetOff (h : IV t tc V A hk K ts tp sk sn si s) {k : Nat} (hk4 : k < 4) (z : Int32) : ∃ v s1 s2, X8_sheet t (nI k) (-1) z s = some (v, s1) ∧ X9_sheet (nI k) (-1) z s1 = some (v, s2) ∧ INV t s2 := by
  have hv := h
  obtain ⟨a, b, c, d, e, p, zz⟩ := h
  obtain ⟨s1, e1, g1, g2, g3, g4, g5⟩ := c_become (t := t) (n := 0) hk4 (by omega) (-1) s
  have q3 : inR (nI k) 3 := (inR_nI (by omega) (by omega)).mpr (by omega)
  have x1 : X8_sheet t (nI k) (-1) z s = some (1, s1) := by
    unfold X8_sheet
    rw [show X8_isWithin (nI k) 3 = _ from c_within (nI k) 3, decide_eq_true q3, if_pos rfl, if_neg (by decide), if_pos (by decide), if_pos rfl, if_pos (gl_inb (show k < 4 by omega) (by omega)), nl_cl (by omega), ob (e k hk4).1, if_pos (kS hk4).1]
    rw [ob (show X4_become t (45 + 2 * k) (-1) 0 s = some s1 from e1)]
  have x2 : X9_sheet (nI k) (-1) z s1 = some (1, sI (sI (sI s1 80 k 0) 81 k (-1)) 82 k z) := by
    unfold X9_sheet X9_sheet_j34 X9_sheet_j45 X9_sheet_j59
    rw [m_isSheet, decide_eq_true q3, if_pos rfl, show X9_in (-1 : Int32).toInt64 (-1) 2 = true from by decide, if_pos rfl, if_pos (by decide), if_pos (by decide), if_pos (by decide), if_pos ⟨gl_inb (show k < 4 by omega) (by omega), Or.inl rfl⟩, if_pos (gl_inb (show k < 4 by omega) (by omega)), nl_cl (by omega), ob (m_sheetOff _ _ _)]
  have f1 : Fr Wsh s s1 := Fr_rows (fun b => by
    by_cases q1 : b = 45 + 2 * k
    · exact Or.inl (fun j => by rw [q1]; exact (mW_sh hk4 j).1)
    · by_cases q2 : b = 46 + 2 * k
      · exact Or.inl (fun j => by rw [q2]; exact (mW_sh hk4 j).2)
      · exact Or.inr (g4 b q1 q2)) g5
  have f2 := (FR_X9_sheet _ _ _ _ _ x2).mono (l' := Wsh) rfl
  have f := f1.tr f2
  refine ⟨1, s1, _, x1, x2, tc, V, A, hk, K, ts, tp, _, _, _, IV_sh hv f (SH_upd (k := k) (a := 0) (n := 0) (f := fun _ => 0) e (fun j => (f 24 j rfl).2.1) (fun j hj hjk => ?_) (Or.inl ⟨rfl, ?_, ?_⟩))⟩
  · have n1 : ∀ b, b ≠ 80 → b ≠ 81 → b ≠ 82 → (sI (sI (sI s1 80 k 0) 81 k (-1)) 82 k z).1 b = s1.1 b := fun b h0 h1 h2 => by
      funext c
      rw [sI_adr h2, sI_adr h1, sI_adr h0]
    refine ⟨?_, ?_, ?_, ?_, ?_, fun i hi => ?_⟩
    · rw [n1 _ (by omega) (by omega) (by omega), g4 _ (by omega) (by omega)]
    · rw [n1 _ (by omega) (by omega) (by omega), g4 _ (by omega) (by omega)]
    · rw [sI_adr (by decide), sI_adr (by decide), sI_oth hjk, g4 _ (by omega) (by omega)]
    · rw [sI_adr (by decide), sI_oth hjk, sI_adr (by decide), g4 _ (by omega) (by omega)]
    · rw [sI_oth hjk, sI_adr (by decide), sI_adr (by decide), g4 _ (by omega) (by omega)]
    · rw [n1 _ (by omega) (by omega) (by omega), g4 _ (by omega) (by omega)]
  · rw [sI_adr (by omega), sI_adr (by omega), sI_adr (by omega)]
    exact g1
  · rw [sI_adr (by decide), sI_adr (by decide), sI_same]
theorem L_sheetOn (h : IV t tc V A hk K ts tp sk sn si s) {k j n : Nat} (hk4 : k < 4) (hj : j ≤ 2) (hn : n ≤ 40) : ∃ v s1 s2, X8_sheet t (nI k) (nI j) (nI n) s = some (v, s1) ∧ X9_sheet (nI k) (nI j) (nI n) s1 = some (v, s2) ∧ INV t s2 := by
  have hv := h
  obtain ⟨a, b, c, d, e, p, zz⟩ := h
  obtain ⟨s1, e1, g1, g2, g3, g4, g5⟩ := c_become (t := t) (n := n) hk4 hn (nI j) s
  have q3 : inR (nI k) 3 := (inR_nI (by omega) (by omega)).mpr (by omega)
  have nm : ∀ i : Nat, 0 < i → i < 3 → ¬ nI j = -nI i := fun i h0 h3 => by rw [nl_eqN (by omega) h0 (by omega)]; exact id
  have x1 : X8_sheet t (nI k) (nI j) (nI n) s = some (1, s1) := by
    unfold X8_sheet
    rw [show X8_isWithin (nI k) 3 = _ from c_within (nI k) 3, decide_eq_true q3, if_pos rfl, if_neg (show ¬ nI j < -1 from by show ¬ nI j < -nI 1; rw [nl_ltN (by omega) (by omega)]; exact id), if_pos (show nI j < 3 from nI_lt (b := 3) (by omega) (by omega)), if_neg (show ¬ nI j = -1 from nm 1 (by omega) (by omega)), if_pos (show nI n ≤ 40 from nI_le (b := 40) hn (by omega)), if_pos (nI_pos' (by omega)), if_pos (gl_inb (show k < 4 by omega) (by omega)), nl_cl (show k < 2147483648 by omega), ob (e k hk4).1, if_pos (kS hk4).1, ob e1]
  obtain ⟨s2, e2, w1, w2, w3⟩ := m_sheetL hk4 hn hj (sI (sI (sI s1 80 k 1) 81 k (nI j)) 82 k (nI n))
  have x2 : X9_sheet (nI k) (nI j) (nI n) s1 = some (1, s2) := by
    unfold X9_sheet X9_sheet_j34 X9_sheet_j45 X9_sheet_j59
    have hin : X9_in (nI j).toInt64 (-1) 2 = true := by
      rw [b_dec (m_in (nI j) (-1) 2 (-1) 2 rfl rfl)]
      refine decide_eq_true ⟨?_, nI_le (b := 2) hj (by omega)⟩
      show -nI 1 ≤ nI j
      rw [nl_Nle (by omega) (by omega)]
      trivial
    rw [m_isSheet, decide_eq_true q3, if_pos rfl, hin, if_pos rfl, if_neg (nI_pos (by omega)), if_pos (show nI n ≤ 40 from nI_le (b := 40) hn (by omega)), if_neg (nI_pos (by omega)), if_pos (nI_pos' (by omega)), if_neg (nI_pos (by omega)), if_pos ⟨gl_inb (show k < 4 by omega) (by omega), Or.inr rfl⟩, if_pos (gl_inb (show k < 4 by omega) (by omega)), nl_cl (show k < 2147483648 by omega), ob e2]
  have f1 : Fr Wsh s s1 := Fr_rows (fun b => by
    by_cases q1 : b = 45 + 2 * k
    · exact Or.inl (fun j => by rw [q1]; exact (mW_sh hk4 j).1)
    · by_cases q2 : b = 46 + 2 * k
      · exact Or.inl (fun j => by rw [q2]; exact (mW_sh hk4 j).2)
      · exact Or.inr (g4 b q1 q2)) g5
  have f2 := (FR_X9_sheet _ _ _ _ _ x2).mono (l' := Wsh) rfl
  have f := f1.tr f2
  refine ⟨1, s1, _, x1, x2, tc, V, A, hk, K, ts, tp, _, _, _, IV_sh hv f (SH_upd (k := k) (a := j + 1) (n := n) (f := fun _ => 0) e (fun j => (f 24 j rfl).2.1) (fun i hi hik => ?_) (Or.inr ⟨by omega, by omega, hn, ?_, ?_, ?_, ?_, ?_, fun i hi => ?_⟩))⟩
  · have n1 : ∀ b, b ≠ 80 → b ≠ 81 → b ≠ 82 → b ≠ 83 → s2.1 b = s1.1 b := fun b h0 h1 h2 h3 => by
      rw [w3 b h3]
      funext c
      rw [sI_adr h2, sI_adr h1, sI_adr h0]
    refine ⟨?_, ?_, ?_, ?_, ?_, fun l hl => ?_⟩
    · rw [n1 _ (by omega) (by omega) (by omega) (by omega), g4 _ (by omega) (by omega)]
    · rw [n1 _ (by omega) (by omega) (by omega) (by omega), g4 _ (by omega) (by omega)]
    · rw [w3 80 (by decide), sI_adr (by decide), sI_adr (by decide), sI_oth hik, g4 _ (by omega) (by omega)]
    · rw [w3 81 (by decide), sI_adr (by decide), sI_oth hik, sI_adr (by decide), g4 _ (by omega) (by omega)]
    · rw [w3 82 (by decide), sI_oth hik, sI_adr (by decide), sI_adr (by decide), g4 _ (by omega) (by omega)]
    · rw [w2 _ (by omega), sI_adr (by decide), sI_adr (by decide), sI_adr (by decide), g4 _ (by omega) (by omega)]
  · rw [w3 _ (by omega), sI_adr (by omega), sI_adr (by omega), sI_adr (by omega)]
    exact g1
  · rw [w3 _ (by omega), sI_adr (by omega), sI_adr (by omega), sI_adr (by omega)]
    exact g2
  · rw [w3 80 (by decide), sI_adr (by decide), sI_adr (by decide), sI_same]
  · rw [w3 81 (by decide), sI_adr (by decide), sI_same]
    rfl
  · rw [w3 82 (by decide), sI_same]
  · refine ⟨?_, w1 i hi⟩
    rw [w3 _ (by omega), sI_adr (by omega), sI_adr (by omega), sI_adr (by omega)]
    exact g3 i (by omega)
end
theorem L_sheet {t : mTX} {s : mSG} (h : INV t s) (x y z : Int32) : ∃ v s1 s2, X8_sheet t x y z s = some (v, s1) ∧ X9_sheet x y z s1 = some (v, s2) ∧ INV t s2 := by
  have hI := h
  obtain ⟨tc, V, A, hk, K, ts, tp, sk, sn, si, hv⟩ := h
  by_cases q : inR x 3
  · obtain ⟨k, hk3, rfl⟩ := inR_of q (by omega)
    by_cases q1 : y = -1
    · subst q1
      exact L_sheetOff hv (by omega) z
    · by_cases q2 : inR y 2
      · obtain ⟨j, hj, rfl⟩ := inR_of q2 (by omega)
        by_cases q3 : inR z 40
        · obtain ⟨n, hn, rfl⟩ := inR_of q3 (by omega)
          exact L_sheetOn hv (by omega) hj hn
        · have hin : X9_in (nI j).toInt64 (-1) 2 = true := by
            rw [b_dec (m_in (nI j) (-1) 2 (-1) 2 rfl rfl)]
            refine decide_eq_true ⟨?_, nI_le (b := 2) hj (by omega)⟩
            show -nI 1 ≤ nI j
            rw [nl_Nle (by omega) (by omega)]
            trivial
          by_cases q4 : z ≤ 40
          · have q5 : ¬ 0 ≤ z := fun g => q3 ⟨g, q4⟩
            refine ⟨-14, s, s, ?_, ?_, hI⟩
            · unfold X8_sheet
              rw [show X8_isWithin (nI k) 3 = _ from c_within (nI k) 3, decide_eq_true q, if_pos rfl, if_neg (show ¬ nI j < -1 from by show ¬ nI j < -nI 1; rw [nl_ltN (by omega) (by omega)]; exact id), if_pos (show nI j < 3 from nI_lt (b := 3) (by omega) (by omega)), if_neg q1, if_pos q4, if_neg q5]
            · unfold X9_sheet X9_sheet_j34
              rw [m_isSheet, decide_eq_true q, if_pos rfl, hin, if_pos rfl, if_neg (nI_pos (by omega)), if_pos q4, if_neg (nI_pos (by omega)), if_neg q5]
          · refine ⟨-2, s, s, ?_, ?_, hI⟩
            · unfold X8_sheet
              rw [show X8_isWithin (nI k) 3 = _ from c_within (nI k) 3, decide_eq_true q, if_pos rfl, if_neg (show ¬ nI j < -1 from by show ¬ nI j < -nI 1; rw [nl_ltN (by omega) (by omega)]; exact id), if_pos (show nI j < 3 from nI_lt (b := 3) (by omega) (by omega)), if_neg q1, if_neg q4]
            · unfold X9_sheet
              rw [m_isSheet, decide_eq_true q, if_pos rfl, hin, if_pos rfl, if_neg (nI_pos (by omega)), if_neg q4]
      · have hy : ¬ ((-1 : Int32) ≤ y ∧ y ≤ 2) := fun g => by
          have g1 := g.1
          have g2 := g.2
          rw [Int32.le_iff_toInt_le] at g1 g2
          have e1 : (-1 : Int32).toInt = -1 := rfl
          have e2 : (2 : Int32).toInt = 2 := rfl
          have n1 : y.toInt ≠ -1 := fun g => q1 (Int32.toInt_inj.mp (g.trans e1.symm))
          refine q2 ⟨?_, g.2⟩
          rw [Int32.le_iff_toInt_le]
          have e0 : (0 : Int32).toInt = 0 := rfl
          omega
        refine ⟨-2, s, s, ?_, ?_, hI⟩
        · unfold X8_sheet
          rw [show X8_isWithin (nI k) 3 = _ from c_within (nI k) 3, decide_eq_true q, if_pos rfl]
          by_cases g1 : y < -1
          · rw [if_pos g1]
          · rw [if_neg g1, if_neg (fun g2 : y < 3 => hy ?_)]
            rw [Int32.lt_iff_toInt_lt] at g1 g2
            rw [Int32.le_iff_toInt_le, Int32.le_iff_toInt_le]
            have e1 : (-1 : Int32).toInt = -1 := rfl
            have e2 : (2 : Int32).toInt = 2 := rfl
            have e3 : (3 : Int32).toInt = 3 := rfl
            omega
        · unfold X9_sheet
          rw [m_isSheet, decide_eq_true q, if_pos rfl, b_dec (m_in y (-1) 2 (-1) 2 rfl rfl), decide_eq_false hy]
          rfl
  · refine ⟨-2, s, s, ?_, ?_, hI⟩
    · unfold X8_sheet
      rw [show X8_isWithin x 3 = _ from c_within x 3, decide_eq_false q]
      rfl
    · unfold X9_sheet
      rw [m_isSheet, decide_eq_false q]
      rfl
