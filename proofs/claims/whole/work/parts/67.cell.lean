/-! cell, copy -/
def cvt (a : Nat) (v : Int32) : Int32 := if a = 1 then v.toInt8.toInt32 else if a = 2 then v.toInt16.toInt32 else v
theorem c_missY {t : mTX} {s : mSG} {k : Nat} (hk : k < 4) (h : s.1 (45 + 2 * k) 1 = -1) : X4_isMissing t (45 + 2 * k) s = some true := by
  unfold X4_isMissing
  rw [if_pos (kS hk).1, if_pos h]
theorem c_missN {t : mTX} {s : mSG} {k a : Nat} (hk : k < 4) (ha : a ≤ 3) (h : s.1 (45 + 2 * k) 1 = nI (a - 1)) : X4_isMissing t (45 + 2 * k) s = some false := by
  unfold X4_isMissing
  rw [if_pos (kS hk).1, h, if_neg (show ¬ nI (a - 1) = -1 from gl_neN (b := 1) rfl (by omega) (by omega) (by omega))]
theorem c_shPut {t : mTX} {s : mSG} {k a n i : Nat} (hk : k < 4) (ha : 1 ≤ a) (ha3 : a ≤ 3) (hn : n ≤ 40) (hi : i < n) (h1 : s.1 (45 + 2 * k) 1 = nI (a - 1)) (h2 : s.1 (45 + 2 * k) 2 = nI n) (v : Int32) : X4_put t (45 + 2 * k) (nI i) v s = some (sI s (46 + 2 * k) i (cvt a v)) := by
  unfold X4_put cvt
  obtain ⟨k1, k2, k3⟩ := kS (t := t) hk
  rw [if_pos k1, h2, c_withinP _ (by omega), decide_eq_true ((inP_nI (show i < 2147483648 by omega) (show n < 2147483648 by omega)).mpr hi), if_pos rfl, if_pos k1, ob k2, if_pos k1, h1, k3, nl_cl (by omega)]
  have hcn : ((20, 40) : Nat × Nat).1 = 20 ∧ mInb (nI i) ((20, 40) : Nat × Nat).2 = true := ⟨rfl, gl_inb (show i < 40 by omega) (by omega)⟩
  have hc : a = 1 ∨ a = 2 ∨ a = 3 := by omega
  rcases hc with rfl | rfl | rfl
  · rw [if_pos (show nI (1 - 1) = 0 from rfl), if_pos hcn, if_pos rfl]
  · rw [if_neg (show ¬ nI (2 - 1) = 0 by decide), if_pos k1, if_pos (show nI (2 - 1) = 1 by decide), if_pos hcn, if_neg (show ¬ (2 : Nat) = 1 by decide), if_pos rfl]
  · rw [if_neg (show ¬ nI (3 - 1) = 0 by decide), if_pos k1, if_neg (show ¬ nI (3 - 1) = 1 by decide), if_pos hcn, if_neg (show ¬ (3 : Nat) = 1 by decide), if_neg (show ¬ (3 : Nat) = 2 by decide)]
theorem L_cell {t : mTX} {s : mSG} (h : INV t s) (x y z : Int32) : ∃ v s1 s2, X8_cell t x y z s = some (v, s1) ∧ X9_cell x y z s1 = some (v, s2) ∧ INV t s2 := by
  have hI := h
  obtain ⟨tc, V, A, hk, K, ts, tp, sk, sn, si, hv⟩ := h
  have hw := hv
  obtain ⟨a, b, c, d, e, p, zz⟩ := hw
  by_cases q : inR x 3
  · obtain ⟨k, hk3, rfl⟩ := inR_of q (by omega)
    have hk4 : k < 4 := by omega
    have p8 : ∀ s0 : mSG, s0.2.1 24 k = some (45 + 2 * k) → X8_cell t (nI k) y z s0 = (X4_isMissing t (45 + 2 * k) s0).bind (fun r2 => if r2 = true then some ((-11), s0) else if (mKl (LAY t) (45 + 2 * k)).1 = 3 then (if X8_isWithin y ((s0.1 (45 + 2 * k) 2) - 1) = true then (if (mKl (LAY t) (45 + 2 * k)).1 = 3 then (X4_put t (45 + 2 * k) y z s0).bind (fun r3 => some (1, r3)) else none) else some ((-12), s0)) else none) := fun s0 h0 => by
      unfold X8_cell
      rw [show X8_isWithin (nI k) 3 = _ from c_within (nI k) 3, decide_eq_true q, if_pos rfl, if_pos (gl_inb hk4 (by omega)), nl_cl (by omega), ob h0, if_pos (kS hk4).1]
    rw [p8 s (e k hk4).1]
    rcases (e k hk4).2 with ⟨a1, a2, a3⟩ | ⟨a1, a2, a3, a4, a5, a6, a7, a8, a9⟩
    · refine ⟨-11, s, s, ?_, ?_, hI⟩
      · rw [ob (c_missY hk4 a2)]
        rfl
      · unfold X9_cell
        rw [m_isSheet, decide_eq_true q, if_pos rfl, if_pos (gl_inb hk4 (by omega)), nl_cl (by omega), if_pos a3]
    · by_cases q2 : inP y (sn k)
      · obtain ⟨i, hi, rfl⟩ := inP_of q2 (by omega)
        have x2 : X9_cell (nI k) (nI i) z (sI s (46 + 2 * k) i (cvt (sk k) z)) = some (1, sI (sI s (46 + 2 * k) i (cvt (sk k) z)) 83 (40 * k + i) (cvt (sk k) z)) := by
          unfold X9_cell
          rw [m_isSheet, decide_eq_true q, if_pos rfl, if_pos (gl_inb hk4 (by omega)), nl_cl (show k < 2147483648 by omega), sI_adr (by omega), a6, if_neg (by decide), sI_adr (by omega), a8, m_inP _ (by omega), decide_eq_true q2, if_pos rfl, sI_adr (by omega), a7, show (40 : Int32) * nI k = nI (40 * k) from pk_mul 40 k, nI_add, if_pos (gl_inb (show 40 * k + i < 160 by omega) (by omega)), nl_cl (by omega), if_pos (gl_inb (show 40 * k + i < 160 by omega) (by omega)), if_pos (gl_inb (show 40 * k + i < 160 by omega) (by omega))]
          have hc : sk k = 1 ∨ sk k = 2 ∨ sk k = 3 := by omega
          unfold cvt
          rcases hc with g | g | g
          · rw [g, if_pos (by decide), if_pos rfl]
          · rw [g, if_neg (by decide), if_pos (by decide), if_neg (by decide), if_pos rfl]
          · rw [g, if_neg (by decide), if_neg (by decide), if_neg (by decide), if_neg (by decide)]
        have f1 : Fr Wsh s (sI s (46 + 2 * k) i (cvt (sk k) z)) := Fr.rf.wI (mW_sh hk4 i).2
        have f2 := (FR_X9_cell _ _ _ _ _ x2).mono (l' := Wsh) rfl
        have f := f1.tr f2
        refine ⟨1, _, _, ?_, x2, tc, V, A, hk, K, ts, tp, _, _, _, IV_sh hv f (SH_upd (k := k) (a := sk k) (n := sn k) (f := fun j => if j = i then cvt (sk k) z else si k j) e (fun j => (f 24 j rfl).2.1) (fun j hj hjk => ?_) (Or.inr ⟨a1, a2, a3, ?_, ?_, ?_, ?_, ?_, fun j hj => ?_⟩))⟩
        · rw [ob (c_missN hk4 a2 a4), if_neg (by decide), if_pos (kS hk4).1, a5, c_withinP _ (by omega), decide_eq_true q2, if_pos rfl, if_pos (kS hk4).1, ob (c_shPut hk4 a1 a2 a3 hi a4 a5 z)]
        · have n1 : ∀ b, b ≠ 46 + 2 * k → b ≠ 83 → (sI (sI s (46 + 2 * k) i (cvt (sk k) z)) 83 (40 * k + i) (cvt (sk k) z)).1 b = s.1 b := fun b h0 h1 => by
            funext c
            rw [sI_adr h1, sI_adr h0]
          refine ⟨n1 _ (by omega) (by omega), n1 _ (by omega) (by omega), ?_, ?_, ?_, fun l hl => ?_⟩
          · rw [n1 _ (by omega) (by omega)]
          · rw [n1 _ (by omega) (by omega)]
          · rw [n1 _ (by omega) (by omega)]
          · rw [sI_oth (by omega), sI_adr (by omega)]
        · rw [sI_adr (by omega), sI_adr (by omega)]; exact a4
        · rw [sI_adr (by omega), sI_adr (by omega)]; exact a5
        · rw [sI_adr (by omega), sI_adr (by omega)]; exact a6
        · rw [sI_adr (by omega), sI_adr (by omega)]; exact a7
        · rw [sI_adr (by omega), sI_adr (by omega)]; exact a8
        · by_cases qj : j = i
          · subst qj
            dsimp only
            rw [if_pos rfl]
            refine ⟨?_, ?_⟩
            · rw [sI_adr (by omega), sI_same]
            · rw [sI_same]
          · dsimp only
            rw [if_neg qj]
            refine ⟨?_, ?_⟩
            · rw [sI_adr (by omega), sI_oth qj]; exact (a9 j hj).1
            · rw [sI_oth (by omega), sI_adr (by omega)]; exact (a9 j hj).2
      · refine ⟨-12, s, s, ?_, ?_, hI⟩
        · rw [ob (c_missN hk4 a2 a4), if_neg (by decide), if_pos (kS hk4).1, a5, c_withinP _ (by omega), decide_eq_false q2]
          rfl
        · unfold X9_cell
          rw [m_isSheet, decide_eq_true q, if_pos rfl, if_pos (gl_inb hk4 (by omega)), nl_cl (show k < 2147483648 by omega), a6, if_neg (by decide), a8, m_inP _ (by omega), decide_eq_false q2]
          rfl
  · refine ⟨-2, s, s, ?_, ?_, hI⟩
    · unfold X8_cell
      rw [show X8_isWithin x 3 = _ from c_within x 3, decide_eq_false q]
      rfl
    · unfold X9_cell
      rw [m_isSheet, decide_eq_false q]
      rfl
/-! copy -/
theorem subT {n : Nat} {x : Int32} (hn : n ≤ 1000) (hx : 0 ≤ x) : (nI n - x).toInt = (n : Int) - x.toInt := by
  have h1 := Int32.toInt_lt x
  rw [Int32.le_iff_toInt_le] at hx
  have e0 : (0 : Int32).toInt = 0 := rfl
  rw [Int32.toInt_sub, nI_toInt (by omega), Int.bmod_eq_of_le (by omega) (by omega)]
/-- a run of n behind i, within sz -/
def runR (sz : Nat) (x y : Int32) : Prop := 0 ≤ x ∧ 0 ≤ y ∧ x.toInt + y.toInt ≤ sz
theorem c_hasRun {t : mTX} {s : mSG} {k n : Nat} (hk : k < 4) (hn : n ≤ 40) (h2 : s.1 (45 + 2 * k) 2 = nI n) (x y : Int32) : ∃ r, X4_hasRun t (45 + 2 * k) x y s = some r ∧ (r = true ↔ runR n x y) := by
  unfold X4_hasRun runR
  have e0 : (0 : Int32).toInt = 0 := rfl
  by_cases q1 : x < 0
  · refine ⟨false, by rw [if_pos q1], ?_⟩
    rw [Int32.lt_iff_toInt_lt] at q1
    simp only [Int32.le_iff_toInt_le]
    exact ⟨fun g => (by cases g), fun g => by omega⟩
  · by_cases q2 : y < 0
    · refine ⟨false, by rw [if_neg q1, if_pos q2], ?_⟩
      rw [Int32.lt_iff_toInt_lt] at q2
      simp only [Int32.le_iff_toInt_le]
      exact ⟨fun g => (by cases g), fun g => by omega⟩
    · have hx : 0 ≤ x := by rw [Int32.le_iff_toInt_le]; rw [Int32.lt_iff_toInt_lt] at q1; omega
      have hy : 0 ≤ y := by rw [Int32.le_iff_toInt_le]; rw [Int32.lt_iff_toInt_lt] at q2; omega
      have hs := subT (n := n) (by omega) hx
      rw [if_neg q1, if_neg q2, if_pos (kS hk).1, h2]
      by_cases q3 : nI n - x < y
      · refine ⟨false, by rw [if_pos q3], ?_⟩
        rw [Int32.lt_iff_toInt_lt, hs] at q3
        exact ⟨fun g => (by cases g), fun g => by omega⟩
      · refine ⟨true, by rw [if_neg q3], ?_⟩
        rw [Int32.lt_iff_toInt_lt, hs] at q3
        exact ⟨fun _ => ⟨hx, hy, by omega⟩, fun _ => rfl⟩
theorem runR_of {n : Nat} {x y : Int32} (hn : n ≤ 40) (h : runR n x y) : ∃ i m, x = nI i ∧ y = nI m ∧ i + m ≤ n := by
  obtain ⟨h1, h2, h3⟩ := h
  have e0 : (0 : Int32).toInt = 0 := rfl
  have g1 := h1
  have g2 := h2
  rw [Int32.le_iff_toInt_le] at g1 g2
  obtain ⟨i, hi, rfl⟩ := inR_of (x := x) (n := 40) ⟨h1, by rw [Int32.le_iff_toInt_le, nI_toInt (by omega)]; omega⟩ (by omega)
  obtain ⟨m, hm, rfl⟩ := inR_of (x := y) (n := 40) ⟨h2, by rw [Int32.le_iff_toInt_le, nI_toInt (by omega)]; omega⟩ (by omega)
  rw [nI_toInt (by omega), nI_toInt (by omega)] at h3
  exact ⟨i, m, rfl, rfl, by omega⟩
/-- the model's loop, upwards -/
theorem m_copyUp {k l i j n : Nat} (hk : k < 4) (hl : l < 4) (hi : i + n ≤ 40) (hj : j + n ≤ 40) (hd : k ≠ l ∨ j ≤ i) (s0 : mSG) : ∃ e, X9_copy_l121 (nI k) (nI i) (nI l) (nI j) (nI n) 0 (0, s0) = some e ∧ ((∀ c, c < n → e.1 83 (40 * l + j + c) = s0.1 83 (40 * k + i + c)) ∧ (∀ c, c < 40 * l + j ∨ 40 * l + j + n ≤ c → e.1 83 c = s0.1 83 c) ∧ (∀ b, b ≠ 83 → e.1 b = s0.1 b)) := by
  unfold X9_copy_l121
  refine lpN (fun r (x : Int32 × mSG) => x.1 = nI r ∧ (∀ c, c < r → x.2.1 83 (40 * l + j + c) = s0.1 83 (40 * k + i + c)) ∧ (∀ c, c < 40 * l + j ∨ 40 * l + j + r ≤ c → x.2.1 83 c = s0.1 83 c) ∧ (∀ b, b ≠ 83 → x.2.1 b = s0.1 b)) _ n (by unfold mFU; omega) ?_ ?_ (k := 0) (by omega) (x := (0, s0)) ⟨rfl, fun j hj => absurd hj (Nat.not_lt_zero j), fun _ _ => rfl, fun _ _ => rfl⟩
  · intro r x hr hx
    obtain ⟨y, s⟩ := x
    obtain ⟨e, g, g1, g2⟩ := hx
    have e : y = nI r := e
    subst e
    have g : ∀ c, c < r → s.1 83 (40 * l + j + c) = s0.1 83 (40 * k + i + c) := g
    have g1 : ∀ c, c < 40 * l + j ∨ 40 * l + j + r ≤ c → s.1 83 c = s0.1 83 c := g1
    have g2 : ∀ b, b ≠ 83 → s.1 b = s0.1 b := g2
    refine ⟨(nI (r + 1), sI s 83 (40 * l + j + r) (s.1 83 (40 * k + i + r))), ?_, rfl, fun c hc => ?_, fun c hc => ?_, fun b hb => ?_⟩
    · show X9_copy_b121 (nI k) (nI i) (nI l) (nI j) (nI n) 0 (nI r) s = _
      unfold X9_copy_b121 X9_copy_j145_121
      rw [if_neg (nI_ge hr (by omega)), if_pos rfl, show (40 : Int32) * nI k = nI (40 * k) from pk_mul 40 k, show (40 : Int32) * nI l = nI (40 * l) from pk_mul 40 l, nI_add, nI_add, nI_add, nI_add, if_pos (gl_inb (show 40 * k + i + r < 160 by omega) (by omega)), if_pos (gl_inb (show 40 * l + j + r < 160 by omega) (by omega)), nl_cl (by omega), nl_cl (by omega), nI_1]
    · show (sI s 83 (40 * l + j + r) (s.1 83 (40 * k + i + r))).1 83 (40 * l + j + c) = _
      by_cases q : c = r
      · subst q
        rw [sI_same]
        exact g1 _ (by omega)
      · rw [sI_oth (by omega)]
        exact g c (by omega)
    · show (sI s 83 (40 * l + j + r) (s.1 83 (40 * k + i + r))).1 83 c = _
      rw [sI_oth (by omega)]
      exact g1 c (by omega)
    · rw [← g2 b hb]
      funext c
      show (sI s 83 (40 * l + j + r) (s.1 83 (40 * k + i + r))).1 b c = s.1 b c
      rw [sI_adr hb]
  · intro x hx
    obtain ⟨y, s⟩ := x
    obtain ⟨e, g, g1, g2⟩ := hx
    have e : y = nI n := e
    subst e
    refine ⟨s, ?_, g, g1, g2⟩
    show X9_copy_b121 (nI k) (nI i) (nI l) (nI j) (nI n) 0 (nI n) s = _
    unfold X9_copy_b121
    rw [if_pos (nI_le (Nat.le_refl _) (by omega))]
/-- downwards -/
theorem m_copyDn {k i j n : Nat} (hk : k < 4) (hi : i + n ≤ 40) (hj : j + n ≤ 40) (hd : i < j) (s0 : mSG) : ∃ e, X9_copy_l121 (nI k) (nI i) (nI k) (nI j) (nI n) 1 (0, s0) = some e ∧ ((∀ c, c < n → e.1 83 (40 * k + j + c) = s0.1 83 (40 * k + i + c)) ∧ (∀ c, c < 40 * k + j ∨ 40 * k + j + n ≤ c → e.1 83 c = s0.1 83 c) ∧ (∀ b, b ≠ 83 → e.1 b = s0.1 b)) := by
  unfold X9_copy_l121
  refine lpN (fun r (x : Int32 × mSG) => x.1 = nI r ∧ (∀ c, c < n → n - r ≤ c → x.2.1 83 (40 * k + j + c) = s0.1 83 (40 * k + i + c)) ∧ (∀ c, c < 40 * k + j + (n - r) ∨ 40 * k + j + n ≤ c → x.2.1 83 c = s0.1 83 c) ∧ (∀ b, b ≠ 83 → x.2.1 b = s0.1 b)) _ n (by unfold mFU; omega) ?_ ?_ (k := 0) (by omega) (x := (0, s0)) ⟨rfl, fun j hj hj' => by omega, fun _ _ => rfl, fun _ _ => rfl⟩
  · intro r x hr hx
    obtain ⟨y, s⟩ := x
    obtain ⟨e, g, g1, g2⟩ := hx
    have e : y = nI r := e
    subst e
    have g : ∀ c, c < n → n - r ≤ c → s.1 83 (40 * k + j + c) = s0.1 83 (40 * k + i + c) := g
    have g1 : ∀ c, c < 40 * k + j + (n - r) ∨ 40 * k + j + n ≤ c → s.1 83 c = s0.1 83 c := g1
    have g2 : ∀ b, b ≠ 83 → s.1 b = s0.1 b := g2
    refine ⟨(nI (r + 1), sI s 83 (40 * k + j + (n - 1 - r)) (s.1 83 (40 * k + i + (n - 1 - r)))), ?_, rfl, fun c hc hc' => ?_, fun c hc => ?_, fun b hb => ?_⟩
    · show X9_copy_b121 (nI k) (nI i) (nI k) (nI j) (nI n) 1 (nI r) s = _
      unfold X9_copy_b121 X9_copy_j145_121
      rw [if_neg (nI_ge hr (by omega)), if_neg (by decide), show nI n - 1 = nI (n - 1) from pk_sub (b := 1) (by omega), pk_sub (show r ≤ n - 1 by omega), show (40 : Int32) * nI k = nI (40 * k) from pk_mul 40 k, nI_add, nI_add, nI_add, nI_add, if_pos (gl_inb (show 40 * k + i + (n - 1 - r) < 160 by omega) (by omega)), if_pos (gl_inb (show 40 * k + j + (n - 1 - r) < 160 by omega) (by omega)), nl_cl (by omega), nl_cl (by omega), nI_1]
    · show (sI s 83 (40 * k + j + (n - 1 - r)) (s.1 83 (40 * k + i + (n - 1 - r)))).1 83 (40 * k + j + c) = _
      by_cases q : c = n - 1 - r
      · rw [q, sI_same]
        exact g1 _ (by omega)
      · rw [sI_oth (by omega)]
        exact g c hc (by omega)
    · show (sI s 83 (40 * k + j + (n - 1 - r)) (s.1 83 (40 * k + i + (n - 1 - r)))).1 83 c = _
      rw [sI_oth (by omega)]
      exact g1 c (by omega)
    · rw [← g2 b hb]
      funext c
      show (sI s 83 (40 * k + j + (n - 1 - r)) (s.1 83 (40 * k + i + (n - 1 - r)))).1 b c = s.1 b c
      rw [sI_adr hb]
  · intro x hx
    obtain ⟨y, s⟩ := x
    obtain ⟨e, g, g1, g2⟩ := hx
    have e : y = nI n := e
    subst e
    refine ⟨s, ?_, fun c hc => g c hc (by omega), fun c hc => g1 c (by omega), g2⟩
    show X9_copy_b121 (nI k) (nI i) (nI k) (nI j) (nI n) 1 (nI n) s = _
    unfold X9_copy_b121
    rw [if_pos (nI_le (Nat.le_refl _) (by omega))]
