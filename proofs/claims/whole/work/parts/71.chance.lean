/-! chance -/
def cHt (V : mVT) (A : Ab) (x : Int32) (N to i : Nat) : Nat := if dV V A (x + nI i) N to = 0 then 0 else 1
theorem cHt_le (V : mVT) (A : Ab) (x : Int32) (N to i : Nat) : cHt V A x N to i ≤ 1 := by
  unfold cHt
  split <;> omega
section
variable {t : mTX} {tc : Nat} {V : mVT} {A : Ab} {hk : Bool} {K : Ab} {ts : Nat} {tp sk sn : Nat → Nat} {si : Nat → Nat → Int32}
theorem c_chanceL {s : mSG} {n N to : Nat} (h : IV t tc V A hk K ts tp sk sn si s) (hn : n ≤ 20) (hN : N ≤ 30) (ht : to ≤ 7) (x w : Int32) : ∃ e, X8_chance_l49 t x (nI n) (nI N) (nI to) w (0, 0, s) = some e ∧ (e.1 = nI (aSum (cHt V A x N to) n) ∧ IV t tc V A hk K ts tp sk sn si e.2) := by
  unfold X8_chance_l49
  refine lpN (fun i (v : Int32 × Int32 × mSG) => v.1 = nI (aSum (cHt V A x N to) i) ∧ v.2.1 = nI i ∧ IV t tc V A hk K ts tp sk sn si v.2.2) (fun e : Int32 × mSG => e.1 = nI (aSum (cHt V A x N to) n) ∧ IV t tc V A hk K ts tp sk sn si e.2) n (by unfold mFU; omega) ?_ ?_ (k := 0) (by omega) (x := (0, 0, s)) ⟨rfl, rfl, h⟩
  · intro i v hi hv
    obtain ⟨y, z, s1⟩ := v
    obtain ⟨g1, g2, g3⟩ := hv
    have g1 : y = nI (aSum (cHt V A x N to) i) := g1
    have g2 : z = nI i := g2
    have g3 : IV t tc V A hk K ts tp sk sn si s1 := g3
    subst g1 g2
    have g := g3
    obtain ⟨⟨a1, a2, a3, a4, a5, a6⟩, ⟨b1, b2, b3⟩, _⟩ := g
    obtain ⟨s2, e2⟩ := c_drawnTo a6 hN ht a1 a3 b1 b3 (x + nI i)
    have i2 := IV_fr g3 (FR_X8_drawnTo _ _ _ _ _ _ e2) rfl
    refine ⟨(nI (aSum (cHt V A x N to) (i + 1)), nI (i + 1), s2), ?_, rfl, rfl, i2⟩
    show X8_chance_b49 t x (nI n) (nI N) (nI to) w (nI (aSum (cHt V A x N to) i)) (nI i) s1 = _
    unfold X8_chance_b49 X8_chance_j72_49
    have h5 := b3.pp
    have hd := dV_le V A (x + nI i) N to
    rw [if_neg (nI_ge hi (by omega)), ob e2, nI_1]
    show _ = some (Sum.inl (nI (aSum (cHt V A x N to) i + cHt V A x N to i), nI (i + 1), s2))
    by_cases q : dV V A (x + nI i) N to = 0
    · rw [show cHt V A x N to i = 0 from if_pos q]
      dsimp only
      rw [q, if_pos (by decide)]
      rfl
    · rw [show cHt V A x N to i = 1 from if_neg q]
      dsimp only
      rw [if_neg (nI_nle (by omega) (by omega)), nI_1]
  · intro v hv
    obtain ⟨y, z, s1⟩ := v
    obtain ⟨g1, g2, g3⟩ := hv
    have g2 : z = nI n := g2
    subst g2
    refine ⟨(y, s1), ?_, g1, g3⟩
    show X8_chance_b49 t x (nI n) (nI N) (nI to) w y (nI n) s1 = _
    unfold X8_chance_b49
    rw [if_pos (nI_le (Nat.le_refl _) (by omega))]
end
theorem m_chanceL {t : mTX} {tc : Nat} {V : mVT} {A : Ab} {s : mSG} {n N to : Nat} (c : CT t tc V s) (mt : MT tc V s) (h : RM A s) (ok : AbOK A tc) (hn : n ≤ 20) (hN : N ≤ 30) (ht : to ≤ 7) (x w : Int32) : ∃ e, X9_chance_l53 x (nI n) (nI N) (nI to) w (0, 0, s) = some e ∧ (e.1 = lN (aSum (cHt V A x N to) n) ∧ RM A e.2) := by
  unfold X9_chance_l53
  refine lpN (fun i (v : Int64 × Int32 × mSG) => v.1 = lN (aSum (cHt V A x N to) i) ∧ v.2.1 = nI i ∧ CT t tc V v.2.2 ∧ MT tc V v.2.2 ∧ RM A v.2.2) (fun e : Int64 × mSG => e.1 = lN (aSum (cHt V A x N to) n) ∧ RM A e.2) n (by unfold mFU; omega) ?_ ?_ (k := 0) (by omega) (x := (0, 0, s)) ⟨rfl, rfl, c, mt, h⟩
  · intro i v hi hv
    obtain ⟨y, z, s1⟩ := v
    obtain ⟨g1, g2, g3, g4, g5⟩ := hv
    have g1 : y = lN (aSum (cHt V A x N to) i) := g1
    have g2 : z = nI i := g2
    have g3 : CT t tc V s1 := g3
    have g4 : MT tc V s1 := g4
    have g5 : RM A s1 := g5
    subst g1 g2
    obtain ⟨s2, e2, r2⟩ := m_draws hN ht g3 g4 g5 ok (x + nI i)
    have f2 := FR_X9_draws _ _ _ _ _ e2
    refine ⟨(lN (aSum (cHt V A x N to) (i + 1)), nI (i + 1), s2), ?_, rfl, rfl, CT_fr g3 f2 rfl, MT_fr g4 f2 (fun _ => rfl) (fun _ => rfl), r2⟩
    show X9_chance_b53 x (nI n) (nI N) (nI to) w (lN (aSum (cHt V A x N to) i)) (nI i) s1 = _
    unfold X9_chance_b53 X9_chance_j80_53
    have h5 := ok.pp
    have hd := dV_le V A (x + nI i) N to
    rw [if_neg (nI_ge hi (by omega)), ob e2, nI_1]
    show _ = some (Sum.inl (lN (aSum (cHt V A x N to) i + cHt V A x N to i), nI (i + 1), s2))
    have la : ∀ a b : Nat, lN a + lN b = lN (a + b) := fun a b => (Int64.ofNat_add a b).symm
    by_cases q : dV V A (x + nI i) N to = 0
    · rw [show cHt V A x N to i = 0 from if_pos q]
      dsimp only
      rw [q, if_pos (by decide)]
      exact congrArg (fun z => some (Sum.inl (z, nI (i + 1), s2))) (la _ 0)
    · rw [show cHt V A x N to i = 1 from if_neg q]
      dsimp only
      rw [if_neg (nI_nle (by omega) (by omega))]
      exact congrArg (fun z => some (Sum.inl (z, nI (i + 1), s2))) (la _ 1)
  · intro v hv
    obtain ⟨y, z, s1⟩ := v
    obtain ⟨g1, g2, g3, g4, g5⟩ := hv
    have g2 : z = nI n := g2
    subst g2
    refine ⟨(y, s1), ?_, g1, g5⟩
    show X9_chance_b53 x (nI n) (nI N) (nI to) w y (nI n) s1 = _
    unfold X9_chance_b53
    rw [if_pos (nI_le (Nat.le_refl _) (by omega))]
theorem cmL {h n : Nat} (hh : h ≤ 20) (hn : n ≤ 20) (h1 : 1 ≤ n) : ∀ m N, m + 1 < N → m + 1 ≤ n → (∀ d, m + 1 < d → d ∣ h → d ∣ n → False) → ∃ e, iter (fun v : Int32 => X8_commonMeasure_b2 (nI h) (nI n) v) N (nI (m + 1)) = some e ∧ Sum.elim (fun e0 => some e0) (fun _ : Unit => some (1 : Int32)) e = some (nI (Nat.gcd h n)) := by
  intro m
  have gp : 0 < Nat.gcd h n := Nat.gcd_pos_of_pos_right _ (by omega)
  induction m with
  | zero =>
    intro N hN hm hd
    refine ⟨.inr (), it_r (by omega) ?_, ?_⟩
    · show X8_commonMeasure_b2 (nI h) (nI n) (nI 1) = _
      unfold X8_commonMeasure_b2
      rw [if_pos (by decide)]
    · have : Nat.gcd h n = 1 := by
        by_cases q : 1 < Nat.gcd h n
        · exact absurd (hd _ q (Nat.gcd_dvd_left _ _) (Nat.gcd_dvd_right _ _)) id
        · omega
      rw [this]
      rfl
  | succ m ih =>
    intro N hN hm hd
    have e1 : nI h - nI h / nI (m + 1 + 1) * nI (m + 1 + 1) = nI (h % (m + 1 + 1)) := nl_rem (by omega) (by omega) (by omega)
    have e2 : nI n - nI n / nI (m + 1 + 1) * nI (m + 1 + 1) = nI (n % (m + 1 + 1)) := nl_rem (by omega) (by omega) (by omega)
    have nz : ¬ nI (m + 1 + 1) = 0 := nI_ne0 (by omega) (by omega)
    have r1 : h % (m + 1 + 1) ≤ 20 := Nat.le_trans (Nat.mod_le _ _) hh
    have r2 : n % (m + 1 + 1) ≤ 20 := Nat.le_trans (Nat.mod_le _ _) hn
    by_cases q : h % (m + 1 + 1) = 0 ∧ n % (m + 1 + 1) = 0
    · refine ⟨.inl (nI (m + 1 + 1)), it_r (by omega) ?_, ?_⟩
      · show X8_commonMeasure_b2 (nI h) (nI n) (nI (m + 1 + 1)) = _
        unfold X8_commonMeasure_b2
        rw [if_neg (show ¬ nI (m + 1 + 1) ≤ 1 from nI_ge (a := 1) (by omega) (by omega)), if_pos nz, e1, e2, q.1, q.2, if_pos (by decide), if_pos nz, if_pos (by decide)]
      · have d1 : m + 1 + 1 ∣ Nat.gcd h n := Nat.dvd_gcd (Nat.dvd_of_mod_eq_zero q.1) (Nat.dvd_of_mod_eq_zero q.2)
        have d2 := Nat.le_of_dvd gp d1
        have : Nat.gcd h n = m + 1 + 1 := by
          by_cases g : m + 1 + 1 < Nat.gcd h n
          · exact absurd (hd _ g (Nat.gcd_dvd_left _ _) (Nat.gcd_dvd_right _ _)) id
          · omega
        rw [this]
        rfl
    · obtain ⟨e, he, hq⟩ := ih (N - 1) (by omega) (by omega) (fun d hd1 hd2 hd3 => by
        by_cases g : d = m + 1 + 1
        · subst g
          exact q ⟨Nat.mod_eq_zero_of_dvd hd2, Nat.mod_eq_zero_of_dvd hd3⟩
        · exact hd d (by omega) hd2 hd3)
      refine ⟨e, ?_, hq⟩
      rw [it_l (by omega) (y := nI (m + 1)) ?_]
      · exact he
      · show X8_commonMeasure_b2 (nI h) (nI n) (nI (m + 1 + 1)) = _
        unfold X8_commonMeasure_b2 X8_commonMeasure_j21_2
        rw [if_neg (show ¬ nI (m + 1 + 1) ≤ 1 from nI_ge (a := 1) (by omega) (by omega)), if_pos nz, e1, e2, if_pos nz, pk_m1]
        by_cases g : h % (m + 1 + 1) = 0
        · have g2 : ¬ n % (m + 1 + 1) = 0 := fun g2 => q ⟨g, g2⟩
          rw [g, if_pos (by decide), if_neg (nI_ne0 (by omega) (by omega))]
        · rw [if_neg (nI_ne0 (by omega) (by omega))]
theorem c_measure {h n : Nat} (hh : h ≤ 20) (hn : n ≤ 20) (h1 : 1 ≤ n) : X8_commonMeasure (nI h) (nI n) = some (nI (Nat.gcd h n)) := by
  unfold X8_commonMeasure X8_commonMeasure_l2
  obtain ⟨e, he, hq⟩ := cmL (h := h) (n := n) hh hn h1 (n - 1) mFU (by unfold mFU; omega) (by omega) (fun d hd _ hdn => by have := Nat.le_of_dvd (by omega) hdn; omega)
  rw [show n - 1 + 1 = n by omega] at he
  rw [ob he]
  exact hq
theorem lgc_eq (x y : Int64) : (lg_cmp x y = 0) = (x = y) := by
  unfold lg_cmp
  by_cases h1 : x > y
  · rw [if_pos h1]
    refine propext ⟨fun q => absurd q (by decide), fun q => ?_⟩
    have h1' : y < x := h1
    rw [q, Int64.lt_iff_toInt_lt] at h1'
    omega
  · rw [if_neg h1]
    by_cases h2 : x = y
    · rw [if_pos h2]
      exact propext ⟨fun _ => h2, fun _ => rfl⟩
    · rw [if_neg h2]
      exact propext ⟨fun q => absurd q (by decide), fun q => absurd q h2⟩
theorem m_gcd {x2 x5 : Int32} {j6 : Int64} {s : mSG} : ∀ q p N, q < N → p ≤ 100 → q ≤ 100 → iter (fun v : Int64 × Int64 => X9_chance_b97 x2 x5 j6 v.1 v.2 s) N (lN p, lN q) = some (lN (Nat.gcd p q)) := by
  intro q
  induction q using Nat.strongRecOn with
  | _ q ih =>
    intro p N hN hp hq
    by_cases q0 : q = 0
    · subst q0
      refine it_r (by omega) ?_
      show X9_chance_b97 x2 x5 j6 (lN p) (lN 0) s = _
      unfold X9_chance_b97
      rw [if_pos (by rw [lgc_eq]; rfl), Nat.gcd_zero_right]
    · have nz : ¬ lN q = 0 := fun g => q0 ((pk_lEQ (b := 0) (by omega) (by omega)).mp g)
      rw [it_l (by omega) (y := (lN q, lN (p % q))) ?_]
      · have hm : p % q < q := Nat.mod_lt _ (by omega)
        rw [ih (p % q) hm q (N - 1) (by omega) hq (by omega), Nat.gcd_comm p q, Nat.gcd_rec q p, Nat.gcd_comm q (p % q)]
      · show X9_chance_b97 x2 x5 j6 (lN p) (lN q) s = _
        unfold X9_chance_b97
        rw [if_neg (by rw [lgc_eq]; exact nz), if_pos nz, pk_lRem (by omega) (by omega) (by omega)]
theorem L_chance {t : mTX} {s : mSG} (h : INV t s) (x y z u w : Int32) : ∃ v s1 s2, X8_chance t x y z u w s = some (v, s1) ∧ X9_chance x y z u w s1 = some (v, s2) ∧ INV t s2 := by
  have hI := h
  obtain ⟨tc, V, A, hk, K, ts, tp, sk, sn, si, hv⟩ := h
  have hw := hv
  obtain ⟨⟨a1, a2, a3, a4, a5, a6⟩, ⟨b1, b2, b3⟩, _⟩ := hw
  have e1T : (1 : Int32).toInt = 1 := rfl
  have e0T : (0 : Int32).toInt = 0 := rfl
  have iny : X9_in y.toInt64 1 20 = decide (inR y 20 ∧ ¬ y = 0) := by
    rw [b_dec (m_in y 1 20 1 20 rfl rfl)]
    refine decide_eq_decide.mpr ⟨fun q => ⟨⟨?_, q.2⟩, fun g => ?_⟩, fun q => ⟨?_, q.1.2⟩⟩
    · have := q.1
      rw [Int32.le_iff_toInt_le] at this ⊢
      omega
    · have := q.1
      rw [g, Int32.le_iff_toInt_le] at this
      omega
    · have h0 := q.1.1
      have n0 : y.toInt ≠ 0 := fun g => q.2 (Int32.toInt_inj.mp (g.trans e0T.symm))
      rw [Int32.le_iff_toInt_le] at h0 ⊢
      omega
  by_cases q : (inR y 20 ∧ ¬ y = 0) ∧ inR z 30 ∧ inR u 7 ∧ inR w 1
  · obtain ⟨⟨q1, q0⟩, q2, q3, q4⟩ := q
    obtain ⟨n, hn, rfl⟩ := inR_of q1 (by omega)
    obtain ⟨N, hN, rfl⟩ := inR_of q2 (by omega)
    obtain ⟨to, ht, rfl⟩ := inR_of q3 (by omega)
    have n1 : 1 ≤ n := by
      by_cases g : n = 0
      · subst g; exact absurd rfl q0
      · omega
    have hs := aSum_le (cHt_le V A x N to) n
    have gp : 0 < Nat.gcd (aSum (cHt V A x N to) n) n := Nat.gcd_pos_of_pos_right _ (by omega)
    have gl : Nat.gcd (aSum (cHt V A x N to) n) n ≤ n := Nat.le_of_dvd (by omega) (Nat.gcd_dvd_right _ _)
    obtain ⟨⟨v1, s1⟩, e1, w1, i1⟩ := c_chanceL hv hn hN ht x w
    have w1 : v1 = _ := w1
    subst w1
    have hm := c_measure (h := aSum (cHt V A x N to) n) (n := n) (by omega) hn n1
    have nz : ¬ nI (Nat.gcd (aSum (cHt V A x N to) n) n) = 0 := nI_ne0 gp (by omega)
    have lz : ¬ lN (Nat.gcd (aSum (cHt V A x N to) n) n) = 0 := fun g => by
      have := (pk_lEQ (b := 0) (show Nat.gcd (aSum (cHt V A x N to) n) n < 2 ^ 63 by omega) (by omega)).mp g
      omega
    have d1 : aSum (cHt V A x N to) n / Nat.gcd (aSum (cHt V A x N to) n) n ≤ 20 := Nat.le_trans (Nat.div_le_self _ _) (by omega)
    have d2 : n / Nat.gcd (aSum (cHt V A x N to) n) n ≤ 20 := Nat.le_trans (Nat.div_le_self _ _) (by omega)
    have x1 : X8_chance t x (nI n) (nI N) (nI to) w s = some (if w = 0 then lN (aSum (cHt V A x N to) n / Nat.gcd (aSum (cHt V A x N to) n) n) else lN (n / Nat.gcd (aSum (cHt V A x N to) n) n), s1) := by
      unfold X8_chance
      rw [show X8_isWithin (nI n) 20 = _ from c_within (nI n) 20, decide_eq_true q1, if_pos rfl, if_neg q0, show X8_isWithin (nI N) 30 = _ from c_within (nI N) 30, decide_eq_true q2, if_pos rfl, c_isStone, decide_eq_true q3, if_pos rfl, show X8_isWithin w 1 = _ from c_within w 1, decide_eq_true q4, if_pos rfl, ob e1, ob hm, if_pos nz, if_pos nz]
      rw [nl_div (by omega) gp (by omega), nl_div (by omega) gp (by omega), nI_l (by omega), nI_l (by omega)]
      by_cases g : w = 0
      · rw [if_pos g, if_pos g]
      · rw [if_neg g, if_neg g]
    have f1 := FR_X8_chance _ _ _ _ _ _ _ _ x1
    obtain ⟨⟨a1', a2', _⟩, ⟨b1', b2', _⟩, _⟩ := i1
    obtain ⟨⟨v2, s2⟩, e2, w2, r2⟩ := m_chanceL a1' a2' b2' b3 hn hN ht x w
    have w2 : v2 = _ := w2
    subst w2
    have hg : X9_chance_l97 (nI n) w (lN (aSum (cHt V A x N to) n)) s2 (lN (aSum (cHt V A x N to) n), lN n) = some (lN (Nat.gcd (aSum (cHt V A x N to) n) n)) := m_gcd n _ mFU (by unfold mFU; omega) (by omega) (by omega)
    have x2 : X9_chance x (nI n) (nI N) (nI to) w s1 = some (if w = 0 then lN (aSum (cHt V A x N to) n / Nat.gcd (aSum (cHt V A x N to) n) n) else lN (n / Nat.gcd (aSum (cHt V A x N to) n) n), s2) := by
      unfold X9_chance
      rw [iny, decide_eq_true ⟨q1, q0⟩, if_pos rfl, show X9_in (nI N).toInt64 0 30 = _ from b_dec (m_inR (nI N) 30 30 rfl), decide_eq_true q2, if_pos rfl, m_isStone, decide_eq_true q3, if_pos rfl, show X9_in w.toInt64 0 1 = _ from b_dec (m_inR w 1 1 rfl), decide_eq_true q4, if_pos rfl, ob e2, nI_l (show n < 2 ^ 31 by omega), ob hg, if_pos lz, if_pos lz]
      rw [pk_lDiv (by omega) gp (by omega), pk_lDiv (by omega) gp (by omega)]
      by_cases g : w = 0
      · rw [if_pos g, if_pos g]
      · rw [if_neg g, if_neg g]
    have f2 := FR_X9_chance _ _ _ _ _ _ _ x2
    have c2 := RS_fr b1' f2 (fun _ => rfl) (fun _ => rfl) (fun _ => rfl) (fun _ => rfl) (fun _ => rfl)
    exact ⟨_, s1, s2, x1, x2, L_now hv f1 f2 rfl rfl c2 r2 b3 (Nat.le_refl _) (fun _ _ => rfl)⟩
  · refine ⟨-4611686018427387904, s, s, ?_, ?_, hI⟩
    · unfold X8_chance
      rw [show X8_isWithin y 20 = _ from c_within y 20, show X8_isWithin z 30 = _ from c_within z 30, c_isStone, show X8_isWithin w 1 = _ from c_within w 1]
      by_cases q1 : inR y 20
      · rw [decide_eq_true q1, if_pos rfl]
        by_cases q0 : y = 0
        · rw [if_pos q0]
        · rw [if_neg q0]
          by_cases q2 : inR z 30
          · by_cases q3 : inR u 7
            · rw [decide_eq_true q2, decide_eq_true q3, decide_eq_false (fun q4 => q ⟨⟨q1, q0⟩, q2, q3, q4⟩)]
              rfl
            · rw [decide_eq_true q2, decide_eq_false q3]
              rfl
          · rw [decide_eq_false q2]
            rfl
      · rw [decide_eq_false q1]
        rfl
    · unfold X9_chance
      rw [iny, show X9_in z.toInt64 0 30 = _ from b_dec (m_inR z 30 30 rfl), m_isStone, show X9_in w.toInt64 0 1 = _ from b_dec (m_inR w 1 1 rfl)]
      by_cases q1 : inR y 20 ∧ ¬ y = 0
      · by_cases q2 : inR z 30
        · by_cases q3 : inR u 7
          · rw [decide_eq_true q1, decide_eq_true q2, decide_eq_true q3, decide_eq_false (fun q4 => q ⟨q1, q2, q3, q4⟩)]
            rfl
          · rw [decide_eq_true q1, decide_eq_true q2, decide_eq_false q3]
            rfl
        · rw [decide_eq_true q1, decide_eq_false q2]
          rfl
      · rw [decide_eq_false q1]
        rfl
