/-! copy -/
theorem nneg {x : Int32} : ¬ x < 0 ↔ 0 ≤ x := by
  rw [Int32.lt_iff_toInt_lt, Int32.le_iff_toInt_le]
  omega
theorem m_copyBad {k l : Nat} {s : mSG} {y u v : Int32} {n m a b : Nat} (hk : k < 4) (hl : l < 4) (h1 : s.1 80 k = 1) (h2 : s.1 80 l = 1) (h3 : s.1 81 k = nI a) (h4 : s.1 81 l = nI b) (hab : a = b) (h5 : s.1 82 k = nI n) (h6 : s.1 82 l = nI m) (hn : n ≤ 40) (hm : m ≤ 40) (hq : ¬ (runR n y v ∧ runR m u v)) : X9_copy (nI k) y (nI l) u v s = some (-12, s) := by
  unfold X9_copy
  rw [m_isSheet, m_isSheet, decide_eq_true ((inR_nI (show k < 2147483648 by omega) (show 3 < 2147483648 by omega)).mpr (by omega)), decide_eq_true ((inR_nI (show l < 2147483648 by omega) (show 3 < 2147483648 by omega)).mpr (by omega)), if_pos rfl, if_pos rfl, if_pos (gl_inb hk (by omega)), nl_cl (show k < 2147483648 by omega), h1, if_neg (by decide), if_pos (gl_inb hl (by omega)), nl_cl (show l < 2147483648 by omega), h2, if_neg (by decide), h3, h4, hab, if_pos rfl, h5, h6]
  by_cases g1 : v < 0
  · rw [if_pos g1]
  · rw [if_neg g1]
    by_cases g2 : y < 0
    · rw [if_pos g2]
    · rw [if_neg g2]
      by_cases g3 : u < 0
      · rw [if_pos g3]
      · rw [if_neg g3]
        have v0 := nneg.mp g1
        have y0 := nneg.mp g2
        have u0 := nneg.mp g3
        have t1 := subT (n := n) (by omega) v0
        have t2 := subT (n := m) (by omega) v0
        by_cases g4 : nI n - v < y
        · rw [if_pos g4]
        · rw [if_neg g4]
          by_cases g5 : u ≤ nI m - v
          · exfalso
            rw [Int32.lt_iff_toInt_lt, t1] at g4
            rw [Int32.le_iff_toInt_le, t2] at g5
            exact hq ⟨⟨y0, v0, by omega⟩, ⟨u0, v0, by omega⟩⟩
          · rw [if_neg g5]
theorem m_copyY {k l i j n sn1 sn2 a : Nat} {s : mSG} (hk : k < 4) (hl : l < 4) (h1 : s.1 80 k = 1) (h2 : s.1 80 l = 1) (h3 : s.1 81 k = nI a) (h4 : s.1 81 l = nI a) (h5 : s.1 82 k = nI sn1) (h6 : s.1 82 l = nI sn2) (hn : sn1 ≤ 40) (hm : sn2 ≤ 40) (hi : i + n ≤ sn1) (hj : j + n ≤ sn2) : ∃ e, X9_copy (nI k) (nI i) (nI l) (nI j) (nI n) s = some (nI n, e) ∧ ((∀ c, c < n → e.1 83 (40 * l + j + c) = s.1 83 (40 * k + i + c)) ∧ (∀ c, c < 40 * l + j ∨ 40 * l + j + n ≤ c → e.1 83 c = s.1 83 c) ∧ (∀ b, b ≠ 83 → e.1 b = s.1 b)) := by
  have base : X9_copy (nI k) (nI i) (nI l) (nI j) (nI n) s = (if nI k = nI l then (if nI j ≤ nI i then X9_copy_j115 (nI k) (nI i) (nI l) (nI j) (nI n) s else X9_copy_j116 (nI k) (nI i) (nI l) (nI j) (nI n) 1 s) else X9_copy_j115 (nI k) (nI i) (nI l) (nI j) (nI n) s) := by
    unfold X9_copy
    rw [m_isSheet, m_isSheet, decide_eq_true ((inR_nI (show k < 2147483648 by omega) (show 3 < 2147483648 by omega)).mpr (by omega)), decide_eq_true ((inR_nI (show l < 2147483648 by omega) (show 3 < 2147483648 by omega)).mpr (by omega)), if_pos rfl, if_pos rfl, if_pos (gl_inb hk (by omega)), nl_cl (show k < 2147483648 by omega), h1, if_neg (by decide), if_pos (gl_inb hl (by omega)), nl_cl (show l < 2147483648 by omega), h2, if_neg (by decide), h3, h4, if_pos rfl, h5, h6, if_neg (nI_pos (show n < 2 ^ 31 by omega)), if_neg (nI_pos (show i < 2 ^ 31 by omega)), if_neg (nI_pos (show j < 2 ^ 31 by omega)), pk_sub (show n ≤ sn1 by omega), pk_sub (show n ≤ sn2 by omega), if_neg (nI_nlt (by omega) (by omega)), if_pos (nI_le (by omega) (by omega))]
  rw [base]
  have up : (k ≠ l ∨ j ≤ i) → ∃ e, X9_copy_j115 (nI k) (nI i) (nI l) (nI j) (nI n) s = some (nI n, e) ∧ ((∀ c, c < n → e.1 83 (40 * l + j + c) = s.1 83 (40 * k + i + c)) ∧ (∀ c, c < 40 * l + j ∨ 40 * l + j + n ≤ c → e.1 83 c = s.1 83 c) ∧ (∀ b, b ≠ 83 → e.1 b = s.1 b)) := fun hd => by
    obtain ⟨e, he, hq⟩ := m_copyUp hk hl (show i + n ≤ 40 by omega) (show j + n ≤ 40 by omega) hd s
    refine ⟨e, ?_, hq⟩
    unfold X9_copy_j115 X9_copy_j116
    rw [ob he]
  by_cases q : k = l
  · subst q
    rw [if_pos rfl]
    by_cases q2 : j ≤ i
    · rw [if_pos (nI_le q2 (by omega))]
      exact up (Or.inr q2)
    · rw [if_neg (nI_ge (by omega) (by omega))]
      obtain ⟨e, he, hq⟩ := m_copyDn hk (show i + n ≤ 40 by omega) (show j + n ≤ 40 by omega) (show i < j by omega) s
      refine ⟨e, ?_, hq⟩
      unfold X9_copy_j116
      rw [ob he]
  · rw [if_neg (show ¬ nI k = nI l from by rw [nl_eq (by omega) (by omega)]; exact q)]
    exact up (Or.inl q)
theorem L_copy {t : mTX} {s : mSG} (h : INV t s) (x y z u v : Int32) : ∃ r s1 s2, X8_copy t x y z u v s = some (r, s1) ∧ X9_copy x y z u v s1 = some (r, s2) ∧ INV t s2 := by
  have hI := h
  obtain ⟨tc, V, A, hk, K, ts, tp, sk, sn, si, hv⟩ := h
  have hw := hv
  obtain ⟨_, _, _, _, e, _, _⟩ := hw
  by_cases qx : inR x 3
  · by_cases qz : inR z 3
    · obtain ⟨k, hk3, rfl⟩ := inR_of qx (by omega)
      obtain ⟨l, hl3, rfl⟩ := inR_of qz (by omega)
      have hk4 : k < 4 := by omega
      have hl4 : l < 4 := by omega
      obtain ⟨ck1, ck2, ck3⟩ := kS (t := t) hk4
      obtain ⟨cl1, cl2, cl3⟩ := kS (t := t) hl4
      have base : ∀ o, (X4_isMissing t (45 + 2 * k) s).bind (fun r3 => if r3 = true then some ((-11), s) else if (mKl (LAY t) (45 + 2 * l)).1 = 3 then (X4_isMissing t (45 + 2 * l) s).bind (fun r4 => if r4 = true then some ((-11), s) else if (mKl (LAY t) (45 + 2 * k)).1 = 3 then if (mKl (LAY t) (45 + 2 * l)).1 = 3 then if (s.1 (45 + 2 * k) 1) = (s.1 (45 + 2 * l) 1) then if (mKl (LAY t) (45 + 2 * k)).1 = 3 then (X4_hasRun t (45 + 2 * k) y v s).bind (fun r6 => if r6 = true then if (mKl (LAY t) (45 + 2 * l)).1 = 3 then (X4_hasRun t (45 + 2 * l) u v s).bind (fun r7 => if r7 = true then if (mKl (LAY t) (45 + 2 * k)).1 = 3 then (mRf (LAY t) (45 + 2 * k) 0).bind (fun a8 => if (mKl (LAY t) (45 + 2 * l)).1 = 3 then (mRf (LAY t) (45 + 2 * l) 0).bind (fun a9 => if ((mKl (LAY t) a8).1 = 20 ∧ (mKl (LAY t) a9).1 = 20) ∧ (¬ y < 0 ∧ ¬ u < 0 ∧ ¬ v < 0 ∧ y.toNatClampNeg + v.toNatClampNeg ≤ (mKl (LAY t) a8).2 ∧ u.toNatClampNeg + v.toNatClampNeg ≤ (mKl (LAY t) a9).2) then some (v, sC s a8 a9 y.toNatClampNeg u.toNatClampNeg v.toNatClampNeg) else none) else none) else none else some ((-12), s)) else none else some ((-12), s)) else none else some ((-13), s) else none else none) else none) = o → X8_copy t (nI k) y (nI l) u v s = o := by
        intro o ho
        rw [← ho]
        unfold X8_copy
        rw [show X8_isWithin (nI k) 3 = _ from c_within (nI k) 3, show X8_isWithin (nI l) 3 = _ from c_within (nI l) 3, decide_eq_true qx, decide_eq_true qz, if_pos rfl, if_pos rfl, if_pos (gl_inb hk4 (by omega)), nl_cl (show k < 2147483648 by omega), ob (e k hk4).1, if_pos (gl_inb hl4 (by omega)), nl_cl (show l < 2147483648 by omega), ob (e l hl4).1, if_pos ck1]
      rcases (e k hk4).2 with ⟨a1, a2, a3⟩ | ⟨a1, a2, a3, a4, a5, a6, a7, a8, a9⟩
      · refine ⟨-11, s, s, base _ ?_, ?_, hI⟩
        · rw [ob (c_missY hk4 a2)]
          rfl
        · unfold X9_copy
          rw [m_isSheet, m_isSheet, decide_eq_true qx, decide_eq_true qz, if_pos rfl, if_pos rfl, if_pos (gl_inb hk4 (by omega)), nl_cl (show k < 2147483648 by omega), if_pos a3]
      · rcases (e l hl4).2 with ⟨b1, b2, b3⟩ | ⟨b1, b2, b3, b4, b5, b6, b7, b8, b9⟩
        · refine ⟨-11, s, s, base _ ?_, ?_, hI⟩
          · rw [ob (c_missN hk4 a2 a4), if_neg (by decide), if_pos cl1, ob (c_missY hl4 b2)]
            rfl
          · unfold X9_copy
            rw [m_isSheet, m_isSheet, decide_eq_true qx, decide_eq_true qz, if_pos rfl, if_pos rfl, if_pos (gl_inb hk4 (by omega)), nl_cl (show k < 2147483648 by omega), a6, if_neg (by decide), if_pos (gl_inb hl4 (by omega)), nl_cl (show l < 2147483648 by omega), if_pos b3]
        · by_cases qs : sk k = sk l
          · obtain ⟨r6, e6, w6⟩ := c_hasRun (t := t) hk4 a3 a5 y v
            obtain ⟨r7, e7, w7⟩ := c_hasRun (t := t) hl4 b3 b5 u v
            by_cases qr : runR (sn k) y v ∧ runR (sn l) u v
            · obtain ⟨i, n, rfl, rfl, hin⟩ := runR_of a3 qr.1
              obtain ⟨j, n', rfl, en, hjn⟩ := runR_of b3 qr.2
              have en' : n = n' := by rw [nl_eq (by omega) (by omega)] at en; exact en
              subst en'
              have t6 : r6 = true := w6.mpr qr.1
              have t7 : r7 = true := w7.mpr qr.2
              subst t6 t7
              have x1 : X8_copy t (nI k) (nI i) (nI l) (nI j) (nI n) s = some (nI n, sC s (46 + 2 * k) (46 + 2 * l) i j n) := by
                refine base _ ?_
                rw [ob (c_missN hk4 a2 a4), if_neg (by decide), if_pos cl1, ob (c_missN hl4 b2 b4), if_neg (by decide), if_pos ck1, if_pos cl1, a4, b4, qs, if_pos rfl, if_pos ck1, ob e6, if_pos rfl, if_pos cl1, ob e7, if_pos rfl, if_pos ck1, ob ck2, if_pos cl1, ob cl2, ck3, cl3, nl_cl (show i < 2147483648 by omega), nl_cl (show j < 2147483648 by omega), nl_cl (show n < 2147483648 by omega)]
                rw [if_pos ⟨⟨rfl, rfl⟩, nI_pos (by omega), nI_pos (by omega), nI_pos (by omega), by show i + n ≤ 40; omega, by show j + n ≤ 40; omega⟩]
              have s83 : ∀ b, b ≠ 46 + 2 * l → (sC s (46 + 2 * k) (46 + 2 * l) i j n).1 b = s.1 b := fun b hb => by
                funext c
                rw [sC_ne hb]
              obtain ⟨s2, x2, w1, w2, w3⟩ := m_copyY (s := sC s (46 + 2 * k) (46 + 2 * l) i j n) (i := i) (j := j) (n := n) (a := sk l - 1) hk4 hl4 (by rw [s83 _ (by omega)]; exact a6) (by rw [s83 _ (by omega)]; exact b6) (by rw [s83 _ (by omega), a7, qs]) (by rw [s83 _ (by omega)]; exact b7) (by rw [s83 _ (by omega)]; exact a8) (by rw [s83 _ (by omega)]; exact b8) a3 b3 hin hjn
              have f1 : Fr Wsh s (sC s (46 + 2 * k) (46 + 2 * l) i j n) := Fr.rf.wC (fun c => (mW_sh hl4 c).2)
              have f2 := (FR_X9_copy _ _ _ _ _ _ _ x2).mono (l' := Wsh) rfl
              have f := f1.tr f2
              refine ⟨_, _, _, x1, x2, tc, V, A, hk, K, ts, tp, _, _, _, IV_sh hv f (SH_upd (k := l) (a := sk l) (n := sn l) (f := fun c => if j ≤ c ∧ c < j + n then si k (i + (c - j)) else si l c) e (fun j => (f 24 j rfl).2.1) (fun c hc hcl => ?_) (Or.inr ⟨b1, b2, b3, ?_, ?_, ?_, ?_, ?_, fun c hc => ?_⟩))⟩
              · refine ⟨?_, ?_, ?_, ?_, ?_, fun d hd => ?_⟩
                · rw [w3 _ (by omega), s83 _ (by omega)]
                · rw [w3 _ (by omega), s83 _ (by omega)]
                · rw [w3 _ (by omega), s83 _ (by omega)]
                · rw [w3 _ (by omega), s83 _ (by omega)]
                · rw [w3 _ (by omega), s83 _ (by omega)]
                · rw [w2 _ (by omega), s83 _ (by omega)]
              · rw [w3 _ (by omega), s83 _ (by omega)]; exact b4
              · rw [w3 _ (by omega), s83 _ (by omega)]; exact b5
              · rw [w3 _ (by omega), s83 _ (by omega)]; exact b6
              · rw [w3 _ (by omega), s83 _ (by omega)]; exact b7
              · rw [w3 _ (by omega), s83 _ (by omega)]; exact b8
              · dsimp only
                by_cases qc : j ≤ c ∧ c < j + n
                · rw [if_pos qc]
                  refine ⟨?_, ?_⟩
                  · rw [w3 _ (by omega), sC_row, pk_cpy_in qc.1 qc.2]
                    exact (a9 _ (by omega)).1
                  · rw [show 40 * l + c = 40 * l + j + (c - j) by omega, w1 _ (by omega), s83 _ (by omega), show 40 * k + i + (c - j) = 40 * k + (i + (c - j)) by omega]
                    exact (a9 _ (by omega)).2
                · rw [if_neg qc]
                  refine ⟨?_, ?_⟩
                  · rw [w3 _ (by omega), sC_row, pk_cpy_out (by omega)]
                    exact (b9 c hc).1
                  · rw [w2 _ (by omega), s83 _ (by omega)]
                    exact (b9 c hc).2
            · refine ⟨-12, s, s, base _ ?_, m_copyBad hk4 hl4 a6 b6 a7 b7 (by rw [qs]) a8 b8 a3 b3 qr, hI⟩
              rw [ob (c_missN hk4 a2 a4), if_neg (by decide), if_pos cl1, ob (c_missN hl4 b2 b4), if_neg (by decide), if_pos ck1, if_pos cl1, a4, b4, qs, if_pos rfl, if_pos ck1, ob e6]
              by_cases g6 : r6 = true
              · rw [if_pos g6, if_pos cl1, ob e7, if_neg (fun g7 => qr ⟨w6.mp g6, w7.mp g7⟩)]
              · rw [if_neg g6]
          · refine ⟨-13, s, s, base _ ?_, ?_, hI⟩
            · rw [ob (c_missN hk4 a2 a4), if_neg (by decide), if_pos cl1, ob (c_missN hl4 b2 b4), if_neg (by decide), if_pos ck1, if_pos cl1, a4, b4, if_neg (show ¬ nI (sk k - 1) = nI (sk l - 1) from by rw [nl_eq (by omega) (by omega)]; omega)]
            · unfold X9_copy
              rw [m_isSheet, m_isSheet, decide_eq_true qx, decide_eq_true qz, if_pos rfl, if_pos rfl, if_pos (gl_inb hk4 (by omega)), nl_cl (show k < 2147483648 by omega), a6, if_neg (by decide), if_pos (gl_inb hl4 (by omega)), nl_cl (show l < 2147483648 by omega), b6, if_neg (by decide), a7, b7, if_neg (show ¬ nI (sk k - 1) = nI (sk l - 1) from by rw [nl_eq (by omega) (by omega)]; omega)]
    · refine ⟨-2, s, s, ?_, ?_, hI⟩
      · unfold X8_copy
        rw [show X8_isWithin x 3 = _ from c_within x 3, show X8_isWithin z 3 = _ from c_within z 3, decide_eq_true qx, decide_eq_false qz]
        rfl
      · unfold X9_copy
        rw [m_isSheet, m_isSheet, decide_eq_true qx, decide_eq_false qz]
        rfl
  · refine ⟨-2, s, s, ?_, ?_, hI⟩
    · unfold X8_copy
      rw [show X8_isWithin x 3 = _ from c_within x 3, decide_eq_false qx]
      rfl
    · unfold X9_copy
      rw [m_isSheet, decide_eq_false qx]
      rfl
