/-! THE FIRST RULE, READ BY BOTH -/
def ruL : List Nat := [119, 97, 110, 116, 115, 32, 48, 32, 59, 32, 116, 97, 107, 101, 115, 32, 119, 101, 116, 32, 59, 32, 108, 101, 110, 100, 115, 32, 49, 32, 43, 32, 114, 97, 105, 110, 32, 59, 32, 32]
def ruB (j : Nat) : Nat := ruL.getD j 0
def ruC (p : Nat) : List xC := if p = 0 then [(0, 0)] else if p = 1 then [(1, 1)] else [(0, 1), (1, 3), (4, 4)]
theorem tk38 : (tC ruB 38 0 = 262 ∧ tN ruB 38 0 = 5) ∧ (tC ruB 38 5 = 2 ∧ tN ruB 38 5 = 7 ∧ tV ruB 38 5 = 0) ∧ (tC ruB 38 7 = 59 ∧ tN ruB 38 7 = 9) ∧ (tC ruB 38 9 = 263 ∧ tN ruB 38 9 = 15) ∧ (tC ruB 38 15 = 257 ∧ tN ruB 38 15 = 19) ∧ (tC ruB 38 19 = 59 ∧ tN ruB 38 19 = 21) ∧ (tC ruB 38 21 = 264 ∧ tN ruB 38 21 = 27) ∧ (tC ruB 38 27 = 2 ∧ tN ruB 38 27 = 29 ∧ tV ruB 38 27 = 1) ∧ (tC ruB 38 29 = 43 ∧ tN ruB 38 29 = 31) ∧ (tC ruB 38 31 = 259 ∧ tN ruB 38 31 = 36) ∧ (tC ruB 38 36 = 59 ∧ tN ruB 38 36 = 38) ∧ (tC ruB 38 38 = 0) := by decide +kernel
theorem tk40 : (tC ruB 40 0 = 262 ∧ tN ruB 40 0 = 5) ∧ (tC ruB 40 5 = 2 ∧ tN ruB 40 5 = 7 ∧ tV ruB 40 5 = 0) ∧ (tC ruB 40 7 = 59 ∧ tN ruB 40 7 = 9) ∧ (tC ruB 40 9 = 263 ∧ tN ruB 40 9 = 15) ∧ (tC ruB 40 15 = 257 ∧ tN ruB 40 15 = 19) ∧ (tC ruB 40 19 = 59 ∧ tN ruB 40 19 = 21) ∧ (tC ruB 40 21 = 264 ∧ tN ruB 40 21 = 27) ∧ (tC ruB 40 27 = 2 ∧ tN ruB 40 27 = 29 ∧ tV ruB 40 27 = 1) ∧ (tC ruB 40 29 = 43 ∧ tN ruB 40 29 = 31) ∧ (tC ruB 40 31 = 259 ∧ tN ruB 40 31 = 36) ∧ (tC ruB 40 36 = 59 ∧ tN ruB 40 36 = 38) ∧ (tC ruB 40 38 = 0) := by decide +kernel
theorem ruB_b : ∀ j, j < 40 → ruB j ≤ 255 := by decide
/-- what reading leaves, the ends too -/
def ZB (s s1 : mSG) : Prop := (∀ a, a ≠ 25 → a ≠ 26 → a ≠ 27 → s1.1 a = s.1 a) ∧ s1.2 = s.2
theorem ZB_tr {s s1 s2 : mSG} (h : ZB s s1) (h' : ZB s1 s2) : ZB s s2 := ⟨fun a x y z => (h'.1 a x y z).trans (h.1 a x y z), h'.2.trans h.2⟩
section
variable {t : mTX} {k n : Nat} {b : Nat → Nat}
theorem z_part {p i i3 c : Nat} {L : List xC} {s : mSG} (hp : p < 3) (hi : i ≤ n) (hq : tC b n i = 262 + p) (hE : CHf n b (Z1_R t 60 0 (nI 0)) (tN b n i) true i3 L) (h3 : i3 ≤ n) (h9 : tC b n i3 = 59) (ht : TC n b s) (ha : AT n b i s) (hc : s.1 25 2 = nI c) (hci : c ≤ tN b n i) : ∃ s', Z1_parse_23_b38 t (nI p) s = some (.inl (nI (p + 1), s')) ∧ TC n b s' ∧ AT n b (tN b n i3) s' ∧ CD c L s s' ∧ s'.1 27 p = nI (c + L.length) ∧ (∀ j, j ≠ p → s'.1 27 j = s.1 27 j) ∧ ZB s s' := by
  have e3 : ¬ (3 : Int32) ≤ nI p := gl_le (x := 3) (m := 3) rfl hp (by omega)
  have eX : (262 : Int32) + nI p = nI (262 + p) := nI_add 262 p
  obtain ⟨s1, e1, a1, b1, w1, w2⟩ := zc_nxt (t := t) ht ha hi
  obtain ⟨s2, e2, a2, b2, d2⟩ := hE c s1 (CB_TC b1 ht) a1 (w2.trans hc) hci
  have e2 : Z1_R t 60 0 0 s1 = some (true, s2) := e2
  have d2 := d2 rfl
  obtain ⟨s3, e3', a3, b3, x1, x2⟩ := zc_nxt (t := t) (CB_TC b2 (CB_TC b1 ht)) a2 h3
  have bb := CB_tr b1 (CB_tr b2 b3)
  have dd : CD c L s s3 := by
    have := CD_app (CD_app (CD_nil w1 (w2.trans hc)) d2) (CD_nil x1 (x2.trans d2.2.2))
    rw [List.append_nil] at this
    exact this
  refine ⟨sI s3 27 p (s3.1 25 2), ?_, TC_sI (CB_TC bb ht) (by omega), ?_, ⟨fun j hj => ?_, fun j hj => ?_, ?_⟩, by rw [sI_same]; exact dd.2.2, fun j hj => ?_, fun a y1 y2 y3 => ?_, bb.2.2⟩
  · unfold Z1_parse_23_b38
    rw [if_neg e3, eX, zc_tk_y ha (w := 262 + p) rfl (by omega) hq, ob e1]
    show (Z1_R t 60 0 0 s1).bind _ = _
    rw [ob e2, if_pos rfl, zc_tk_y a2 (X := 59) (w := 59) rfl (by omega) h9, ob e3']
    show (if mInb (nI p) 3 = true then (some (Sum.inl (nI p + 1, sI s3 27 (nI p).toNatClampNeg (s3.1 25 2))) : Option ((Int32 × mSG) ⊕ (mSG ⊕ mSG))) else none) = _
    rw [if_pos (gl_inb hp (by omega)), nl_cl (by omega), nI_1]
  · exact AT_eq a3 (by rw [sI_adr (by decide)]) (by rw [sI_adr (by decide)]) (by rw [sI_adr (by decide)]) (by rw [sI_adr (by decide)])
  · rw [sI_adr (by decide)]; exact dd.1 j hj
  · rw [sI_adr (by decide)]; exact dd.2.1 j hj
  · rw [sI_adr (by decide)]; exact dd.2.2
  · rw [sI_oth hj, bb.2.1 27 (by decide) (by decide)]
  · rw [← bb.2.1 a y1 y2]
    funext j
    rw [sI_adr y3]
theorem m_part {p i i3 : Nat} {L : List xC} (hi : i ≤ n) (hq : tC b n i = 262 + p) (hp : p < 3) (hE : MHf k n b X9_either0 31 0 (tN b n i) true i3 L) (h3 : i3 ≤ n) (h9 : tC b n i3 = 59) : MHf k n b (fun s => X9_part (b2i (decide (tC b n i = 262 + p))) s) 31 0 i true (tN b n i3) L := fun s ht ha hb ho => by
  obtain ⟨s1, e1, a1, b1, w1, w2⟩ := m_nxt ht ha hi (kd_4 (by omega))
  have hb1 := w2.trans hb
  obtain ⟨v, s2, e2, b2, y2, z2⟩ := hE s1 (MB_TM b1 ht) a1 hb1 (w1.trans ho)
  rw [MB_env b1] at y2
  obtain ⟨g1, g2, g3, g4⟩ := y2 rfl
  obtain ⟨s3, e3, a3, b3, x1, x2⟩ := m_nxt (MB_TM b2 (MB_TM b1 ht)) g1 h3 (kd_4 (by omega))
  refine ⟨v, s3, ?_, MB_tr b1 (MB_tr b2 b3), fun _ => ⟨a3, x2.trans g2, x1.trans g3, g4⟩, fun g => Bool.noConfusion g⟩
  show X9_part (b2i (decide (tC b n i = 262 + p))) s = _
  rw [decide_eq_true hq]
  unfold X9_part X9_part_j8 X9_part_j19 X9_part_j34 X9_part_j48
  rw [if_neg (show ¬ b2i true = 0 by decide), if_pos hb, ob e1, if_pos hb1, ob e2, m_sign (x := 59) (c := 59) rfl g1 g2 (by decide), if_pos (decide_eq_true h9), if_pos g2, ob e3]
end
/-- the program reads its first rule -/
theorem z_rule (t : mTX) {s : mSG} (h3 : ∀ j, j < 38 → s.1 23 j = nI (ruB j)) (h5 : ∀ i, i < 55 → s.1 5 i = nI (wL i)) : ∃ s1, Z1_parse_23 t 38 s = some (-1, s1) ∧ s1.1 25 2 = nI 5 ∧ (s1.1 27 0 = nI 1 ∧ s1.1 27 1 = nI 2 ∧ s1.1 27 2 = nI 5) ∧ (s1.1 26 0 = xEnc (0, 0) ∧ s1.1 26 1 = xEnc (1, 1) ∧ s1.1 26 2 = xEnc (0, 1) ∧ s1.1 26 3 = xEnc (1, 3) ∧ s1.1 26 4 = xEnc (4, 4)) ∧ (∀ a, a ≠ 25 → a ≠ 26 → a ≠ 27 → s1.1 a = s.1 a) ∧ (∀ a, a ≠ 25 → s1.2.1 a = s.2.1 a) ∧ s1.2.2 = s.2.2 := by
  obtain ⟨⟨k0, k0n⟩, ⟨k5, k5n, k5v⟩, ⟨k7, k7n⟩, ⟨k9, k9n⟩, ⟨k15, k15n⟩, ⟨k19, k19n⟩, ⟨k21, k21n⟩, ⟨k27, k27n, k27v⟩, ⟨k29, k29n⟩, ⟨k31, k31n⟩, ⟨k36, k36n⟩, k38⟩ := tk38
  have t0 : TC 38 ruB (sI (sI (sI (sQ s 25 3 23) 25 4 (nI 38)) 25 2 0) 25 8 0) := by
    refine ⟨?_, ?_, by decide, fun j hj => ⟨?_, ruB_b j (by omega)⟩, fun i hi => ?_⟩
    · show mUp s.2.1 25 3 (some 23) 25 3 = some 23
      exact mUp_at
    · rw [sI_oth (by decide), sI_oth (by decide), sI_same]
    · rw [sI_adr (by decide), sI_adr (by decide), sI_adr (by decide)]; exact h3 j hj
    · rw [sI_adr (by decide), sI_adr (by decide), sI_adr (by decide)]; exact h5 i hi
  obtain ⟨s1, e1, a1, q1⟩ := zc_advance (t := t) t0 (by decide) sI_same
  have t1 := CK_TC q1 t0
  have c1 : s1.1 25 2 = nI 0 := by
    rw [q1.1 2 (by decide) (by decide) (by decide) (by decide), sI_oth (by decide), sI_same]
    rfl
  have n5 := z_num (t := t) (rc := Z1_R t 54) (q := nI 0) (i := 5) (n := 38) (b := ruB) (by decide) (by decide) k5
  rw [k5n, k5v, ← zR_5] at n5
  have E0 : CHf 38 ruB (Z1_R t 60 0 (nI 0)) (tN ruB 38 0) true 7 [(0, 0)] := by
    rw [k0n]
    exact z_up (f := 57) (z_s (f := 55) n5 k7) (by omega) k7
  have n15 := z_nam (t := t) (rc := Z1_R t 54) (q := nI 0) (i := 15) (n := 38) (b := ruB) (e := 1) (by decide) (by decide) k15 (by decide)
  rw [k15n, ← zR_5] at n15
  have E1 : CHf 38 ruB (Z1_R t 60 0 (nI 0)) (tN ruB 38 9) true 19 [(1, 1)] := by
    rw [k9n]
    exact z_up (f := 57) (z_s (f := 55) n15 k19) (by omega) k19
  have n27 := z_num (t := t) (rc := Z1_R t 54) (q := nI 0) (i := 27) (n := 38) (b := ruB) (by decide) (by decide) k27
  rw [k27n, k27v, ← zR_5] at n27
  have n31 := z_nam (t := t) (rc := Z1_R t 54) (q := nI 0) (i := 31) (n := 38) (b := ruB) (e := 3) (by decide) (by decide) k31 (by decide)
  rw [k31n, ← zR_5] at n31
  have S2 : CHf 38 ruB (Z1_R t 57 3 (nI 0)) 27 true 36 ([(0, 1)] ++ [(1, 3)] ++ [(4, 4)]) := by
    rw [show Z1_R t 57 3 (nI 0) = Z1_readsSum_B t (Z1_R t 56) (nI 0) from zR_3]
    refine z_l1 (i1 := 29) (zlpC_S (rc := Z1_R t 56) (q := nI 0)) (fun s => rfl) (z_t (f := 55) n27 (by omega)) (by decide) (by rw [k29]; rfl) (by rw [k29n]; decide) (by decide) ?_ (by rw [k36]; rfl)
    rw [k29n]
    exact z_t (f := 55) n31 (by omega)
  have E2 : CHf 38 ruB (Z1_R t 60 0 (nI 0)) (tN ruB 38 21) true 36 ([(0, 1)] ++ [(1, 3)] ++ [(4, 4)]) := by
    rw [k21n]
    exact z_up (f := 57) S2 (by omega) k36
  obtain ⟨s2, e2, t2, a2, d2, u2, v2, z2⟩ := z_part (p := 0) (by decide) (by decide) k0 E0 (by decide) k7 t1 a1 c1 (Nat.zero_le _)
  rw [k7n] at a2
  obtain ⟨s3, e3, t3, a3, d3, u3, v3, z3⟩ := z_part (p := 1) (by decide) (by decide) k9 E1 (by decide) k19 t2 a2 d2.2.2 (by rw [k9n]; decide)
  rw [k19n] at a3
  obtain ⟨s4, e4, t4, a4, d4, u4, v4, z4⟩ := z_part (p := 2) (by decide) (by decide) k21 E2 (by decide) k36 t3 a3 d3.2.2 (by rw [k21n]; decide)
  rw [k36n] at a4
  have zz := ZB_tr z2 (ZB_tr z3 z4)
  have pr3 : Z1_parse_23_b38 t (nI 3) s4 = some (.inr (.inr s4)) := by
    unfold Z1_parse_23_b38
    rw [if_pos (by decide)]
  have hF : 10 < mFU := by decide
  refine ⟨s4, ?_, d4.2.2, ⟨?_, ?_, u4⟩, ⟨?_, ?_, ?_, ?_, ?_⟩, fun a h25 h26 h27 => ?_, fun a h25 => ?_, ?_⟩
  · unfold Z1_parse_23 Z1_parse_23_l38
    rw [show X8_bounded 38 0 (J9_min 160 (Int32.ofNat 160)) = nI 38 from bnd160 (n := 38) (by decide), ob e1, ob (show iter (fun v : Int32 × mSG => Z1_parse_23_b38 t v.1 v.2) mFU (0, s1) = some (.inr s4) from ?_)]
    · show (if (s4.1 25 5) = 0 then some (-1, s4) else some (s4.1 25 7, s4)) = _
      rw [if_pos ((tk_eq a4 (X := 0) (w := 0) rfl (by omega)).mpr k38)]
    · rw [it_l (by omega) e2, it_l (by omega) e3, it_l (by omega) e4]
      exact it_r (by omega) pr3
  · rw [v4 0 (by decide), v3 0 (by decide)]; exact u2
  · rw [v4 1 (by decide)]; exact u3
  · rw [d4.1 0 (by decide), d3.1 0 (by decide)]; exact d2.2.1 0 (by decide)
  · rw [d4.1 1 (by decide)]; exact d3.2.1 0 (by decide)
  · exact d4.2.1 0 (by decide)
  · exact d4.2.1 1 (by decide)
  · exact d4.2.1 2 (by decide)
  · rw [zz.1 a h25 h26 h27, q1.2.1 a h25]
    funext j
    rw [sI_adr h25, sI_adr h25, sI_adr h25]
    rfl
  · rw [zz.2, q1.2.2]
    show mUp s.2.1 25 3 (some 23) a = _
    rw [mUp_ne h25]
  · rw [zz.2, q1.2.2]
    rfl
/-- the model reads it -/
theorem m_rule {s : mSG} {pt : Nat} (hp : pt < 3) (h7 : ∀ j, j < 40 → s.1 57 j = nI (ruB j)) (h8 : s.1 58 0 = nI 40) : ∃ v s1, X9_read (nI 0) (nI pt) s = some (v, s1) ∧ isV (envM s) 31 (ruC pt) v := by
  obtain ⟨⟨k0, k0n⟩, ⟨k5, k5n, k5v⟩, ⟨k7, k7n⟩, ⟨k9, k9n⟩, ⟨k15, k15n⟩, ⟨k19, k19n⟩, ⟨k21, k21n⟩, ⟨k27, k27n, k27v⟩, ⟨k29, k29n⟩, ⟨k31, k31n⟩, ⟨k36, k36n⟩, k38⟩ := tk40
  have up : ∀ {i i' : Nat} {L : List xC}, MHf 0 40 ruB X9_either0 6 0 i true i' L → MHf 0 40 ruB X9_either0 31 0 i true i' L := fun h s ht ha hb ho => by
    obtain ⟨v, s1, e1, b1, y1, z1⟩ := h s ht ha hb ho
    obtain ⟨g1, g2, g3, g4⟩ := y1 rfl
    exact ⟨v, s1, e1, b1, fun _ => ⟨g1, g2, g3, isV_mono g4 (by decide)⟩, z1⟩
  have eA : ∀ s, X9_atom0 s = gAtom (gNegG X9_atom1) (gParG X9_either1) s := fun s => rfl
  have n5 := m_num (k := 0) (d := 0) (i := 5) (n := 40) (b := ruB) eA (by decide) k5
  rw [k5n, k5v] at n5
  have T0 : MHf 0 40 ruB X9_term0 2 0 5 true 7 [(0, 0)] := m_l0 lpM_T (fun s => rfl) n5 (by decide) (by rw [k7]; rfl)
  have S0 : MHf 0 40 ruB X9_added0 3 0 5 true 7 [(0, 0)] := m_l0 lpM_S (fun s => rfl) T0 (by decide) (by rw [k7]; rfl)
  have E0 : MHf 0 40 ruB X9_either0 31 0 (tN ruB 40 0) true 7 [(0, 0)] := by
    rw [k0n]
    exact up (m_up S0 (by decide) (by decide) (by omega) k7)
  have n15 := m_nam (k := 0) (d := 0) (i := 15) (n := 40) (b := ruB) (e := 1) eA (by decide) k15 (by decide)
  rw [k15n] at n15
  have T1 : MHf 0 40 ruB X9_term0 2 0 15 true 19 [(1, 1)] := m_l0 lpM_T (fun s => rfl) n15 (by decide) (by rw [k19]; rfl)
  have S1 : MHf 0 40 ruB X9_added0 3 0 15 true 19 [(1, 1)] := m_l0 lpM_S (fun s => rfl) T1 (by decide) (by rw [k19]; rfl)
  have E1 : MHf 0 40 ruB X9_either0 31 0 (tN ruB 40 9) true 19 [(1, 1)] := by
    rw [k9n]
    exact up (m_up S1 (by decide) (by decide) (by omega) k19)
  have n27 := m_num (k := 0) (d := 0) (i := 27) (n := 40) (b := ruB) eA (by decide) k27
  rw [k27n, k27v] at n27
  have n31 := m_nam (k := 0) (d := 0) (i := 31) (n := 40) (b := ruB) (e := 3) eA (by decide) k31 (by decide)
  rw [k31n] at n31
  have T2 : MHf 0 40 ruB X9_term0 2 0 27 true 29 [(0, 1)] := m_l0 lpM_T (fun s => rfl) n27 (by decide) (by rw [k29]; rfl)
  have T3 : MHf 0 40 ruB X9_term0 2 0 (tN ruB 40 29) true 36 [(1, 3)] := by
    rw [k29n]
    exact m_l0 lpM_T (fun s => rfl) n31 (by decide) (by rw [k36]; rfl)
  have S2 : MHf 0 40 ruB X9_added0 3 0 27 true 36 ([(0, 1)] ++ [(1, 3)] ++ [(4, 4)]) := m_l1 (i1 := 29) lpM_S (fun s => rfl) T2 (by decide) (by rw [k29]; rfl) (by omega) T3 (by decide) (by rw [k36]; rfl)
  have E2 : MHf 0 40 ruB X9_either0 31 0 (tN ruB 40 21) true 36 ([(0, 1)] ++ [(1, 3)] ++ [(4, 4)]) := by
    rw [k21n]
    exact up (m_up S2 (by decide) (by decide) (by omega) k36)
  have P0 := m_part (k := 0) (n := 40) (b := ruB) (p := 0) (by decide) k0 (by decide) E0 (by decide) k7
  have P1 := m_part (k := 0) (n := 40) (b := ruB) (p := 1) (by decide) k9 (by decide) E1 (by decide) k19
  have P2 := m_part (k := 0) (n := 40) (b := ruB) (p := 2) (by decide) k21 (by decide) E2 (by decide) k36
  rw [k7n] at P0
  rw [k19n] at P1
  rw [k36n] at P2
  obtain ⟨s1, t1, a1, b1, o1, ev, e1⟩ := m_beg (pt := nI pt) (k := 0) (n := 40) (b := ruB) (s := s) (by decide) (by decide) (fun j hj => ruB_b j hj) (fun j hj => by rw [show 160 * 0 + j = j by omega]; exact h7 j hj) h8
  have w0 : X9_isWord 119 97 110 116 115 0 0 0 s1 = some (decide (tC ruB 40 0 = 262 + 0)) := m_word t1 a1 b1 (by decide) (show 6 < 12 by decide) rfl rfl rfl rfl rfl rfl rfl rfl
  obtain ⟨v, s2, e2, m2, y2, _⟩ := P0 s1 t1 a1 b1 o1
  obtain ⟨y3, y4, y5, y6⟩ := y2 rfl
  have t2 := MB_TM m2 t1
  have w1 : X9_isWord 116 97 107 101 115 0 0 0 s2 = some (decide (tC ruB 40 9 = 262 + 1)) := m_word t2 y3 y4 (by decide) (show 7 < 12 by decide) rfl rfl rfl rfl rfl rfl rfl rfl
  obtain ⟨v3, s3, e3, m3, x2, _⟩ := P1 s2 t2 y3 y4 y5
  obtain ⟨x3, x4, x5, x6⟩ := x2 rfl
  have t3 := MB_TM m3 t2
  have w2 : X9_isWord 108 101 110 100 115 0 0 0 s3 = some (decide (tC ruB 40 21 = 262 + 2)) := m_word t3 x3 x4 (by decide) (show 8 < 12 by decide) rfl rfl rfl rfl rfl rfl rfl rfl
  obtain ⟨v4, s4, e4, m4, z2, _⟩ := P2 s3 t3 x3 x4 x5
  obtain ⟨z3, z4, z5, z6⟩ := z2 rfl
  rw [MB_env (MB_tr m2 m3), ev] at z6
  rw [MB_env m2, ev] at x6
  rw [ev] at y6
  refine ⟨if nI pt = 0 then v else if nI pt = 1 then v3 else v4, s4, ?_, ?_⟩
  · rw [e1, ob w0, ob e2]
    show (if (s2.1 56 31) = 0 then _ else _) = _
    rw [if_pos y4, ob w1, ob e3]
    show X9_read_j92 (nI pt) v v3 s3 = _
    unfold X9_read_j92
    rw [if_pos x4, ob w2, ob e4]
    unfold X9_read_j126
    rw [if_pos z4, if_pos (by rw [z3.2.1, kd_0.mpr k38]; rfl)]
    exact m_fin
  · have hc : pt = 0 ∨ pt = 1 ∨ pt = 2 := by omega
    rcases hc with rfl | rfl | rfl
    · exact y6
    · exact x6
    · exact z6
