/-! THE FIRST RULE: pieces -/
theorem zR_0 {t : mTX} {f : Nat} {q : Int32} : Z1_R t (f + 1) 0 q = Z1_readsEither_B t (Z1_R t f) q := funext fun s => rfl
theorem zR_1 {t : mTX} {f : Nat} {q : Int32} : Z1_R t (f + 1) 1 q = Z1_readsBoth_B t (Z1_R t f) q := funext fun s => rfl
theorem zR_2 {t : mTX} {f : Nat} {q : Int32} : Z1_R t (f + 1) 2 q = Z1_readsNot_B t (Z1_R t f) q := funext fun s => rfl
theorem zR_3 {t : mTX} {f : Nat} {q : Int32} : Z1_R t (f + 1) 3 q = Z1_readsSum_B t (Z1_R t f) q := funext fun s => rfl
theorem zR_4 {t : mTX} {f : Nat} {q : Int32} : Z1_R t (f + 1) 4 q = Z1_readsTerm_B t (Z1_R t f) q := funext fun s => rfl
theorem zR_5 {t : mTX} {f : Nat} {q : Int32} : Z1_R t (f + 1) 5 q = Z1_readsOne_B t (Z1_R t f) q := funext fun s => rfl
section
variable {t : mTX} {k n : Nat} {b : Nat → Nat} {rc : Nat → Int32 → mSG → Option (Bool × mSG)} {q : Int32} {i i' : Nat}
theorem z_one (s : mSG) : Z1_readsOne_B t rc q s = if (s.1 25 5) = 2 then (X1_emit (s.1 25 6) s).bind (fun r2 => (Z1_advance t r2).bind (fun r3 => some (true, r3))) else if (s.1 25 5) < 256 then (if (s.1 25 5) = 45 then zcNegB t rc q s else if (s.1 25 5) = 40 then zcParB t rc q s else some (false, s)) else if 262 ≤ (s.1 25 5) then (if (s.1 25 5) = 45 then zcNegB t rc q s else if (s.1 25 5) = 40 then zcParB t rc q s else some (false, s)) else (X1_emit ((-1) - ((s.1 25 5) - 256)) s).bind (fun r6 => (Z1_advance t r6).bind (fun r7 => some (true, r7))) := rfl
theorem z_num (hi : i < n) (hn : n ≤ 160) (c2 : tC b n i = 2) : CHf n b (Z1_readsOne_B t rc q) i true (tN b n i) [(0, tV b n i)] := fun c s ht ha hc hci => by
  have em := c_emit (v := s.1 25 6) hc (by omega)
  obtain ⟨s2, e2, a2, b2, w1, w2⟩ := zc_nxt (t := t) (CB_TC em_CB ht) (em_AT (c := c) (c' := c + 1) (v := s.1 25 6) ha) (by omega)
  refine ⟨s2, ?_, a2, CB_tr em_CB b2, fun _ => ?_⟩
  · rw [z_one, if_pos ((tk_eq ha (X := 2) (w := 2) rfl (by omega)).mpr c2), ob em, ob e2]
  · have d1 : CD c ([] ++ [(0, tV b n i)]) s (sI (sI s 26 c (s.1 25 6)) 25 2 (nI (c + 1))) := CD_one (CD_nil (s1 := s) rfl hc) (ha.2.1 c2)
    have := CD_app d1 (CD_nil w1 (w2.trans sI_same))
    exact this
theorem z_nam {e : Nat} (hi : i < n) (hn : n ≤ 160) (he : tC b n i = 256 + e) (h6 : e < 6) : CHf n b (Z1_readsOne_B t rc q) i true (tN b n i) [(1, e)] := fun c s ht ha hc hci => by
  have ev : (-1 : Int32) - ((s.1 25 5) - 256) = xEnc (1, e) := by
    rw [ha.1, he, show nI (256 + e) - 256 = nI (256 + e - 256) from pk_sub (b := 256) (by omega), show 256 + e - 256 = e by omega, m1s (by omega)]
    rfl
  have em := c_emit (v := xEnc (1, e)) hc (by omega)
  obtain ⟨s2, e2, a2, b2, w1, w2⟩ := zc_nxt (t := t) (CB_TC em_CB ht) (em_AT (c := c) (c' := c + 1) (v := xEnc (1, e)) ha) (by omega)
  refine ⟨s2, ?_, a2, CB_tr em_CB b2, fun _ => ?_⟩
  · rw [z_one, if_neg (fun g => by have := (tk_eq ha (X := 2) (w := 2) rfl (by omega)).mp g; omega), if_neg (by rw [ha.1]; exact nI_nlt (b := 256) (by omega) (by omega)), if_neg (by rw [ha.1]; exact nI_ge (b := 262) (by omega) (by omega)), ev, ob em, ob e2]
  · have d1 : CD c ([] ++ [(1, e)]) s (sI (sI s 26 c (xEnc (1, e))) 25 2 (nI (c + 1))) := CD_one (CD_nil (s1 := s) rfl hc) rfl
    have := CD_app d1 (CD_nil w1 (w2.trans sI_same))
    exact this
theorem z_l0 {C C' : mSG → Option (Bool × mSG)} {bd : Int32 × mSG → Option ((Int32 × mSG) ⊕ (mSG ⊕ mSG))} {sep : Nat → Option Nat} {L : List xC} (hC : zlpC t n b C bd sep) (eC : ∀ s, C' s = (C s).bind (fun r1 => if r1.1 = true then (iter bd mFU (0, r1.2)).bind (fun e12 => Sum.elim (fun e0 => some (false, e0)) (fun e1 => some (true, e1)) e12) else some (false, r1.2))) (h : CHf n b C i true i' L) (hs : sep (tC b n i') = none) : CHf n b C' i true i' L := fun c s ht ha hc hci => by
  obtain ⟨s1, e1, a1, b1, d1⟩ := h c s ht ha hc hci
  refine ⟨s1, ?_, a1, b1, d1⟩
  rw [eC, ob e1, if_pos rfl, ob (it_r (by decide) (hC.1 i' s1 0 a1 hs))]
  rfl
theorem z_l1 {C C' : mSG → Option (Bool × mSG)} {bd : Int32 × mSG → Option ((Int32 × mSG) ⊕ (mSG ⊕ mSG))} {sep : Nat → Option Nat} {i1 o : Nat} {L L2 : List xC} (hC : zlpC t n b C bd sep) (eC : ∀ s, C' s = (C s).bind (fun r1 => if r1.1 = true then (iter bd mFU (0, r1.2)).bind (fun e12 => Sum.elim (fun e0 => some (false, e0)) (fun e1 => some (true, e1)) e12) else some (false, r1.2))) (h : CHf n b C i true i1 L) (hi : i1 ≤ n) (hs : sep (tC b n i1) = some o) (hl : i + L.length ≤ tN b n i1) (hm : i + L.length + L2.length < 160) (h2 : CHf n b C (tN b n i1) true i' L2) (hs' : sep (tC b n i') = none) : CHf n b C' i true i' (L ++ L2 ++ [(4, o)]) := fun c s ht ha hc hci => by
  obtain ⟨s1, e1, a1, b1, d1⟩ := h c s ht ha hc hci
  have d1 := d1 rfl
  obtain ⟨s2, e2, a2, b2, w1, w2⟩ := zc_nxt (t := t) (CB_TC b1 ht) a1 hi
  obtain ⟨s3, e3, a3, b3, d3⟩ := h2 (c + L.length) s2 (CB_TC b2 (CB_TC b1 ht)) a2 (w2.trans d1.2.2) (by omega)
  have d3 := d3 rfl
  have dd : CD c (L ++ L2) s s3 := by
    have := CD_app d1 (CD_app (CD_nil w1 (w2.trans d1.2.2)) d3)
    exact this
  have em := c_emit (v := xOc o) (c := c + (L ++ L2).length) dd.2.2 (by rw [List.length_append]; omega)
  refine ⟨_, ?_, em_AT (v := xOc o) a3, CB_tr (CB_tr b1 (CB_tr b2 b3)) em_CB, fun _ => CD_one dd rfl⟩
  rw [eC, ob e1, if_pos rfl, ob (show iter bd mFU (0, s1) = some (.inr (sI (sI s3 26 (c + (L ++ L2).length) (xOc o)) 25 2 (nI (c + (L ++ L2).length + 1)))) from ?_)]
  · rfl
  · rw [it_l (y := (nI 1, sI (sI s3 26 (c + (L ++ L2).length) (xOc o)) 25 2 (nI (c + (L ++ L2).length + 1)))) (by decide) ?_]
    · exact it_r (by decide) (hC.1 i' _ (nI 1) (em_AT a3) hs')
    · rw [show (0 : Int32) = nI 0 from rfl, hC.2 i1 s1 0 o a1 (by decide) hs, ob e2, ob e3, if_pos rfl, ob em]
theorem z_not {L : List xC} (h0 : ¬ tC b n i = 267) (h : CHf n b (rc 3 q) i true i' L) (hs : spN (tC b n i') = none) : CHf n b (Z1_readsNot_B t rc q) i true i' L := fun c s ht ha hc hci => by
  have eC : Z1_readsNot_B t rc q s = if s.1 25 5 = 267 then zcNotB t rc q s else (rc 3 q s).bind (fun r5 => if r5.1 = true then zcNotT t rc q r5.2 else some (false, r5.2)) := rfl
  obtain ⟨s1, e1, a1, b1, d1⟩ := h c s ht ha hc hci
  refine ⟨s1, ?_, a1, b1, d1⟩
  rw [eC, if_neg (fun g => h0 ((tk_eq ha (X := 267) (w := 267) rfl (by omega)).mp g)), ob e1, if_pos rfl, zcN_0 a1 hs]
/-- one operand alone, all levels -/
theorem z_up {L : List xC} {f : Nat} (h : CHf n b (Z1_R t f 3 q) i true i' L) (h0 : ¬ tC b n i = 267) (hs : tC b n i' = 59) : CHf n b (Z1_R t (f + 3) 0 q) i true i' L := by
  rw [zR_0]
  refine z_l0 (zlpC_E (rc := Z1_R t (f + 2)) (q := q)) (fun s => rfl) ?_ (by rw [hs]; rfl)
  rw [zR_1]
  refine z_l0 (zlpC_B (rc := Z1_R t (f + 1)) (q := q)) (fun s => rfl) ?_ (by rw [hs]; rfl)
  rw [zR_2]
  exact z_not h0 h (by rw [hs]; rfl)
theorem z_t {L : List xC} {f : Nat} (h : CHf n b (Z1_R t f 5 q) i true i' L) (hs : ¬ tC b n i' = 42) : CHf n b (Z1_R t (f + 1) 4 q) i true i' L := by
  rw [zR_4]
  exact z_l0 (zlpC_T (rc := Z1_R t f) (q := q)) (fun s => rfl) h (if_neg hs)
theorem z_s {L : List xC} {f : Nat} (h : CHf n b (Z1_R t f 5 q) i true i' L) (hs : tC b n i' = 59) : CHf n b (Z1_R t (f + 2) 3 q) i true i' L := by
  rw [zR_3]
  exact z_l0 (zlpC_S (rc := Z1_R t (f + 1)) (q := q)) (fun s => rfl) (z_t h (by omega)) (by rw [hs]; rfl)
-- the model
theorem m_l0 {F F' : mSG → Option (Int32 × mSG)} {md : Int32 × mSG → Option ((Int32 × mSG) ⊕ (Int32 × mSG))} {sep : Nat → Option Nat} {dd d : Nat} {L : List xC} (hM : lpM k n b F md sep) (eF : ∀ s, F' s = (F s).bind (fun r1 => (iter md mFU (r1.1, r1.2)).bind (fun e5 => some (e5.1, e5.2)))) (h : MHf k n b F dd d i true i' L) (hi : i' ≤ n) (hs : sep (tC b n i') = none) : MHf k n b F' (dd + 1) d i true i' L := fun s ht ha hb ho => by
  obtain ⟨v, s1, e1, b1, y1, z1⟩ := h s ht ha hb ho
  obtain ⟨g1, g2, g3, g4⟩ := y1 rfl
  refine ⟨v, s1, ?_, b1, fun _ => ⟨g1, g2, g3, isV_mono g4 (by omega)⟩, fun g => Bool.noConfusion g⟩
  rw [eF, ob e1, ob (it_r (by decide) (hM.1 i' s1 v (MB_TM b1 ht) g1 hi g2 hs))]
theorem m_l1 {F F' : mSG → Option (Int32 × mSG)} {md : Int32 × mSG → Option ((Int32 × mSG) ⊕ (Int32 × mSG))} {sep : Nat → Option Nat} {dd d i1 o : Nat} {L L2 : List xC} (hM : lpM k n b F md sep) (eF : ∀ s, F' s = (F s).bind (fun r1 => (iter md mFU (r1.1, r1.2)).bind (fun e5 => some (e5.1, e5.2)))) (h : MHf k n b F dd d i true i1 L) (hi : i1 ≤ n) (hs : sep (tC b n i1) = some o) (h1 : ¬ tC b n i1 = 1) (h2 : MHf k n b F dd d (tN b n i1) true i' L2) (hi' : i' ≤ n) (hs' : sep (tC b n i') = none) : MHf k n b F' (dd + 1) d i true i' (L ++ L2 ++ [(4, o)]) := fun s ht ha hb ho => by
  obtain ⟨v, s1, e1, b1, y1, z1⟩ := h s ht ha hb ho
  obtain ⟨g1, g2, g3, g4⟩ := y1 rfl
  obtain ⟨s2, e2, a2, b2, w1, w2⟩ := m_nxt (MB_TM b1 ht) g1 hi (kd_4 h1)
  obtain ⟨w, s3, e3, b3, y3, _⟩ := h2 s2 (MB_TM b2 (MB_TM b1 ht)) a2 (w2.trans g2) (w1.trans g3)
  obtain ⟨x1, x2, x3, x4⟩ := y3 rfl
  rw [MB_env (MB_tr b1 b2)] at x4
  have bb := MB_tr b1 (MB_tr b2 b3)
  refine ⟨xOp o v w, s3, ?_, bb, fun _ => ⟨x1, x2, x3, isV_mono (isV_bin o g4 x4) (by omega)⟩, fun g => Bool.noConfusion g⟩
  rw [eF, ob e1, ob (show iter md mFU (v, s1) = some (xOp o v w, s3) from ?_)]
  rw [it_l (y := (xOp o v w, s3)) (by decide) (by rw [hM.2.2 i1 s1 v o (MB_TM b1 ht) g1 hi g2 hs, ob e2, ob e3])]
  exact it_r (by decide) (hM.1 i' s3 _ (MB_TM bb ht) x1 hi' x2 hs')
theorem m_not0 {F F' G : mSG → Option (Int32 × mSG)} {dd d : Nat} {L : List xC} (eF : ∀ s, F' s = gNot G F s) (hi : i ≤ n) (h0 : ¬ tC b n i = 267) (h : MHf k n b F dd d i true i' L) (hs : spN (tC b n i') = none) : MHf k n b F' (dd + 1) d i true i' L := fun s ht ha hb ho => by
  have W : X9_isWord 110 111 116 0 0 0 0 0 s = some (decide (tC b n i = 256 + 11)) := m_word ht ha hb hi (by omega) rfl rfl rfl rfl rfl rfl rfl rfl
  obtain ⟨v, s1, e1, b1, y1, z1⟩ := h s ht ha hb ho
  obtain ⟨g1, g2, g3, g4⟩ := y1 rfl
  refine ⟨v, s1, ?_, b1, fun _ => ⟨g1, g2, g3, isV_mono g4 (by omega)⟩, fun g => Bool.noConfusion g⟩
  rw [eF]
  unfold gNot
  rw [ob (w_n W h0), if_neg (by decide), ob e1, mN_0 g1 g2 hs]
theorem m_at {F' Gn Gp : mSG → Option (Int32 × mSG)} (eF : ∀ s, F' s = gAtom Gn Gp s) {s : mSG} (ha : AM n b i s) (hb : s.1 56 31 = 0) (h5 : ¬ tC b n i = 45) (h0 : ¬ tC b n i = 40) : F' s = if (s.1 56 27) = 2 then (X9_next s).bind (fun r3 => some ((s.2.2 56 29).toInt32, r3)) else if (s.1 56 27) = 1 then (X9_name s).bind (fun r8 => if (r8.2.1 56 31) = 0 then (X9_next r8.2).bind (fun r10 => some (r8.1, r10)) else some (r8.1, r8.2)) else gAtF 0 s := by
  rw [eF]
  unfold gAtom
  rw [m_sign (x := 45) (c := 45) rfl ha hb (by decide), if_neg (by rw [decide_eq_false h5]; decide), m_sign (x := 40) (c := 40) rfl ha hb (by decide), if_neg (by rw [decide_eq_false h0]; decide), if_pos hb]
  unfold gAtJ
  rw [if_pos hb]
theorem m_num {F' Gn Gp : mSG → Option (Int32 × mSG)} {d : Nat} (eF : ∀ s, F' s = gAtom Gn Gp s) (hi : i ≤ n) (c2 : tC b n i = 2) : MHf k n b F' 1 d i true (tN b n i) [(0, tV b n i)] := fun s ht ha hb ho => by
  obtain ⟨kk, vb⟩ := tV_b hi c2
  obtain ⟨s1, e1, a1, b1, w1, w2⟩ := m_nxt ht ha hi (by omega)
  refine ⟨nI (tV b n i), s1, ?_, b1, fun _ => ⟨a1, w2.trans hb, w1.trans ho, isV_lit _ _⟩, fun g => Bool.noConfusion g⟩
  rw [m_at eF ha hb (by omega) (by omega), if_pos (by rw [ha.2.1, kk]; rfl), ob e1, ha.2.2.2.1 kk, lN_i]
theorem m_nam {F' Gn Gp : mSG → Option (Int32 × mSG)} {d e : Nat} (eF : ∀ s, F' s = gAtom Gn Gp s) (hi : i ≤ n) (he : tC b n i = 256 + e) (h6 : e < 6) : MHf k n b F' 1 d i true (tN b n i) [(1, e)] := fun s ht ha hb ho => by
  have kk := kd_W (b := b) (n := n) (i := i) (by omega)
  obtain ⟨s1, e1, a1, b1, w1, w2⟩ := m_nxt ht ha hi (by omega)
  have nm := (m_name ht ha hb hi).1 e h6 he
  refine ⟨s.1 56 (18 + e), s1, ?_, b1, fun _ => ⟨a1, w2.trans hb, w1.trans ho, ?_⟩, fun g => Bool.noConfusion g⟩
  · rw [m_at eF ha hb (by omega) (by omega), if_neg (by rw [ha.2.1, kk]; decide), if_pos (by rw [ha.2.1, kk]; rfl), ob nm, if_pos hb, ob e1]
  · have := isV_nam (envM s) e
    rw [show envM s e = s.1 56 (18 + e) from if_pos h6] at this
    exact this
theorem m_up {L : List xC} (h : MHf k n b X9_added0 3 0 i true i' L) (hi : i ≤ n) (hi' : i' ≤ n) (h0 : ¬ tC b n i = 267) (hs : tC b n i' = 59) : MHf k n b X9_either0 6 0 i true i' L := by
  have N : MHf k n b X9_not0 4 0 i true i' L := m_not0 (G := gNotG X9_not1) (fun s => rfl) hi h0 h (by rw [hs]; rfl)
  have B : MHf k n b X9_both0 5 0 i true i' L := m_l0 lpM_B (fun s => rfl) N hi' (by rw [hs]; rfl)
  exact m_l0 lpM_E (fun s => rfl) B hi' (by rw [hs]; rfl)
end
