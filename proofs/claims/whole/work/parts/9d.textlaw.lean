/-! text() -/
theorem beq_n {a b : Nat} (h : a ≠ b) : Nat.beq a b = false := by
  cases hh : Nat.beq a b with
  | false => rfl
  | true => exact absurd (Nat.eq_of_beq_eq_true hh) h
theorem mW_N {N a k : Nat} (hN : 84 ≤ N) (ha : a < 84) : mW [(N, none), (N + 1, none), (N + 1 + 1, none)] a k = false := by
  unfold mW
  simp only [List.any_cons, List.any_nil, beq_n (show N ≠ a by omega), beq_n (show N + 1 ≠ a by omega), beq_n (show N + 1 + 1 ≠ a by omega), Bool.false_and, Bool.or_false]
theorem frW_N {C : Nat → Nat → Bool} {CA : Nat → Bool} {N : Nat} (h : ∀ a, 84 ≤ a → CA a = false) (hN : 84 ≤ N) : frW C CA [(N, none), (N + 1, none), (N + 1 + 1, none)] = true := by
  unfold frW
  simp only [List.all_cons, List.all_nil, h N hN, h (N + 1) (by omega), h (N + 1 + 1) (by omega), Bool.not_false, Bool.and_true]
theorem kpA_hi (a : Nat) (h : 84 ≤ a) : kpA a = false := by
  unfold kpA
  rw [ble_n (show 16 < a by omega), ble_n (show 79 < a by omega), beq_n (show a ≠ 6 by omega), beq_n (show a ≠ 56 by omega)]
  simp
theorem shA_hi (a : Nat) (h : 84 ≤ a) : shA a = false := by
  unfold shA
  rw [ble_n (show 24 < a by omega), ble_n (show 52 < a by omega), ble_n (show 83 < a by omega)]
  simp
theorem nwA_hi (a : Nat) (h : 84 ≤ a) : nwA a = false := by
  unfold nwA
  rw [ble_n (show 11 < a by omega), ble_n (show 68 < a by omega), beq_n (show a ≠ 7 by omega), beq_n (show a ≠ 56 by omega)]
  simp
theorem AbOK_up {A : Ab} {tc : Nat} (h : AbOK A tc) : AbOK A (tc + 1) := by
  obtain ⟨h1, h2, h3, h4⟩ := h
  exact ⟨h1, h2, Nat.lt_succ_of_lt h3, h4⟩
theorem KP_up {hk : Bool} {K A : Ab} {tc : Nat} {s : mSG} (h : KP hk K A tc s) : KP hk K A (tc + 1) s := by
  obtain ⟨h1, h2, h3⟩ := h
  refine ⟨h1, h2, fun q => ?_⟩
  obtain ⟨k1, k2, k3⟩ := h3 q
  exact ⟨k1, AbOK_up k2, k3⟩
/-- the tape into the texts -/
theorem m_txl {tc ts : Nat} {tp : Nat → Nat} {s : mSG} (h3 : s.1 56 3 = nI tc) (htc : tc < 6) (h6 : s.1 56 6 = nI ts) (hts : ts ≤ 160) (h9 : ∀ i, i < ts → s.1 59 i = nI (tp i)) : ∃ e, X9_text_l14 (0, s) = some e ∧ ((∀ j, j < ts → e.1 57 (160 * tc + j) = nI (tp j)) ∧ (∀ j, j < 160 * tc → e.1 57 j = s.1 57 j) ∧ (∀ a, a ≠ 57 → e.1 a = s.1 a)) := by
  unfold X9_text_l14
  refine lpN (fun i (v : Int32 × mSG) => v.1 = nI i ∧ (∀ j, j < i → v.2.1 57 (160 * tc + j) = nI (tp j)) ∧ (∀ j, j < 160 * tc → v.2.1 57 j = s.1 57 j) ∧ (∀ a, a ≠ 57 → v.2.1 a = s.1 a)) (fun e : mSG => (∀ j, j < ts → e.1 57 (160 * tc + j) = nI (tp j)) ∧ (∀ j, j < 160 * tc → e.1 57 j = s.1 57 j) ∧ (∀ a, a ≠ 57 → e.1 a = s.1 a)) ts (by unfold mFU; omega) ?_ ?_ (k := 0) (Nat.zero_le _) (x := (0, s)) ⟨rfl, fun j hj => absurd hj (Nat.not_lt_zero j), fun _ _ => rfl, fun _ _ => rfl⟩
  · intro i v hi hv
    obtain ⟨y, e⟩ := v
    obtain ⟨g1, g2, g3, g4⟩ := hv
    have g1 : y = nI i := g1
    subst g1
    have g2 : ∀ j, j < i → e.1 57 (160 * tc + j) = nI (tp j) := g2
    have g3 : ∀ j, j < 160 * tc → e.1 57 j = s.1 57 j := g3
    have g4 : ∀ a, a ≠ 57 → e.1 a = s.1 a := g4
    refine ⟨(nI (i + 1), sI e 57 (160 * tc + i) (nI (tp i))), ?_, rfl, fun j hj => ?_, fun j hj => ?_, fun a ha => ?_⟩
    · show X9_text_b14 (nI i) e = _
      unfold X9_text_b14
      rw [g4 56 (by decide), h6, if_neg (nI_ge hi (by omega)), if_pos (gl_inb (show i < 160 by omega) (by omega)), h3, show (160 : Int32) * nI tc = nI (160 * tc) from pk_mul 160 tc, nI_add, if_pos (gl_inb (show 160 * tc + i < 960 by omega) (by omega)), nl_cl (by omega), nl_cl (by omega), g4 59 (by decide), h9 i hi, nI_1]
    · show (sI e 57 (160 * tc + i) (nI (tp i))).1 57 (160 * tc + j) = _
      by_cases q : j = i
      · subst q; rw [sI_same]
      · rw [sI_oth (by omega)]; exact g2 j (by omega)
    · show (sI e 57 (160 * tc + i) (nI (tp i))).1 57 j = _
      rw [sI_oth (by omega)]; exact g3 j hj
    · show (sI e 57 (160 * tc + i) (nI (tp i))).1 a = _
      rw [← g4 a ha]
      funext j
      rw [sI_adr ha]
  · intro v hv
    obtain ⟨y, e⟩ := v
    obtain ⟨g1, g2, g3, g4⟩ := hv
    have g1 : y = nI ts := g1
    subst g1
    have g4 : ∀ a, a ≠ 57 → e.1 a = s.1 a := g4
    refine ⟨e, ?_, g2, g3, g4⟩
    show X9_text_b14 (nI ts) e = _
    unfold X9_text_b14
    rw [g4 56 (by decide), h6, if_pos (nI_le (Nat.le_refl _) (by omega))]
/-- what code leaves -/
def vOf (l : List xC) (env : Nat → Int32) : Int32 := match xRun env l [] with
  | some (v :: _) => v
  | _ => 0
theorem vOf_e {l : List xC} {env : Nat → Int32} {v : Int32} (h : xRun env l [] = some [v]) : vOf l env = v := by
  unfold vOf
  rw [h]
/-- a bound of the layout -/
def TB (t : mTX) : Prop := t.2.1 ≤ 5 ∧ ∀ j, j < t.2.1 → t.2.2 j ≤ 160
theorem L_text {t : mTX} {s : mSG} (D : Nat) (h : INV t s) (hB : TB t) : ∃ v s1 t1 s2, Runs (D + 70) 84 [.ref 6] s (LAY t) (some (.int v), s1, LAY t1) ∧ X9_text s1 = some (v, s2) ∧ INV t1 s2 ∧ TB t1 ∧ t1.1 = t.1 ∧ mLe (LAY t) (LAY t1) := by
  have hI := h
  obtain ⟨tc, V, A, hk, K, ts, tp, sk, sn, si, hv⟩ := h
  obtain ⟨⟨a1, a2, a3, a4, a5, a6⟩, b, c, d, e, p, z⟩ := hv
  have d' := d
  obtain ⟨d1, d2, d3, d4⟩ := d'
  by_cases q6 : tc = 6
  · subst q6
    refine ⟨-4, s, t, s, T_textF D t s a3, ?_, hI, hB, rfl, mLe_refl _⟩
    unfold X9_text
    rw [a4, if_pos (show nI 6 = 6 from rfl)]
  · have htc : tc < 6 := by omega
    obtain ⟨ok, pos, L, hL, hpos, hC, hM⟩ := rd_text (t := t) (k := tc) (n := ts) (b := tp) d1 htc (fun j hj => (d4 j hj).1)
    obtain ⟨s1, e1, cd⟩ := hC s (fun j hj => (d4 j hj).2.1) z
    have f1 := FR_X1_parse_23 _ _ _ _ e1
    rw [← d2] at e1
    -- the model, from any state that has the tape
    have hX : ∀ σ : mSG, σ.1 56 3 = nI tc → σ.1 56 6 = nI ts → (∀ i, i < ts → σ.1 59 i = nI (tp i)) → ∃ r, ((∀ j, j < ts → r.1 57 (160 * tc + j) = nI (tp j)) ∧ r.1 58 tc = nI ts ∧ r.1 56 6 = 0) ∧ (∀ j, j < 160 * tc → r.1 57 j = σ.1 57 j) ∧ (∀ j, j ≠ tc → r.1 58 j = σ.1 58 j) ∧ r.1 56 3 = nI tc ∧ (ok = true → X9_text σ = some (nI tc, sI r 56 3 (nI (tc + 1)))) ∧ (ok = false → X9_text σ = some (-100 - nI (tA tp ts pos), r)) := by
      intro σ g3 g6 g9
      obtain ⟨e, le, l1, l2, l3⟩ := m_txl g3 htc g6 d1 g9
      have x3 : e.1 56 3 = nI tc := by rw [l3 56 (by decide)]; exact g3
      have x6 : e.1 56 6 = nI ts := by rw [l3 56 (by decide)]; exact g6
      obtain ⟨v, r, er, ry, rn⟩ := hM (sI (sI e 58 tc (nI ts)) 56 6 0) 0 (by decide) (fun j hj => by rw [sI_adr (by decide), sI_adr (by decide)]; exact l1 j hj) (by rw [sI_adr (by decide), sI_same])
      have fr := FR_X9_read _ _ _ _ er
      have er : X9_read (nI tc) 0 (sI (sI e 58 tc (nI ts)) 56 6 0) = some (v, r) := er
      have y3 : r.1 56 3 = nI tc := by rw [(fr 56 3 rfl).1, sI_oth (by decide), sI_adr (by decide)]; exact x3
      refine ⟨r, ⟨fun j hj => ?_, ?_, ?_⟩, fun j hj => ?_, fun j hj => ?_, y3, fun g => ?_, fun g => ?_⟩
      · rw [(fr 57 _ rfl).1, sI_adr (by decide), sI_adr (by decide)]; exact l1 j hj
      · rw [(fr 58 _ rfl).1, sI_adr (by decide), sI_same]
      · rw [(fr 56 6 rfl).1, sI_same]
      · rw [(fr 57 _ rfl).1, sI_adr (by decide), sI_adr (by decide)]; exact l2 j hj
      · rw [(fr 58 _ rfl).1, sI_adr (by decide), sI_oth hj, l3 58 (by decide)]
      · unfold X9_text
        rw [g3, if_neg (show ¬ nI tc = 6 from fun g => by rw [show (6 : Int32) = nI 6 from rfl, nl_eq (by omega) (by omega)] at g; exact q6 g), ob le, x3, if_pos (gl_inb htc (by omega)), nl_cl (by omega), x6, ob er, if_pos (ry g).1, y3, nI_1, nI_pred]
      · obtain ⟨z1, z2⟩ := rn g
        unfold X9_text
        rw [g3, if_neg (show ¬ nI tc = 6 from fun g => by rw [show (6 : Int32) = nI 6 from rfl, nl_eq (by omega) (by omega)] at g; exact q6 g), ob le, x3, if_pos (gl_inb htc (by omega)), nl_cl (by omega), x6, ob er, if_neg (by rw [z1]; decide), z2]
    cases ok with
    | false =>
      have f2 : Fr [(6, some 12)] s1 (sI s1 6 12 0) := Fr.wI Fr.rf rfl
      have T := T_textN D t s s1 tc (nI (tA tp ts pos)) a3 htc e1 (fun g => by
        have hA := tA_b (b := tp) hpos
        rw [show (-1 : Int32) = -nI 1 from rfl, nl_eqN (by omega) (by omega) (by omega)] at g
        exact g)
      obtain ⟨r, ⟨r1, r2, r3⟩, r4, r5, r6, _, r7⟩ := hX (sI s1 6 12 0) (by rw [(f2 56 3 rfl).1, (f1 56 3 rfl).1]; exact a4) (by rw [(f2 56 6 rfl).1, (f1 56 6 rfl).1]; exact d3) (fun i hi => by rw [(f2 59 i rfl).1, (f1 59 i rfl).1]; exact (d4 i hi).2.2)
      have r7 := r7 rfl
      have f3 := FR_X9_text _ _ r7
      refine ⟨_, _, t, r, T, r7, ⟨tc, V, A, hk, K, 0, tp, sk, sn, si, ⟨?_, ?_, ?_, r6, a5, a6⟩, NW_k (NW_k (NW_k b f1 rfl) f2 rfl) f3 rfl, KP_k (KP_k (KP_k c f1 rfl) f2 rfl) f3 rfl, ⟨by omega, ?_, r3, fun i hi => absurd hi (Nat.not_lt_zero i)⟩, SH_k (SH_k (SH_k e f1 rfl) f2 rfl) f3 rfl, ⟨?_, ?_⟩, ?_⟩, hB, rfl, mLe_refl _⟩
      · exact CT_fr (CT_fr (CT_fr a1 f1 rfl) f2 rfl) f3 rfl
      · intro k hk2 s2 g1 g2 pt hpt
        refine a2 k hk2 s2 (fun j j1 j2 => ?_) ?_ pt hpt
        · rw [g1 j j1 j2, r4 j (by omega), (f2 57 j rfl).1, (f1 57 j rfl).1]
        · rw [g2, r5 k (by omega), (f2 58 k rfl).1, (f1 58 k rfl).1]
      · rw [(f3 6 11 rfl).1, (f2 6 11 rfl).1, (f1 6 11 rfl).1]; exact a3
      · rw [(f3 6 12 rfl).1]; exact sI_same
      · rw [(f3 34 8 rfl).1, (f2 34 8 rfl).1, (f1 34 8 rfl).1]; exact p.1
      · rw [(f3 34 9 rfl).1, (f2 34 9 rfl).1, (f1 34 9 rfl).1]; exact p.2
      · exact SS_fr (SS_fr (SS_fr z f1 (fun _ => rfl) (fun _ => rfl)) f2 (fun _ => rfl) (fun _ => rfl)) f3 (fun _ => rfl) (fun _ => rfl)
    | true =>
      obtain ⟨hL1, hL2⟩ := hL rfl
      obtain ⟨c1, ⟨c2, c3, c4⟩, c5, c6, c7⟩ := cd rfl
      have hm : (L 0).length + (L 1).length + (L 2).length ≤ 160 := by omega
      obtain ⟨s3, n1, n2, n3, T⟩ := T_textY D t s s1 tc ((L 0).length + (L 1).length + (L 2).length) a3 htc a5 e1 (by rw [(f1 6 11 rfl).1]; exact a3) c1 hm
      have f2 : Fr [(6, some 12)] s1 (sI s1 6 12 0) := Fr.wI Fr.rf rfl
      have f3 : Fr [(84 + 3 * t.2.1, none), (84 + 3 * t.2.1 + 1, none), (84 + 3 * t.2.1 + 1 + 1, none)] (sI s1 6 12 0) s3 := by
        intro a k hw
        have h1 : a ≠ 84 + 3 * t.2.1 := fun g => by
          subst g
          simp [mW] at hw
        have h2 : a ≠ 84 + 3 * t.2.1 + 1 := fun g => by
          subst g
          simp [mW] at hw
        have h3 : a ≠ 84 + 3 * t.2.1 + 1 + 1 := fun g => by
          subst g
          simp [mW] at hw
        obtain ⟨x1, x2, x3⟩ := n1 a h1 h2 h3
        exact ⟨by rw [x1], by rw [x2]; rfl, by rw [x3]; rfl⟩
      have f4 : Fr [(22, none), (6, some 11)] s3 (sI (sQ s3 22 tc (84 + 3 * t.2.1)) 6 11 (nI (tc + 1))) := Fr.wI (Fr.wQ Fr.rf rfl) rfl
      have lo : ∀ a k, a < 84 → mW [(84 + 3 * t.2.1, none), (84 + 3 * t.2.1 + 1, none), (84 + 3 * t.2.1 + 1 + 1, none)] a k = false := fun a k ha => mW_N (by omega) ha
      obtain ⟨r, ⟨r1, r2, r3⟩, r4, r5, r6, r7, _⟩ := hX (sI (sQ s3 22 tc (84 + 3 * t.2.1)) 6 11 (nI (tc + 1))) (by rw [(f4 56 3 rfl).1, (f3 56 3 (lo _ _ (by omega))).1, (f2 56 3 rfl).1, (f1 56 3 rfl).1]; exact a4) (by rw [(f4 56 6 rfl).1, (f3 56 6 (lo _ _ (by omega))).1, (f2 56 6 rfl).1, (f1 56 6 rfl).1]; exact d3) (fun i hi => by rw [(f4 59 i rfl).1, (f3 59 i (lo _ _ (by omega))).1, (f2 59 i rfl).1, (f1 59 i rfl).1]; exact (d4 i hi).2.2)
      have r7 := r7 rfl
      have f5 := FR_X9_text _ _ r7
      have e57 : ∀ j, j < ts → (sI r 56 3 (nI (tc + 1))).1 57 (160 * tc + j) = nI (tp j) := fun j hj => by rw [sI_adr (by decide)]; exact r1 j hj
      have e58 : (sI r 56 3 (nI (tc + 1))).1 58 tc = nI ts := by rw [sI_adr (by decide)]; exact r2
      have runs : ∀ pt, pt < 3 → ∀ env, xRun env (L pt) [] = some [vOf (L pt) env] := by
        intro pt hpt env
        obtain ⟨v, q, _, ry, _⟩ := hM ((fun a k => if a = 56 then (if 18 ≤ k then env (k - 18) else r.1 a k) else r.1 a k), r.2) pt hpt (fun j hj => r1 j hj) r2
        have hv := (ry rfl).2 [] (by decide)
        have he : xRun env (L pt) [] = some [v] := by
          rw [← hv]
          refine xRun_env (fun i hi => ?_) _ (hL2 pt hpt) []
          unfold envM
          rw [if_pos hi]
          show env i = (if 18 ≤ 18 + i then env (18 + i - 18) else r.1 56 (18 + i))
          rw [if_pos (by omega), show 18 + i - 18 = i by omega]
        rw [he, vOf_e he]
      have tO : txO tc = 84 + 3 * t.2.1 := by
        unfold txO
        rw [if_neg (by omega), show tc - 1 = t.2.1 by omega]
      have tNn : txN (tNx t ((L 0).length + (L 1).length + (L 2).length)) tc = (L 0).length + (L 1).length + (L 2).length := by
        unfold txN
        rw [if_neg (by omega)]
        show (if tc - 1 = t.2.1 then _ else _) = _
        rw [if_pos (by omega)]
      have cN1 : ∀ j, j < (L 0).length + (L 1).length + (L 2).length → (sI r 56 3 (nI (tc + 1))).1 (txO tc + 1) j = s1.1 26 j := fun j hj => by
        rw [(f5 _ _ (wTx_w (W := W_X9_text) rfl tc 1 (Or.inl rfl) j)).1, tO, sI_adr (by omega)]
        exact n2 j hj
      have cN2 : ∀ j, j < 3 → (sI r 56 3 (nI (tc + 1))).1 (txO tc + 2) j = s1.1 27 j := fun j hj => by
        rw [(f5 _ _ (wTx_w (W := W_X9_text) rfl tc 2 (Or.inr rfl) j)).1, tO, sI_adr (by omega)]
        exact n3 j hj
      have tlo : ∀ k, k < tc → txO k + 2 < 84 + 3 * t.2.1 := fun k hk2 => by
        unfold txO
        by_cases q : k = 0
        · rw [if_pos q]; omega
        · rw [if_neg q]; omega
      have old : ∀ k, k < tc → ∀ i, i = 1 ∨ i = 2 → ∀ j, (sI r 56 3 (nI (tc + 1))).1 (txO k + i) j = s.1 (txO k + i) j := fun k hk2 i hi j => by
        have h1 := tlo k hk2
        have h2 := txO_ge k
        rw [(f5 _ _ (wTx_w (W := W_X9_text) rfl k i hi j)).1, sI_adr (by omega)]
        show s3.1 (txO k + i) j = _
        rw [(n1 (txO k + i) (by omega) (by omega) (by omega)).1, sI_adr (by omega)]
        exact (f1 _ _ (wTx_w (W := W_X1_parse_23) rfl k i hi j)).1
      have oldR : ∀ k, k < tc → (sI r 56 3 (nI (tc + 1))).2.1 22 k = s.2.1 22 k := fun k hk2 => by
        rw [(f5 22 k rfl).2.1]
        show mUp s3.2.1 22 tc (some (84 + 3 * t.2.1)) 22 k = _
        rw [mUp_off (by omega), (n1 22 (by omega) (by omega) (by omega)).2.1]
        exact (f1 22 k rfl).2.1
      have nw := NW_k (NW_k (NW_k (NW_k (NW_k b f1 rfl) f2 rfl) f3 (frW_N nwA_hi (by omega))) f4 rfl) f5 rfl
      have hle : mLe (LAY t) (LAY (tNx t ((L 0).length + (L 1).length + (L 2).length))) := by
        rw [← LAY_new]
        exact ⟨by show 84 + 3 * t.2.1 ≤ 84 + 3 * t.2.1 + 1 + 1 + 1; omega, by show 5228 + LSL t.2.2 t.2.1 ≤ 5228 + LSL t.2.2 t.2.1 + 2 + _ + 3; omega⟩
      have lo3 : ∀ a k, a < 84 → s3.1 a k = (sI s1 6 12 0).1 a k := fun a k ha => (f3 a k (lo a k ha)).1
      refine ⟨_, _, tNx t ((L 0).length + (L 1).length + (L 2).length), _, T, r7, ⟨tc + 1, fun k p env => if k = tc then vOf (L p) env else V k p env, A, hk, K, 0, tp, sk, sn, si, ⟨?_, ?_, ?_, sI_same, ?_, by omega⟩, ⟨nw.1, nw.2.1, AbOK_up nw.2.2⟩, KP_up (KP_k (KP_k (KP_k (KP_k (KP_k c f1 rfl) f2 rfl) f3 (frW_N kpA_hi (by omega))) f4 rfl) f5 rfl), ⟨by omega, ?_, ?_, fun i hi => absurd hi (Nat.not_lt_zero i)⟩, SH_k (SH_k (SH_k (SH_k (SH_k e f1 rfl) f2 rfl) f3 (frW_N shA_hi (by omega))) f4 rfl) f5 rfl, ⟨?_, ?_⟩, ?_⟩, ⟨?_, ?_⟩, rfl, hle⟩
      · intro k hk2
        by_cases q : k = tc
        · subst q
          refine ⟨by show k ≤ t.2.1 + 1; omega, ?_, L, fun pt hpt => ⟨hL2 pt hpt, fun env => ?_⟩, ⟨?_, ?_, ?_⟩, ⟨by rw [tNn]; omega, hm⟩, fun j hj => ?_, fun j hj => ?_, fun j hj => ?_⟩
          · rw [(f5 22 k rfl).2.1, tO]
            show mUp s3.2.1 22 k (some (84 + 3 * t.2.1)) 22 k = _
            rw [mUp_at]
          · show xRun env (L pt) [] = some [if k = k then vOf (L pt) env else _]
            rw [if_pos rfl]
            exact runs pt hpt env
          · rw [cN2 0 (by decide)]; exact c2
          · rw [cN2 1 (by decide)]; exact c3
          · rw [cN2 2 (by decide)]; exact c4
          · rw [cN1 j (by omega)]; exact c5 j hj
          · rw [cN1 _ (by omega)]; exact c6 j hj
          · rw [cN1 _ (by omega)]; exact c7 j hj
        · have hk3 : k < tc := by omega
          obtain ⟨u1, u2, L', u3, ⟨u4, u5, u6⟩, ⟨u7, u8⟩, u9, u10, u11⟩ := a1 k hk3
          have tk : txN (tNx t ((L 0).length + (L 1).length + (L 2).length)) k = txN t k := by
            unfold txN
            by_cases q0 : k = 0
            · rw [if_pos q0, if_pos q0]
            · rw [if_neg q0, if_neg q0]
              show (if k - 1 = t.2.1 then _ else _) = _
              rw [if_neg (by omega)]
          refine ⟨by show k ≤ t.2.1 + 1; omega, by rw [oldR k hk3]; exact u2, L', fun pt hpt => ⟨(u3 pt hpt).1, fun env => ?_⟩, ⟨?_, ?_, ?_⟩, ⟨by rw [tk]; exact u7, u8⟩, fun j hj => ?_, fun j hj => ?_, fun j hj => ?_⟩
          · show xRun env (L' pt) [] = some [if k = tc then _ else V k pt env]
            rw [if_neg q]
            exact (u3 pt hpt).2 env
          · rw [old k hk3 2 (Or.inr rfl)]; exact u4
          · rw [old k hk3 2 (Or.inr rfl)]; exact u5
          · rw [old k hk3 2 (Or.inr rfl)]; exact u6
          · rw [old k hk3 1 (Or.inl rfl)]; exact u9 j hj
          · rw [old k hk3 1 (Or.inl rfl)]; exact u10 j hj
          · rw [old k hk3 1 (Or.inl rfl)]; exact u11 j hj
      · intro k hk2 s2 g1 g2 pt hpt
        by_cases q : k = tc
        · subst q
          obtain ⟨v, q', er, ry, _⟩ := hM s2 pt hpt (fun j hj => by rw [g1 _ (by omega) (by omega)]; exact e57 j hj) (by rw [g2]; exact e58)
          refine ⟨q', ?_⟩
          rw [er]
          have hv := (ry rfl).2 [] (by decide)
          have he : xRun (fun i => s2.1 56 (18 + i)) (L pt) [] = some [v] := by
            rw [← hv]
            refine xRun_env (fun i hi => ?_) _ (hL2 pt hpt) []
            unfold envM
            rw [if_pos hi]
          show some (v, q') = some (if k = k then vOf (L pt) (fun i => s2.1 56 (18 + i)) else _, q')
          rw [if_pos rfl, vOf_e he]
        · have hk3 : k < tc := by omega
          obtain ⟨q', er⟩ := a2 k hk3 s2 (fun j j1 j2 => by rw [g1 j j1 j2, sI_adr (by decide), r4 j (by omega), (f4 57 j rfl).1, lo3 57 j (by omega), (f2 57 j rfl).1, (f1 57 j rfl).1]) (by rw [g2, sI_adr (by decide), r5 k (by omega), (f4 58 k rfl).1, lo3 58 k (by omega), (f2 58 k rfl).1, (f1 58 k rfl).1]) pt hpt
          refine ⟨q', ?_⟩
          rw [er]
          show some (V k pt _, q') = some (if k = tc then _ else V k pt _, q')
          rw [if_neg q]
      · rw [(f5 6 11 rfl).1, sI_same]
      · show t.2.1 + 1 + 1 = tc + 1
        omega
      · rw [(f5 6 12 rfl).1, sI_oth (by decide)]
        show s3.1 6 12 = nI 0
        rw [lo3 6 12 (by omega), sI_same]
        rfl
      · rw [sI_oth (by decide), r3]
        rfl
      · rw [(f5 34 8 rfl).1, (f4 34 8 rfl).1, lo3 34 8 (by omega), (f2 34 8 rfl).1, (f1 34 8 rfl).1]; exact p.1
      · rw [(f5 34 9 rfl).1, (f4 34 9 rfl).1, lo3 34 9 (by omega), (f2 34 9 rfl).1, (f1 34 9 rfl).1]; exact p.2
      · exact SS_fr (SS_fr (SS_fr (SS_fr (SS_fr z f1 (fun _ => rfl) (fun _ => rfl)) f2 (fun _ => rfl) (fun _ => rfl)) f3 (fun k => lo 1 k (by omega)) (fun k => lo 5 k (by omega))) f4 (fun _ => rfl) (fun _ => rfl)) f5 (fun _ => rfl) (fun _ => rfl)
      · show t.2.1 + 1 ≤ 5
        omega
      · intro j hj
        have hj : j < t.2.1 + 1 := hj
        show (if j = t.2.1 then _ else t.2.2 j) ≤ 160
        by_cases q : j = t.2.1
        · rw [if_pos q]; exact hm
        · rw [if_neg q]; exact hB.2 j (by omega)
