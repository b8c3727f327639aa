/-! LISTS OF OPERANDS -/
theorem xOk_o {o : Nat} (h : o < 7) : xOk (4, o) := h
section
variable {t : mTX} {k n : Nat} {b : Nat → Nat} {C : mSG → Option (Bool × mSG)} {F : mSG → Option (Int32 × mSG)} {bd : Int32 × mSG → Option ((Int32 × mSG) ⊕ (mSG ⊕ mSG))} {md : Int32 × mSG → Option ((Int32 × mSG) ⊕ (Int32 × mSG))} {sep : Nat → Option Nat} {dd d : Nat}
/-- what is asked of a loop's bodies -/
def lpC (t : mTX) (n : Nat) (b : Nat → Nat) (C : mSG → Option (Bool × mSG)) (bd : Int32 × mSG → Option ((Int32 × mSG) ⊕ (mSG ⊕ mSG))) (sep : Nat → Option Nat) : Prop := (∀ i s x, AT n b i s → sep (tC b n i) = none → bd (x, s) = some (.inr (.inr s))) ∧ (∀ i s j o, AT n b i s → j < 160 → sep (tC b n i) = some o → bd (nI j, s) = (X1_advance t s).bind (fun r => (C r).bind (fun r4 => if r4.1 = true then (X1_emit (xOc o) r4.2).bind (fun r5 => some (.inl (nI (j + 1), r5))) else some (.inr (.inl r4.2)))))
def lpM (k n : Nat) (b : Nat → Nat) (F : mSG → Option (Int32 × mSG)) (md : Int32 × mSG → Option ((Int32 × mSG) ⊕ (Int32 × mSG))) (sep : Nat → Option Nat) : Prop := (∀ i s x, TM k n b s → AM n b i s → i ≤ n → s.1 56 31 = 0 → sep (tC b n i) = none → md (x, s) = some (.inr (x, s))) ∧ (∀ s x, s.1 56 31 = 1 → md (x, s) = some (.inr (x, s))) ∧ (∀ i s x o, TM k n b s → AM n b i s → i ≤ n → s.1 56 31 = 0 → sep (tC b n i) = some o → md (x, s) = (X9_next s).bind (fun r3 => (F r3).bind (fun r4 => some (.inl (xOp o x r4.1, r4.2)))))
def sepOK (sep : Nat → Option Nat) : Prop := ∀ c o, sep c = some o → o < 7 ∧ c ≠ 0 ∧ c ≠ 1
/-- both loops, from i on -/
theorem bp_loop (hs : sepOK sep) (hC : lpC t n b C bd sep) (hM : lpM k n b F md sep) (hn : n ≤ 160) (h : ∀ i, i ≤ n → BP k n b C F dd d i) : ∀ m i, i ≤ n → n - i ≤ m → ∃ ok i' L, (i ≤ i' ∧ i' ≤ n ∧ (ok = true → i + L.length ≤ i' ∧ ∀ c, c ∈ L → xOk c)) ∧ (∀ c s j N, TC n b s → AT n b i s → s.1 25 2 = nI c → c ≤ i → j ≤ i → n - i < N → ∃ s1, iter bd N (nI j, s) = some (bif ok then .inr s1 else .inl s1) ∧ AT n b i' s1 ∧ CB s s1 ∧ (ok = true → CD c L s s1)) ∧ (∀ s x N, TM k n b s → AM n b i s → s.1 56 31 = 0 → s.1 56 30 = nI d → n - i + 1 < N → ∃ v s1, iter md N (x, s) = some (v, s1) ∧ MB s s1 ∧ (ok = true → AM n b i' s1 ∧ s1.1 56 31 = 0 ∧ s1.1 56 30 = nI d ∧ ∀ L0, isV (envM s) (dd + 1) L0 x → isV (envM s) (dd + 1) (L0 ++ L) v) ∧ (ok = false → s1.1 56 31 = 1 ∧ s1.1 56 32 = nI (tA b n i'))) := by
  have base : ∀ i, i ≤ n → sep (tC b n i) = none → ∃ ok i' L, (i ≤ i' ∧ i' ≤ n ∧ (ok = true → i + L.length ≤ i' ∧ ∀ c, c ∈ L → xOk c)) ∧ (∀ c s j N, TC n b s → AT n b i s → s.1 25 2 = nI c → c ≤ i → j ≤ i → n - i < N → ∃ s1, iter bd N (nI j, s) = some (bif ok then .inr s1 else .inl s1) ∧ AT n b i' s1 ∧ CB s s1 ∧ (ok = true → CD c L s s1)) ∧ (∀ s x N, TM k n b s → AM n b i s → s.1 56 31 = 0 → s.1 56 30 = nI d → n - i + 1 < N → ∃ v s1, iter md N (x, s) = some (v, s1) ∧ MB s s1 ∧ (ok = true → AM n b i' s1 ∧ s1.1 56 31 = 0 ∧ s1.1 56 30 = nI d ∧ ∀ L0, isV (envM s) (dd + 1) L0 x → isV (envM s) (dd + 1) (L0 ++ L) v) ∧ (ok = false → s1.1 56 31 = 1 ∧ s1.1 56 32 = nI (tA b n i'))) := by
    intro i hi q
    refine ⟨true, i, [], ⟨Nat.le_refl _, hi, fun _ => ⟨Nat.le_refl _, fun c hc => absurd hc (List.not_mem_nil)⟩⟩, ?_, ?_⟩
    · intro c s j N ht ha hc _ _ hN
      exact ⟨s, it_r (by omega) (hC.1 i s (nI j) ha q), ha, CB_rf, fun _ => CD_nil rfl hc⟩
    · intro s x N ht ha hb ho hN
      exact ⟨x, s, it_r (by omega) (hM.1 i s x ht ha hi hb q), MB_rf, fun _ => ⟨ha, hb, ho, fun L0 g => by rw [List.append_nil]; exact g⟩, fun g => Bool.noConfusion g⟩
  intro m
  induction m with
  | zero =>
    intro i hi hm
    have hA := tA_b (b := b) hi
    have q0 : tC b n i = 0 := by
      show (if tA b n i < n then _ else 0) = 0
      rw [if_neg (by omega)]
    cases q : sep (tC b n i) with
    | none => exact base i hi q
    | some o => exact absurd q0 (hs _ _ q).2.1
  | succ m ih =>
    intro i hi hm
    cases q : sep (tC b n i) with
    | none => exact base i hi q
    | some o =>
      obtain ⟨o7, oc0, oc1⟩ := hs _ _ q
      have hA := tA_b (b := b) hi
      have hN := tN_b (b := b) hi
      have hlt := tC_0 oc0
      have hNN := hN.2.2 hlt
      obtain ⟨ok2, i3, L2, ⟨p1, p2, p3⟩, cH, mH⟩ := h (tN b n i) hN.2.1
      cases ok2 with
      | false =>
        refine ⟨false, i3, [], ⟨by omega, p2, fun g => Bool.noConfusion g⟩, ?_, ?_⟩
        · intro c s j N ht ha hc hci hj hN'
          obtain ⟨s1, e1, a1, b1, w1, w2⟩ := c_nxt (t := t) ht ha hi
          obtain ⟨s2, e2, a2, b2, _⟩ := cH c s1 (CB_TC b1 ht) a1 (w2.trans hc) (by omega)
          refine ⟨s2, it_r (by omega) ?_, a2, CB_tr b1 b2, fun g => Bool.noConfusion g⟩
          rw [hC.2 i s j o ha (by omega) q, ob e1, ob e2]
          rfl
        · intro s x N ht ha hb ho hN'
          obtain ⟨s1, e1, a1, b1, w1, w2⟩ := m_nxt ht ha hi (kd_4 oc1)
          obtain ⟨v, s2, e2, b2, _, f2⟩ := mH s1 (MB_TM b1 ht) a1 (w2.trans hb) (w1.trans ho)
          obtain ⟨g1, g2⟩ := f2 rfl
          refine ⟨xOp o x v, s2, ?_, MB_tr b1 b2, fun g => Bool.noConfusion g, fun _ => ⟨g1, g2⟩⟩
          rw [it_l (y := (xOp o x v, s2)) (by omega) (by rw [hM.2.2 i s x o ht ha hi hb q, ob e1, ob e2])]
          exact it_r (by omega) (hM.2.1 s2 _ g1)
      | true =>
        obtain ⟨p4, p5, p6⟩ := p3 rfl
        obtain ⟨ok, i', L3, ⟨r1, r2, r3⟩, cL, mL⟩ := ih i3 p2 (by omega)
        refine ⟨ok, i', L2 ++ [(4, o)] ++ L3, ⟨by omega, r2, fun g => ?_⟩, ?_, ?_⟩
        · obtain ⟨r4, r5⟩ := r3 g
          refine ⟨by simp only [List.length_append, List.length_cons, List.length_nil]; omega, fun c hc => ?_⟩
          rcases List.mem_append.mp hc with hc | hc
          · rcases List.mem_append.mp hc with hc | hc
            · exact p6 c hc
            · rw [List.mem_singleton.mp hc]; exact xOk_o o7
          · exact r5 c hc
        · intro c s j N ht ha hc hci hj hN'
          obtain ⟨s1, e1, a1, b1, w1, w2⟩ := c_nxt (t := t) ht ha hi
          obtain ⟨s2, e2, a2, b2, d2⟩ := cH c s1 (CB_TC b1 ht) a1 (w2.trans hc) (by omega)
          have d2 := d2 rfl
          have em := c_emit (v := xOc o) (c := c + L2.length) d2.2.2 (by omega)
          have tc2 : TC n b (sI (sI s2 26 (c + L2.length) (xOc o)) 25 2 (nI (c + L2.length + 1))) := CB_TC em_CB (CB_TC b2 (CB_TC b1 ht))
          obtain ⟨s3, e3, a3, b3, d3⟩ := cL (c + L2.length + 1) _ (j + 1) (N - 1) tc2 (em_AT a2) sI_same (by omega) (by omega) (by omega)
          refine ⟨s3, ?_, a3, CB_tr (CB_tr b1 b2) (CB_tr em_CB b3), fun g => ?_⟩
          · rw [it_l (y := (nI (j + 1), sI (sI s2 26 (c + L2.length) (xOc o)) 25 2 (nI (c + L2.length + 1)))) (by omega) ?_]
            · exact e3
            · rw [hC.2 i s j o ha (by omega) q, ob e1, ob e2, if_pos rfl, ob em]
          · have d0 : CD c [] s s1 := CD_nil w1 (w2.trans hc)
            have d5 : CD c (L2 ++ [(4, o)]) s (sI (sI s2 26 (c + L2.length) (xOc o)) 25 2 (nI (c + L2.length + 1))) := CD_one (CD_app d0 d2) rfl
            refine CD_app d5 ?_
            rw [List.length_append]
            exact d3 g
        · intro s x N ht ha hb ho hN'
          obtain ⟨s1, e1, a1, b1, w1, w2⟩ := m_nxt ht ha hi (kd_4 oc1)
          obtain ⟨v, s2, e2, b2, f2, _⟩ := mH s1 (MB_TM b1 ht) a1 (w2.trans hb) (w1.trans ho)
          obtain ⟨g1, g2, g3, g4⟩ := f2 rfl
          have b12 := MB_tr b1 b2
          rw [MB_env b1] at g4
          obtain ⟨w, s3, e3, b3, y3, z3⟩ := mL s2 (xOp o x v) (N - 1) (MB_TM b12 ht) g1 g2 g3 (by omega)
          refine ⟨w, s3, ?_, MB_tr b12 b3, fun g => ?_, z3⟩
          · rw [it_l (y := (xOp o x v, s2)) (by omega) (by rw [hM.2.2 i s x o ht ha hi hb q, ob e1, ob e2])]
            exact e3
          · obtain ⟨y4, y5, y6, y7⟩ := y3 g
            refine ⟨y4, y5, y6, fun L0 hL => ?_⟩
            rw [MB_env b12] at y7
            have hv := isV_mono (isV_bin o hL g4) (show max (dd + 1) (dd + 1) ≤ dd + 1 by omega)
            have := y7 _ hv
            rw [show L0 ++ (L2 ++ [(4, o)] ++ L3) = L0 ++ L2 ++ [(4, o)] ++ L3 by simp only [List.append_assoc]]
            exact this
theorem bp_list {C' : mSG → Option (Bool × mSG)} {F' : mSG → Option (Int32 × mSG)} (hs : sepOK sep) (hC : lpC t n b C bd sep) (hM : lpM k n b F md sep) (hn : n ≤ 160) (eC : ∀ s, C' s = (C s).bind (fun r1 => if r1.1 = true then (iter bd mFU (0, r1.2)).bind (fun e12 => Sum.elim (fun e0 => some (false, e0)) (fun e1 => some (true, e1)) e12) else some (false, r1.2))) (eF : ∀ s, F' s = (F s).bind (fun r1 => (iter md mFU (r1.1, r1.2)).bind (fun e5 => some (e5.1, e5.2)))) (h : ∀ i, i ≤ n → BP k n b C F dd d i) (i : Nat) (hi : i ≤ n) : BP k n b C' F' (dd + 1) d i := by
  obtain ⟨ok, i2, L, ⟨p1, p2, p3⟩, cH, mH⟩ := h i hi
  have hF : n < mFU := by unfold mFU; omega
  have hF1 : n + 1 < mFU := by unfold mFU; omega
  cases ok with
  | false =>
    refine ⟨false, i2, [], ⟨p1, p2, fun g => Bool.noConfusion g⟩, fun c s ht ha hc hci => ?_, fun s ht ha hb ho => ?_⟩
    · obtain ⟨s1, e1, a1, b1, _⟩ := cH c s ht ha hc hci
      refine ⟨s1, ?_, a1, b1, fun g => Bool.noConfusion g⟩
      rw [eC, ob e1]
      rfl
    · obtain ⟨v, s1, e1, b1, _, f1⟩ := mH s ht ha hb ho
      obtain ⟨g1, g2⟩ := f1 rfl
      refine ⟨v, s1, ?_, b1, fun g => Bool.noConfusion g, fun _ => ⟨g1, g2⟩⟩
      rw [eF, ob e1, ob (it_r (by omega) (hM.2.1 s1 v g1))]
  | true =>
    obtain ⟨p4, p5, p6⟩ := p3 rfl
    obtain ⟨ok, i', L3, ⟨r1, r2, r3⟩, cL, mL⟩ := bp_loop hs hC hM hn h n i2 p2 (by omega)
    refine ⟨ok, i', L ++ L3, ⟨by omega, r2, fun g => ?_⟩, fun c s ht ha hc hci => ?_, fun s ht ha hb ho => ?_⟩
    · obtain ⟨r4, r5⟩ := r3 g
      refine ⟨by rw [List.length_append]; omega, by rw [List.length_append]; omega, fun c hc => ?_⟩
      rcases List.mem_append.mp hc with hc | hc
      · exact p6 c hc
      · exact r5 c hc
    · obtain ⟨s1, e1, a1, b1, d1⟩ := cH c s ht ha hc hci
      have d1 := d1 rfl
      obtain ⟨s2, e2, a2, b2, d2⟩ := cL (c + L.length) s1 0 mFU (CB_TC b1 ht) a1 d1.2.2 (by omega) (by omega) (by omega)
      refine ⟨s2, ?_, a2, CB_tr b1 b2, fun g => CD_app d1 (d2 g)⟩
      rw [eC, ob e1, if_pos rfl, ob (show iter bd mFU (0, s1) = _ from e2)]
      cases ok <;> rfl
    · obtain ⟨v, s1, e1, b1, f1, _⟩ := mH s ht ha hb ho
      obtain ⟨g1, g2, g3, g4⟩ := f1 rfl
      obtain ⟨w, s2, e2, b2, y2, z2⟩ := mL s1 v mFU (MB_TM b1 ht) g1 g2 g3 (by omega)
      refine ⟨w, s2, ?_, MB_tr b1 b2, fun g => ?_, z2⟩
      · rw [eF, ob e1, ob e2]
      · obtain ⟨y3, y4, y5, y6⟩ := y2 g
        rw [MB_env b1] at y6
        exact ⟨y3, y4, y5, y6 L (isV_mono g4 (by omega))⟩
end
