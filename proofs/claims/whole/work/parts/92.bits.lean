/-! THE READERS' PIECES -/
theorem kd_S {b : Nat → Nat} {n i : Nat} (h : isS (tC b n i) = true) : kdT b n i = 3 := by
  have hS := isS_n h
  rcases kd_c (b := b) (n := n) (i := i) with ⟨kk, cc, _⟩ | ⟨kk, cc, _⟩ | ⟨kk, cc, _⟩ | ⟨kk, _⟩ | ⟨kk, cc, _⟩
  · omega
  · have := wtk_b (b := b) (x := tA b n i) (y := tN b n i) 12
    omega
  · omega
  · exact kk
  · omega
section
variable {t : mTX} {k n : Nat} {b : Nat → Nat}
theorem tk_eq {i w : Nat} {X : Int32} {s : mSG} (h : AT n b i s) (hX : X = nI w) (hw : w < 1000) : (s.1 25 5 = X) = (tC b n i = w) := by
  have := tC_b (b := b) (n := n) (i := i)
  rw [h.1, hX]
  exact nl_eq (by omega) (by omega)
theorem c_tk_n {i w : Nat} {X : Int32} {s : mSG} (h : AT n b i s) (hX : X = nI w) (hw : w < 1000) (hc : ¬ tC b n i = w) : X1_takes t X s = some (false, s) := by
  unfold X1_takes
  rw [if_neg (fun g => hc ((tk_eq h hX hw).mp g))]
theorem c_tk_y {i w : Nat} {X : Int32} {s : mSG} (h : AT n b i s) (hX : X = nI w) (hw : w < 1000) (hc : tC b n i = w) : X1_takes t X s = (X1_advance t s).bind (fun r2 => some (true, r2)) := by
  unfold X1_takes
  rw [if_pos ((tk_eq h hX hw).mpr hc)]
theorem c_op_y {d : Nat} {s : mSG} (hd : d < 5) : X1_opens t (nI d) s = (X1_advance t s).bind (fun r2 => some (true, r2)) := by
  unfold X1_opens
  rw [if_pos (show nI d < 5 from nI_lt (b := 5) hd (by omega))]
theorem c_op_n {s : mSG} : X1_opens t (nI 5) s = some (false, s) := by
  unfold X1_opens
  rw [if_neg (show ¬ nI 5 < 5 by decide)]
theorem m_op_y {d : Nat} {s : mSG} (hd : d < 5) (h : s.1 56 30 = nI d) : X9_opens s = (X9_next (sI s 56 30 (nI (d + 1)))).bind (fun r => some (true, r)) := by
  unfold X9_opens
  rw [h, if_neg (show ¬ nI d = 5 from fun g => by rw [show (5 : Int32) = nI 5 from rfl, nl_eq (by omega) (by omega)] at g; omega), nI_1]
theorem m_op_n {i : Nat} {s : mSG} (h : s.1 56 30 = nI 5) (ha : AM n b i s) (hb : s.1 56 31 = 0) : X9_opens s = some (false, sI (sI s 56 31 1) 56 32 (nI (tA b n i))) := by
  unfold X9_opens
  rw [if_pos (show s.1 56 30 = 5 from h), ob (m_fail (k := 0) ha hb)]
/-- a token that opens, when too many are open -/
theorem bp_full {C : mSG → Option (Bool × mSG)} {G : mSG → Option (Int32 × mSG)} {dd i : Nat} (hi : i ≤ n) (eC : ∀ s, C s = some (false, s)) (eG : ∀ s, G s = (X9_opens s).bind (fun r3 => some (0, r3.2))) : BP k n b C G dd 5 i := by
  refine ⟨false, i, [], ⟨Nat.le_refl _, hi, fun g => Bool.noConfusion g⟩, fun c s ht ha hc hci => ⟨s, eC s, ha, CB_rf, fun g => Bool.noConfusion g⟩, fun s ht ha hb ho => ?_⟩
  obtain ⟨f1, f2, f3⟩ := m_failF (n := n) (b := b) (i := i) (s := s)
  exact ⟨0, _, by rw [eG, ob (m_op_n ho ha hb)], f3, fun g => Bool.noConfusion g, fun _ => ⟨f1, f2⟩⟩
/-- minus and not -/
theorem bp_un {C C1 : mSG → Option (Bool × mSG)} {G F1 : mSG → Option (Int32 × mSG)} {dd d i : Nat} {x : xC} {u : Int32 → Int32} (hi : i ≤ n) (hn : n ≤ 160) (hd : d < 5) (h0 : ¬ tC b n i = 0) (h1 : ¬ tC b n i = 1) (hx : xOk x) (hu : ∀ env L v, isV env dd L v → isV env dd (L ++ [x]) (u v)) (eC : ∀ s, C s = (X1_opens t (nI d) s).bind (fun r9 => if r9.1 = true then (C1 r9.2).bind (fun r10 => if r10.1 = true then (X1_emit (xEnc x) r10.2).bind (fun r11 => some (true, r11)) else some (false, r10.2)) else some (false, r9.2))) (eG : ∀ s, G s = (X9_opens s).bind (fun r7 => if r7.1 = true then (F1 r7.2).bind (fun r8 => some (u r8.1, sI r8.2 56 30 ((r8.2.1 56 30) - 1))) else some (0, r7.2))) (h : ∀ i, i ≤ n → BP k n b C1 F1 dd (d + 1) i) : BP k n b C G dd d i := by
  have hN := tN_b (b := b) hi
  have hA := tA_b (b := b) hi
  have hNN := hN.2.2 (tC_0 h0)
  obtain ⟨ok, i', L, ⟨p1, p2, p3⟩, cH, mH⟩ := h (tN b n i) hN.2.1
  refine ⟨ok, i', L ++ [x], ⟨by omega, p2, fun g => ?_⟩, fun c s ht ha hc hci => ?_, fun s ht ha hb ho => ?_⟩
  · obtain ⟨p4, p5, p6⟩ := p3 g
    refine ⟨by simp only [List.length_append, List.length_cons, List.length_nil]; omega, by simp only [List.length_append, List.length_cons, List.length_nil]; omega, fun c hc => ?_⟩
    rcases List.mem_append.mp hc with hc | hc
    · exact p6 c hc
    · rw [List.mem_singleton.mp hc]; exact hx
  · obtain ⟨s1, e1, a1, b1, w1, w2⟩ := c_nxt (t := t) ht ha hi
    obtain ⟨s2, e2, a2, b2, d2⟩ := cH c s1 (CB_TC b1 ht) a1 (w2.trans hc) (by omega)
    cases ok with
    | false =>
      refine ⟨s2, ?_, a2, CB_tr b1 b2, fun g => Bool.noConfusion g⟩
      rw [eC, c_op_y hd, ob e1]
      show (C1 s1).bind _ = _
      rw [ob e2]
      rfl
    | true =>
      obtain ⟨p4, p5, p6⟩ := p3 rfl
      have d2 := d2 rfl
      have em := c_emit (v := xEnc x) (c := c + L.length) d2.2.2 (by omega)
      refine ⟨_, ?_, em_AT a2, CB_tr (CB_tr b1 b2) em_CB, fun _ => CD_one (CD_app (CD_nil w1 (w2.trans hc)) d2) rfl⟩
      rw [eC, c_op_y hd, ob e1]
      show (C1 s1).bind _ = _
      rw [ob e2, if_pos rfl, ob em]
  · obtain ⟨s1, e1, a1, b1, w1, w2⟩ := m_nxt (s := sI s 56 30 (nI (d + 1))) (MB_TM (MB_sI MB_rf (by omega)) ht) (AM_sI ha (by omega)) hi (kd_4 h1)
    have bb : MB s s1 := MB_tr (MB_sI MB_rf (by omega)) b1
    obtain ⟨v, s2, e2, b2, y2, z2⟩ := mH s1 (MB_TM bb ht) a1 (w2.trans (by rw [sI_oth (by decide)]; exact hb)) (w1.trans sI_same)
    refine ⟨u v, sI s2 56 30 ((s2.1 56 30) - 1), ?_, MB_sI (MB_tr bb b2) (by omega), fun g => ?_, fun g => ?_⟩
    · rw [eG, m_op_y hd ho, ob e1]
      show (F1 s1).bind _ = _
      rw [ob e2]
    · obtain ⟨g1, g2, g3, g4⟩ := y2 g
      rw [MB_env bb] at g4
      exact ⟨AM_sI g1 (by omega), by rw [sI_oth (by decide)]; exact g2, by rw [sI_same, g3]; exact nI_pred d, hu _ _ _ g4⟩
    · obtain ⟨g1, g2⟩ := z2 g
      exact ⟨by rw [sI_oth (by decide)]; exact g1, by rw [sI_oth (by decide)]; exact g2⟩
def gJ (x1 : Int32) (s : mSG) : Option (Int32 × mSG) :=
  if (s.1 56 31) = 0 then
    (X9_next (sI s 56 30 ((s.1 56 30) - 1))).bind (fun r10 =>
    some (x1, r10))
  else
    some (x1, sI s 56 30 ((s.1 56 30) - 1))
theorem gJ_B {x : Int32} {s : mSG} (h : s.1 56 31 = 1) : gJ x s = some (x, sI s 56 30 ((s.1 56 30) - 1)) := by
  unfold gJ
  rw [if_neg (by rw [h]; decide)]
/-- brackets -/
theorem bp_par {C C1 : mSG → Option (Bool × mSG)} {G F1 : mSG → Option (Int32 × mSG)} {dd d i : Nat} (hi : i ≤ n) (hn : n ≤ 160) (hd : d < 5) (h0 : ¬ tC b n i = 0) (h1 : ¬ tC b n i = 1) (eC : ∀ s, C s = (X1_opens t (nI d) s).bind (fun r13 => if r13.1 = true then (C1 r13.2).bind (fun r14 => if r14.1 = true then (X1_takes t 41 r14.2).bind (fun r15 => if r15.1 = true then some (true, r15.2) else some (false, r15.2)) else some (false, r14.2)) else some (false, r13.2))) (eG : ∀ s, G s = (X9_opens s).bind (fun r4 => if r4.1 = true then (F1 r4.2).bind (fun r5 => if X9_isSign 41 r5.2 = true then gJ r5.1 r5.2 else (X9_fail r5.2).bind (fun r6 => gJ r5.1 r6)) else some (0, r4.2))) (h : ∀ i, i ≤ n → BP k n b C1 F1 dd (d + 1) i) : BP k n b C G dd d i := by
  have hN := tN_b (b := b) hi
  have hA := tA_b (b := b) hi
  have hNN := hN.2.2 (tC_0 h0)
  obtain ⟨ok, i3, L, ⟨p1, p2, p3⟩, cH, mH⟩ := h (tN b n i) hN.2.1
  have cQ : ∀ c s, TC n b s → AT n b i s → s.1 25 2 = nI c → c ≤ i → ∃ s2, C s = (if ok = true then (X1_takes t 41 s2).bind (fun r15 => if r15.1 = true then some (true, r15.2) else some (false, r15.2)) else some (false, s2)) ∧ TC n b s2 ∧ AT n b i3 s2 ∧ CB s s2 ∧ (ok = true → CD c L s s2) := by
    intro c s ht ha hc hci
    obtain ⟨s1, e1, a1, b1, w1, w2⟩ := c_nxt (t := t) ht ha hi
    obtain ⟨s2, e2, a2, b2, d2⟩ := cH c s1 (CB_TC b1 ht) a1 (w2.trans hc) (by omega)
    refine ⟨s2, ?_, CB_TC b2 (CB_TC b1 ht), a2, CB_tr b1 b2, fun g => ?_⟩
    · rw [eC, c_op_y hd, ob e1]
      show (C1 s1).bind _ = _
      rw [ob e2]
    · have := CD_app (CD_nil w1 (w2.trans hc)) (d2 g)
      exact this
  have mQ : ∀ s, TM k n b s → AM n b i s → s.1 56 31 = 0 → s.1 56 30 = nI d → ∃ v s2, G s = (if X9_isSign 41 s2 = true then gJ v s2 else (X9_fail s2).bind (fun r6 => gJ v r6)) ∧ TM k n b s2 ∧ MB s s2 ∧ (ok = true → AM n b i3 s2 ∧ s2.1 56 31 = 0 ∧ s2.1 56 30 = nI (d + 1) ∧ isV (envM s) dd L v) ∧ (ok = false → s2.1 56 31 = 1 ∧ s2.1 56 32 = nI (tA b n i3)) := by
    intro s ht ha hb ho
    obtain ⟨s1, e1, a1, b1, w1, w2⟩ := m_nxt (s := sI s 56 30 (nI (d + 1))) (MB_TM (MB_sI MB_rf (by omega)) ht) (AM_sI ha (by omega)) hi (kd_4 h1)
    have bb : MB s s1 := MB_tr (MB_sI MB_rf (by omega)) b1
    obtain ⟨v, s2, e2, b2, y2, z2⟩ := mH s1 (MB_TM bb ht) a1 (w2.trans (by rw [sI_oth (by decide)]; exact hb)) (w1.trans sI_same)
    rw [MB_env bb] at y2
    refine ⟨v, s2, ?_, MB_TM b2 (MB_TM bb ht), MB_tr bb b2, y2, z2⟩
    rw [eG, m_op_y hd ho, ob e1]
    show (F1 s1).bind _ = _
    rw [ob e2]
  cases ok with
  | false =>
    refine ⟨false, i3, [], ⟨by omega, p2, fun g => Bool.noConfusion g⟩, fun c s ht ha hc hci => ?_, fun s ht ha hb ho => ?_⟩
    · obtain ⟨s2, e2, _, a2, b2, _⟩ := cQ c s ht ha hc hci
      exact ⟨s2, e2, a2, b2, fun g => Bool.noConfusion g⟩
    · obtain ⟨v, s2, e2, t2, b2, _, z2⟩ := mQ s ht ha hb ho
      obtain ⟨g1, g2⟩ := z2 rfl
      refine ⟨v, _, by rw [e2, m_signB g1, if_neg (by decide), ob (m_failB g1), gJ_B g1], MB_sI b2 (by omega), fun g => Bool.noConfusion g, fun _ => ⟨by rw [sI_oth (by decide)]; exact g1, by rw [sI_oth (by decide)]; exact g2⟩⟩
  | true =>
    obtain ⟨p4, p5, p6⟩ := p3 rfl
    by_cases q : tC b n i3 = 41
    · have hN3 := tN_b (b := b) p2
      have hA3 := tA_b (b := b) p2
      refine ⟨true, tN b n i3, L, ⟨by omega, hN3.2.1, fun _ => ⟨by omega, p5, p6⟩⟩, fun c s ht ha hc hci => ?_, fun s ht ha hb ho => ?_⟩
      · obtain ⟨s2, e2, t2, a2, b2, d2⟩ := cQ c s ht ha hc hci
        have d2 := d2 rfl
        obtain ⟨s3, e3, a3, b3, w1, w2⟩ := c_nxt (t := t) t2 a2 p2
        refine ⟨s3, ?_, a3, CB_tr b2 b3, fun _ => ?_⟩
        · rw [e2, if_pos rfl, c_tk_y a2 (X := 41) (w := 41) rfl (by omega) q, ob e3]
          rfl
        · have := CD_app d2 (CD_nil w1 (w2.trans d2.2.2))
          rw [List.append_nil] at this
          exact this
      · obtain ⟨v, s2, e2, t2, b2, y2, _⟩ := mQ s ht ha hb ho
        obtain ⟨g1, g2, g3, g4⟩ := y2 rfl
        obtain ⟨s3, e3, a3, b3, w1, w2⟩ := m_nxt (s := sI s2 56 30 (nI (d + 1) - 1)) (MB_TM (MB_sI MB_rf (by omega)) t2) (AM_sI g1 (by omega)) p2 (kd_4 (by omega))
        refine ⟨v, s3, ?_, MB_tr b2 (MB_tr (MB_sI MB_rf (by omega)) b3), fun _ => ⟨a3, w2.trans (by rw [sI_oth (by decide)]; exact g2), w1.trans (by rw [sI_same]; exact nI_pred d), g4⟩, fun g => Bool.noConfusion g⟩
        rw [e2, m_sign (x := 41) (c := 41) rfl g1 g2 (by decide), if_pos (decide_eq_true q)]
        unfold gJ
        rw [if_pos g2, g3, ob e3]
    · refine ⟨false, i3, [], ⟨by omega, p2, fun g => Bool.noConfusion g⟩, fun c s ht ha hc hci => ?_, fun s ht ha hb ho => ?_⟩
      · obtain ⟨s2, e2, t2, a2, b2, d2⟩ := cQ c s ht ha hc hci
        refine ⟨s2, ?_, a2, b2, fun g => Bool.noConfusion g⟩
        rw [e2, if_pos rfl, c_tk_n a2 (X := 41) (w := 41) rfl (by omega) q]
        rfl
      · obtain ⟨v, s2, e2, t2, b2, y2, _⟩ := mQ s ht ha hb ho
        obtain ⟨g1, g2, g3, g4⟩ := y2 rfl
        obtain ⟨f1, f2, f3⟩ := m_failF (n := n) (b := b) (i := i3) (s := s2)
        refine ⟨v, _, by rw [e2, m_sign (x := 41) (c := 41) rfl g1 g2 (by decide), if_neg (by rw [decide_eq_false q]; decide), ob (m_fail (k := 0) g1 g2), gJ_B f1], MB_sI (MB_tr b2 f3) (by omega), fun g => Bool.noConfusion g, fun _ => ⟨by rw [sI_oth (by decide)]; exact f1, by rw [sI_oth (by decide)]; exact f2⟩⟩
end
