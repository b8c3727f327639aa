/-! THE SMALLEST PIECES -/
theorem dvl_b {b : Nat → Nat} {x : Nat} : ∀ m, (∀ j, j < m → b (x + j) ≤ 57) → dvl b x m < 10 ^ m
  | 0, _ => (by show 0 < 10 ^ 0; decide)
  | m + 1, h => by
    have ih := dvl_b m (fun j hj => h j (by omega))
    have hb := h m (by omega)
    show dvl b x m * 10 + (b (x + m) - 48) < 10 ^ (m + 1)
    rw [Nat.pow_succ]
    omega
theorem tV_b {b : Nat → Nat} {n i : Nat} (hi : i ≤ n) (h : tC b n i = 2) : kdT b n i = 2 ∧ tV b n i ≤ 9999 := by
  have hA := tA_b (b := b) hi
  rcases kd_c (b := b) (n := n) (i := i) with ⟨kk, cc, _⟩ | ⟨kk, cc, _⟩ | ⟨kk, cc, q1, q2, q3, q4⟩ | ⟨kk, cc, cs, _⟩ | ⟨kk, cc, _⟩
  · omega
  · have := wtk_b (b := b) (x := tA b n i) (y := tN b n i) 12
    omega
  · refine ⟨kk, ?_⟩
    obtain ⟨s1, s2, s3, s4⟩ := scn_b (p := isD b) hA.2
    rw [← q3] at s1 s2 s3
    have hd := dvl_b (b := b) (x := tA b n i) (tN b n i - tA b n i) (fun j hj => (of_decide_eq_true (s3 (tA b n i + j) (by omega) (by omega))).2)
    have hp : 10 ^ (tN b n i - tA b n i) ≤ 10 ^ 4 := Nat.pow_le_pow_right (by decide) q4
    show dvl b (tA b n i) (tN b n i - tA b n i) ≤ 9999
    omega
  · have := isS_n cs
    omega
  · omega
theorem kd_W {b : Nat → Nat} {n i : Nat} (h : 256 ≤ tC b n i) : kdT b n i = 1 := by
  rcases kd_c (b := b) (n := n) (i := i) with ⟨kk, cc, _⟩ | ⟨kk, cc, _⟩ | ⟨kk, cc, _⟩ | ⟨kk, cc, cs, _⟩ | ⟨kk, cc, _⟩
  · omega
  · exact kk
  · omega
  · have := isS_n cs
    omega
  · omega
def gAtF (x1 : Int32) (s : mSG) : Option (Int32 × mSG) :=
  (X9_fail s).bind (fun r11 => some (x1, r11))
def gAtJ (x1 : Int32) (s : mSG) : Option (Int32 × mSG) :=
  if (s.1 56 31) = 0 then
    if (s.1 56 27) = 1 then
      (X9_name s).bind (fun r8 =>
      if (r8.2.1 56 31) = 0 then
        (X9_next r8.2).bind (fun r10 => some (r8.1, r10))
      else
        some (r8.1, r8.2))
    else gAtF x1 s
  else gAtF x1 s
def cNegB (t : mTX) (rc : Nat → Int32 → mSG → Option (Bool × mSG)) (q : Int32) (s : mSG) : Option (Bool × mSG) :=
  (X1_opens t q s).bind (fun r9 =>
    if r9.1 = true then
      (rc 5 (q + 1) r9.2).bind (fun r10 =>
      if r10.1 = true then
        (X1_emit (-19) r10.2).bind (fun r11 =>
        some (true, r11))
      else
        some (false, r10.2))
    else
      some (false, r9.2))
def cParB (t : mTX) (rc : Nat → Int32 → mSG → Option (Bool × mSG)) (q : Int32) (s : mSG) : Option (Bool × mSG) :=
  (X1_opens t q s).bind (fun r13 =>
      if r13.1 = true then
        (rc 0 (q + 1) r13.2).bind (fun r14 =>
        if r14.1 = true then
          (X1_takes t 41 r14.2).bind (fun r15 =>
          if r15.1 = true then
            some (true, r15.2)
          else
            some (false, r15.2))
        else
          some (false, r14.2))
      else
        some (false, r13.2))
section
variable {t : mTX} {k n : Nat} {b : Nat → Nat} {rc : Nat → Int32 → mSG → Option (Bool × mSG)} {q : Int32}
theorem bp_atom {F' Gn Gp : mSG → Option (Int32 × mSG)} {dd d i : Nat} (hi : i ≤ n) (hn : n ≤ 160) (hdd : 1 ≤ dd) (eF : ∀ s, F' s = if X9_isSign 45 s = true then Gn s else if X9_isSign 40 s = true then Gp s else if (s.1 56 31) = 0 then (if (s.1 56 27) = 2 then (X9_next s).bind (fun r3 => some ((s.2.2 56 29).toInt32, r3)) else gAtJ 0 s) else gAtJ 0 s) (hNeg : tC b n i = 45 → BP k n b (cNegB t rc q) Gn dd d i) (hPar : tC b n i = 40 → BP k n b (cParB t rc q) Gp dd d i) : BP k n b (X1_readsOne_B t rc q) F' dd d i := by
  have eC : ∀ s, X1_readsOne_B t rc q s = if (s.1 25 5) = 2 then (X1_emit (s.1 25 6) s).bind (fun r2 => (X1_advance t r2).bind (fun r3 => some (true, r3))) else if (s.1 25 5) < 256 then (if (s.1 25 5) = 45 then cNegB t rc q s else if (s.1 25 5) = 40 then cParB t rc q s else some (false, s)) else if 262 ≤ (s.1 25 5) then (if (s.1 25 5) = 45 then cNegB t rc q s else if (s.1 25 5) = 40 then cParB t rc q s else some (false, s)) else (X1_emit ((-1) - ((s.1 25 5) - 256)) s).bind (fun r6 => (X1_advance t r6).bind (fun r7 => some (true, r7))) := fun s => rfl
  have hN := tN_b (b := b) hi
  have hA := tA_b (b := b) hi
  have hT := tC_b (b := b) (n := n) (i := i)
  have lt256 : ∀ s, AT n b i s → tC b n i < 256 → s.1 25 5 < 256 := fun s ha h => by rw [ha.1]; exact nI_lt (b := 256) h (by omega)
  have ge256 : ∀ s, AT n b i s → 256 ≤ tC b n i → ¬ s.1 25 5 < 256 := fun s ha h => by rw [ha.1]; exact nI_nlt (b := 256) h (by omega)
  have ge262 : ∀ s, AT n b i s → 262 ≤ tC b n i → 262 ≤ s.1 25 5 := fun s ha h => by rw [ha.1]; exact nI_le (a := 262) h (by omega)
  have lt262 : ∀ s, AT n b i s → tC b n i < 262 → ¬ 262 ≤ s.1 25 5 := fun s ha h => by rw [ha.1]; exact nI_ge (b := 262) h (by omega)
  have n2 : ∀ s, AT n b i s → ¬ tC b n i = 2 → ¬ s.1 25 5 = 2 := fun s ha h g => h ((tk_eq ha (X := 2) (w := 2) rfl (by omega)).mp g)
  have n45 : ∀ s, AT n b i s → ¬ tC b n i = 45 → ¬ s.1 25 5 = 45 := fun s ha h g => h ((tk_eq ha (X := 45) (w := 45) rfl (by omega)).mp g)
  have n40 : ∀ s, AT n b i s → ¬ tC b n i = 40 → ¬ s.1 25 5 = 40 := fun s ha h g => h ((tk_eq ha (X := 40) (w := 40) rfl (by omega)).mp g)
  have mE : ∀ s, AM n b i s → s.1 56 31 = 0 → ¬ tC b n i = 45 → ¬ tC b n i = 40 → F' s = if (s.1 56 27) = 2 then (X9_next s).bind (fun r3 => some ((s.2.2 56 29).toInt32, r3)) else if (s.1 56 27) = 1 then (X9_name s).bind (fun r8 => if (r8.2.1 56 31) = 0 then (X9_next r8.2).bind (fun r10 => some (r8.1, r10)) else some (r8.1, r8.2)) else gAtF 0 s := fun s ha hb h5 h0 => by
    rw [eF, m_sign (x := 45) (c := 45) rfl ha hb (by decide), if_neg (by rw [decide_eq_false h5]; decide), m_sign (x := 40) (c := 40) rfl ha hb (by decide), if_neg (by rw [decide_eq_false h0]; decide), if_pos hb]
    unfold gAtJ
    rw [if_pos hb]
  by_cases c2 : tC b n i = 2
  · obtain ⟨kk, vb⟩ := tV_b hi c2
    have hNN := hN.2.2 (tC_0 (by omega))
    refine ⟨true, tN b n i, [(0, tV b n i)], ⟨by omega, hN.2.1, fun _ => ⟨by simp only [List.length_cons, List.length_nil]; omega, Nat.le_refl _, fun c hc => by rw [List.mem_singleton.mp hc]; exact vb⟩⟩, fun c s ht ha hc hci => ?_, fun s ht ha hb ho => ?_⟩
    · have em := c_emit (v := s.1 25 6) hc (by omega)
      obtain ⟨s2, e2, a2, b2, w1, w2⟩ := c_nxt (t := t) (CB_TC em_CB ht) (em_AT (c := c) (c' := c + 1) (v := s.1 25 6) ha) hi
      refine ⟨s2, ?_, a2, CB_tr em_CB b2, fun _ => ?_⟩
      · rw [eC, if_pos ((tk_eq ha (X := 2) (w := 2) rfl (by omega)).mpr c2), ob em, ob e2]
      · have d1 : CD c ([] ++ [(0, tV b n i)]) s (sI (sI s 26 c (s.1 25 6)) 25 2 (nI (c + 1))) := CD_one (CD_nil (s1 := s) rfl hc) (ha.2.1 c2)
        have := CD_app d1 (CD_nil w1 (w2.trans sI_same))
        exact this
    · obtain ⟨s1, e1, a1, b1, w1, w2⟩ := m_nxt ht ha hi (by omega)
      have e29 := ha.2.2.2.1 kk
      refine ⟨nI (tV b n i), s1, ?_, b1, fun _ => ⟨a1, w2.trans hb, w1.trans ho, isV_mono (isV_lit _ _) hdd⟩, fun g => Bool.noConfusion g⟩
      rw [mE s ha hb (by omega) (by omega), if_pos (by rw [ha.2.1, kk]; rfl), ob e1, e29, lN_i]
  · by_cases cn : 256 ≤ tC b n i ∧ tC b n i < 262
    · have kk := kd_W cn.1
      have hNN := hN.2.2 (tC_0 (by omega))
      obtain ⟨e, he⟩ : ∃ e, tC b n i = 256 + e := ⟨tC b n i - 256, by omega⟩
      refine ⟨true, tN b n i, [(1, e)], ⟨by omega, hN.2.1, fun _ => ⟨by simp only [List.length_cons, List.length_nil]; omega, Nat.le_refl _, fun c hc => by rw [List.mem_singleton.mp hc]; show e < 6; omega⟩⟩, fun c s ht ha hc hci => ?_, fun s ht ha hb ho => ?_⟩
      · have ev : (-1 : Int32) - ((s.1 25 5) - 256) = xEnc (1, e) := by
          rw [ha.1, he, show nI (256 + e) - 256 = nI (256 + e - 256) from pk_sub (b := 256) (by omega), show 256 + e - 256 = e by omega, m1s (by omega)]
          rfl
        have em := c_emit (v := xEnc (1, e)) hc (by omega)
        obtain ⟨s2, e2, a2, b2, w1, w2⟩ := c_nxt (t := t) (CB_TC em_CB ht) (em_AT (c := c) (c' := c + 1) (v := xEnc (1, e)) ha) hi
        refine ⟨s2, ?_, a2, CB_tr em_CB b2, fun _ => ?_⟩
        · rw [eC, if_neg (n2 s ha c2), if_neg (ge256 s ha cn.1), if_neg (lt262 s ha cn.2), ev, ob em, ob e2]
        · have d1 : CD c ([] ++ [(1, e)]) s (sI (sI s 26 c (xEnc (1, e))) 25 2 (nI (c + 1))) := CD_one (CD_nil (s1 := s) rfl hc) rfl
          have := CD_app d1 (CD_nil w1 (w2.trans sI_same))
          exact this
      · obtain ⟨s1, e1, a1, b1, w1, w2⟩ := m_nxt ht ha hi (by omega)
        have nm := (m_name ht ha hb hi).1 e (by omega) he
        refine ⟨s.1 56 (18 + e), s1, ?_, b1, fun _ => ⟨a1, w2.trans hb, w1.trans ho, ?_⟩, fun g => Bool.noConfusion g⟩
        · rw [mE s ha hb (by omega) (by omega), if_neg (by rw [ha.2.1, kk]; decide), if_pos (by rw [ha.2.1, kk]; rfl), ob nm, if_pos hb, ob e1]
        · have := isV_nam (envM s) e
          rw [show envM s e = s.1 56 (18 + e) from if_pos (by omega)] at this
          exact isV_mono this hdd
    · have cE : ∀ s, AT n b i s → X1_readsOne_B t rc q s = if (s.1 25 5) = 45 then cNegB t rc q s else if (s.1 25 5) = 40 then cParB t rc q s else some (false, s) := fun s ha => by
        rw [eC, if_neg (n2 s ha c2)]
        by_cases g : tC b n i < 256
        · rw [if_pos (lt256 s ha g)]
        · rw [if_neg (ge256 s ha (by omega)), if_pos (ge262 s ha (by omega))]
      by_cases c45 : tC b n i = 45
      · obtain ⟨ok, i', L, P, cH, mH⟩ := hNeg c45
        refine ⟨ok, i', L, P, fun c s ht ha hc hci => ?_, fun s ht ha hb ho => ?_⟩
        · obtain ⟨s1, e1, r⟩ := cH c s ht ha hc hci
          exact ⟨s1, by rw [cE s ha, if_pos ((tk_eq ha (X := 45) (w := 45) rfl (by omega)).mpr c45), e1], r⟩
        · obtain ⟨v, s1, e1, r⟩ := mH s ht ha hb ho
          exact ⟨v, s1, by rw [eF, m_sign (x := 45) (c := 45) rfl ha hb (by decide), if_pos (decide_eq_true c45), e1], r⟩
      · by_cases c40 : tC b n i = 40
        · obtain ⟨ok, i', L, P, cH, mH⟩ := hPar c40
          refine ⟨ok, i', L, P, fun c s ht ha hc hci => ?_, fun s ht ha hb ho => ?_⟩
          · obtain ⟨s1, e1, r⟩ := cH c s ht ha hc hci
            exact ⟨s1, by rw [cE s ha, if_neg (n45 s ha c45), if_pos ((tk_eq ha (X := 40) (w := 40) rfl (by omega)).mpr c40), e1], r⟩
          · obtain ⟨v, s1, e1, r⟩ := mH s ht ha hb ho
            exact ⟨v, s1, by rw [eF, m_sign (x := 45) (c := 45) rfl ha hb (by decide), if_neg (by rw [decide_eq_false c45]; decide), m_sign (x := 40) (c := 40) rfl ha hb (by decide), if_pos (decide_eq_true c40), e1], r⟩
        · refine ⟨false, i, [], ⟨Nat.le_refl _, hi, fun g => Bool.noConfusion g⟩, fun c s ht ha hc hci => ⟨s, by rw [cE s ha, if_neg (n45 s ha c45), if_neg (n40 s ha c40)], ha, CB_rf, fun g => Bool.noConfusion g⟩, fun s ht ha hb ho => ?_⟩
          obtain ⟨f1, f2, f3⟩ := m_failF (n := n) (b := b) (i := i) (s := s)
          refine ⟨0, sI (sI s 56 31 1) 56 32 (nI (tA b n i)), ?_, f3, fun g => Bool.noConfusion g, fun _ => ⟨f1, f2⟩⟩
          rw [mE s ha hb c45 c40]
          by_cases k2 : kdT b n i = 2
          · exfalso
            rcases kd_c (b := b) (n := n) (i := i) with ⟨kk, _⟩ | ⟨kk, _⟩ | ⟨kk, cc, _⟩ | ⟨kk, _⟩ | ⟨kk, _⟩
            · omega
            · omega
            · omega
            · omega
            · omega
          · have kb : kdT b n i ≤ 4 := by
              rcases kd_c (b := b) (n := n) (i := i) with ⟨kk, _⟩ | ⟨kk, _⟩ | ⟨kk, cc, _⟩ | ⟨kk, _⟩ | ⟨kk, _⟩ <;> omega
            rw [if_neg (show ¬ s.1 56 27 = 2 from fun g => by rw [ha.2.1, show (2 : Int32) = nI 2 from rfl, nl_eq (by omega) (by omega)] at g; exact k2 g)]
            by_cases k1 : kdT b n i = 1
            · have nm := (m_name ht ha hb hi).2 (fun e he g => by omega)
              rw [if_pos (by rw [ha.2.1, k1]; rfl), ob nm, ha.1, if_neg (by rw [f1]; decide)]
            · rw [if_neg (show ¬ s.1 56 27 = 1 from fun g => by rw [ha.2.1, show (1 : Int32) = nI 1 from rfl, nl_eq (by omega) (by omega)] at g; exact k1 g)]
              unfold gAtF
              rw [ob (m_fail (k := 0) ha hb)]
end
