/-! soonest, out -/
def vS (x : Nat × Nat) : Int32 := if x.1 < 1000000 then nI x.1 else -1
/-- one's soonest, in such rain -/
def sB (V : mVT) (A : Ab) (p to rn : Nat) : Nat × Nat := skB (hbB V A p rn) (aWet (A.kd p) rn (A.wt p)) (A.st p) to
theorem skB_le {hw : Nat → Nat → Nat → Nat} {ww : Nat → Nat} {st to : Nat} (hst : st < 8) (ht : to < 8) : (skB hw ww st to).1 ≤ 1000000 ∧ (skB hw ww st to).2 ≤ 8 := by
  unfold skB
  split
  · exact ⟨Nat.zero_le _, Nat.zero_le _⟩
  · exact ⟨(skK_sound (hw := hw) (ww := ww) (to := to) hst ht 16).2.2, (skK_B (hw := hw) (ww := ww) (st := st) ht 16).2⟩
theorem c_found {s : mSG} {x : Nat × Nat} (hx : x.1 ≤ 1000000) (h : s.1 34 10 = nI x.1) : X3_hoursFound s = vS x := by
  unfold X3_hoursFound vS
  rw [h]
  by_cases q : x.1 < 1000000
  · rw [if_neg (show ¬ (1000000 : Int32) ≤ nI x.1 from nI_ge (b := 1000000) q (by omega)), if_pos q]
  · rw [if_pos (show (1000000 : Int32) ≤ nI x.1 from nI_le (a := 1000000) (by omega) (by omega)), if_neg q]
theorem hwC_none (V : mVT) (A : Ab) (p rn : Nat) : hwC V A p rn none = hbB V A p rn := by
  funext w a b
  rfl
theorem KN_0 {r q : Nat} {hb : Nat → Nat → Nat → Nat} {s : mSG} (h : s.1 r 1 = 0) : KN r q hb s := ⟨fun _ => false, by rw [h]; exact bT_0, fun _ _ g => by cases g⟩
theorem c_seekA {t : mTX} {tc : Nat} {V : mVT} {A : Ab} {s : mSG} {p to rn : Nat} (c : CT t tc V s) (hc : s.1 6 11 = nI tc) (h6 : tc ≤ 6) (h : RS 7 8 9 10 11 A s) (ok : AbOK A tc) (hp : p < A.pp) (ht : to < 8) (hr : rn ≤ 9) (k8 : s.1 34 8 = -1) (k9 : s.1 34 9 = -1) : ∃ s', X8_seek t (nI p) (nI to) (nI rn) s = some s' ∧ s'.1 34 10 = nI (sB V A p to rn).1 ∧ s'.1 34 11 = fI (sB V A p to rn).2 := by
  have h5 := ok.pp
  have hst := ok.st p hp
  unfold X8_seek
  rw [ob (c_rule_7 c hc h6 h ok)]
  obtain ⟨s1, e1, g1⟩ := c_be_28_7 h ok hp A.ru
  have f1 := FR_X0_be_28_7 _ _ _ _ e1
  rw [ob e1]
  have f2 : Fr [(28, some 8)] s1 (sI s1 28 8 (nI rn)) := Fr.rf.wI rfl
  have e3 : X3_forget (sI s1 28 8 (nI rn)) = some (sI (sI (sI s1 28 8 (nI rn)) 35 1 0) 37 1 0) := rfl
  have f3 := FR_X3_forget _ _ e3
  rw [ob e3]
  have c3 := CT_fr (CT_fr (CT_fr c f1 rfl) f2 rfl) f3 rfl
  have r1 := RS_fr h f1 (fun _ => rfl) (fun _ => rfl) (fun _ => rfl) (fun _ => rfl) (fun _ => rfl)
  have r3 := RS_fr (RS_fr r1 f2 (fun _ => rfl) (fun _ => rfl) (fun _ => rfl) (fun _ => rfl) (fun _ => rfl)) f3 (fun _ => rfl) (fun _ => rfl) (fun _ => rfl) (fun _ => rfl) (fun _ => rfl)
  obtain ⟨o1, o2, o3, o4, o5, o6, o7⟩ := g1
  have go3 : GO_28 A.ru (A.kd p) (A.nu p) (A.yd p) (A.ld p) (A.wt p) rn (sI (sI (sI s1 28 8 (nI rn)) 35 1 0) 37 1 0) := ⟨o1, o2, o3, o4, o5, o6, rfl⟩
  rw [ob (show X5_trait_7 (nI p) 0 (sI (sI (sI s1 28 8 (nI rn)) 35 1 0) 37 1 0) = some (nI (A.st p)) from (c_trait_7 (w := 0) r3 h5 hp (by omega)).trans (congrArg some (r3.st p hp)))]
  obtain ⟨s4, e4, _, _, _, _, v1, v2⟩ := c_seek (V := V) (pk := none) (w0 := A.wt p) (st := A.st p) (to := to) ok hp hr (ok.wt p hp) (by omega) ht ⟨c3, r3, go3⟩ ⟨((f1 34 8 rfl).1.trans k8), ((f1 34 9 rfl).1.trans k9)⟩ (KN_0 rfl) (KN_0 rfl)
  rw [ob e4]
  rw [hwC_none] at v1 v2
  exact ⟨s4, rfl, v1, v2⟩
def vSoon (V : mVT) (A : Ab) (x y z : Int32) : Int32 := if inP x A.pp ∧ inR y 7 ∧ inR z 1 then (if z = 0 then vS (sB V A x.toNatClampNeg y.toNatClampNeg (tRn A)) else fI (sB V A x.toNatClampNeg y.toNatClampNeg (tRn A)).2) else -2
section
variable {t : mTX} {tc : Nat} {V : mVT} {A : Ab} {hk : Bool} {K : Ab} {ts : Nat} {tp sk sn : Nat → Nat} {si : Nat → Nat → Int32} {s : mSG}
theorem c_soonest (h : IV t tc V A hk K ts tp sk sn si s) (x y z : Int32) : ∃ s', X8_soonest t x y z s = some (vSoon V A x y z, s') := by
  obtain ⟨⟨a1, a2, a3, a4, a5, a6⟩, ⟨b1, b2, b3⟩, _, _, _, ⟨k8, k9⟩, _⟩ := h
  have h5 := b3.pp
  unfold X8_soonest vSoon
  rw [c_isOne_7 b1 h5, c_isStone, show X8_isWithin z 1 = _ from c_within z 1]
  by_cases q : inP x A.pp ∧ inR y 7 ∧ inR z 1
  · rw [decide_eq_true q.1, decide_eq_true q.2.1, decide_eq_true q.2.2, if_pos rfl, if_pos rfl, if_pos rfl, if_pos q]
    obtain ⟨p, hp, rfl⟩ := inP_of q.1 (by omega)
    obtain ⟨b, hb, rfl⟩ := inR_of q.2.1 (by omega)
    have hst := b3.st p hp
    obtain ⟨s1, e1, v1, v2⟩ := c_seekA (V := V) (to := b) (rn := A.rn (A.hr % 24)) a1 a3 a6 b1 b3 hp (by omega) (b3.rn _) k8 k9
    rw [ob (c_rainNow_7 b1 b3), ob e1, c_found (skB_le (by omega) (by omega)).1 v1, nl_cl (by omega), nl_cl (by omega)]
    unfold X3_firstFound
    rw [v2]
    refine ⟨s1, ?_⟩
    by_cases z0 : z = 0
    · rw [if_pos z0, if_pos z0]; rfl
    · rw [if_neg z0, if_neg z0]; rfl
  · rw [if_neg q]
    by_cases q1 : inP x A.pp
    · by_cases q2 : inR y 7
      · rw [decide_eq_true q1, decide_eq_true q2, decide_eq_false (fun q3 => q ⟨q1, q2, q3⟩)]
        exact ⟨_, rfl⟩
      · rw [decide_eq_true q1, decide_eq_false q2]
        exact ⟨_, rfl⟩
    · rw [decide_eq_false q1]
      exact ⟨_, rfl⟩
theorem m_soonest (h : IV t tc V A hk K ts tp sk sn si s) (x y z : Int32) : ∃ s', X9_soonest x y z s = some (vSoon V A x y z, s') := by
  obtain ⟨⟨a1, a2, a3, a4, a5, a6⟩, ⟨b1, b2, b3⟩, _⟩ := h
  have h5 := b3.pp
  have hh := b3.hr
  unfold X9_soonest vSoon
  rw [m_isOne b2 h5, m_isStone, show X9_in z.toInt64 0 1 = decide (inR z 1) from b_dec (m_inR z 1 1 rfl)]
  by_cases q : inP x A.pp ∧ inR y 7 ∧ inR z 1
  · rw [decide_eq_true q.1, decide_eq_true q.2.1, decide_eq_true q.2.2, if_pos rfl, if_pos rfl, if_pos rfl, if_pos q]
    obtain ⟨p, hp, rfl⟩ := inP_of q.1 (by omega)
    obtain ⟨b, hb, rfl⟩ := inR_of q.2.1 (by omega)
    obtain ⟨s1, e1, v1, v2⟩ := m_seeks (V := V) (to := b) (rn := A.rn (A.hr % 24)) b3 hp (b3.rn _) (by omega) ⟨a1, a2, b2⟩
    rw [b2.hr, ob (m_rainAt b2 (by omega)), ob e1, v1, v2, nl_cl (by omega), nl_cl (by omega)]
    refine ⟨s1, ?_⟩
    by_cases z0 : z = 0
    · rw [if_pos z0, if_pos z0]; rfl
    · rw [if_neg z0, if_neg z0]; rfl
  · rw [if_neg q]
    by_cases q1 : inP x A.pp
    · by_cases q2 : inR y 7
      · rw [decide_eq_true q1, decide_eq_true q2, decide_eq_false (fun q3 => q ⟨q1, q2, q3⟩)]
        exact ⟨_, rfl⟩
      · rw [decide_eq_true q1, decide_eq_false q2]
        exact ⟨_, rfl⟩
    · rw [decide_eq_false q1]
      exact ⟨_, rfl⟩
end
theorem L_soonest {t : mTX} {s : mSG} (h : INV t s) (x y z : Int32) : ∃ v s1 s2, X8_soonest t x y z s = some (v, s1) ∧ X9_soonest x y z s1 = some (v, s2) ∧ INV t s2 := by
  obtain ⟨tc, V, A, hk, K, ts, tp, sk, sn, si, hv⟩ := h
  exact L_work (F := X8_soonest t x y z) (G := X9_soonest x y z) (v := vSoon V A x y z) hv (fun s h => c_soonest h x y z) (fun s h => m_soonest h x y z) (fun s o e => FR_X8_soonest _ _ _ _ _ _ e) (fun s o e => FR_X9_soonest _ _ _ _ _ e) rfl rfl
/-! out -/
def rnD (A : Ab) (d : Nat) : Nat := A.rn ((A.hr + d) % 24)
def oO (V : mVT) (A : Ab) (p to : Nat) : Nat → Option (Nat × Nat)
  | 0 => none
  | d + 1 => if (sB V A p to (rnD A d)).1 < 1000000 then (match oO V A p to d with
      | none => some (d, d + (sB V A p to (rnD A d)).1)
      | some x => if d + (sB V A p to (rnD A d)).1 < x.2 then some (d, d + (sB V A p to (rnD A d)).1) else some x) else oO V A p to d
def oW (o : Option (Nat × Nat)) : Int32 := match o with
  | none => -1
  | some x => nI x.1
def oA (o : Option (Nat × Nat)) : Int32 := match o with
  | none => -1
  | some x => nI x.2
theorem oO_b {V : mVT} {A : Ab} {p to : Nat} : ∀ d x, oO V A p to d = some x → x.1 < d ∧ x.2 < d + 1000000
  | 0, x, h => by cases h
  | d + 1, x, h => by
    have h : (if (sB V A p to (rnD A d)).1 < 1000000 then (match oO V A p to d with
      | none => some (d, d + (sB V A p to (rnD A d)).1)
      | some x => if d + (sB V A p to (rnD A d)).1 < x.2 then some (d, d + (sB V A p to (rnD A d)).1) else some x) else oO V A p to d) = some x := h
    have ih := oO_b (V := V) (A := A) (p := p) (to := to) d
    by_cases q : (sB V A p to (rnD A d)).1 < 1000000
    · rw [if_pos q] at h
      cases ho : oO V A p to d with
      | none =>
        rw [ho] at h
        have h := Option.some.inj h
        rw [← h]
        exact ⟨by show d < d + 1; omega, by show d + _ < _; omega⟩
      | some y =>
        rw [ho] at h
        have := ih y ho
        by_cases q2 : d + (sB V A p to (rnD A d)).1 < y.2
        · have h : (if d + (sB V A p to (rnD A d)).1 < y.2 then some (d, d + (sB V A p to (rnD A d)).1) else some y) = some x := h
          rw [if_pos q2] at h
          have h := Option.some.inj h
          rw [← h]
          exact ⟨by show d < d + 1; omega, by show d + _ < _; omega⟩
        · have h : (if d + (sB V A p to (rnD A d)).1 < y.2 then some (d, d + (sB V A p to (rnD A d)).1) else some y) = some x := h
          rw [if_neg q2] at h
          have h := Option.some.inj h
          rw [← h]
          omega
    · rw [if_neg q] at h
      have := ih x h
      omega
/-- like rain earlier: no better -/
theorem oO_seen {V : mVT} {A : Ab} {p to e : Nat} (he : (sB V A p to (rnD A e)).1 < 1000000) : ∀ d, e < d → ∃ x, oO V A p to d = some x ∧ x.2 ≤ e + (sB V A p to (rnD A e)).1
  | 0, h => absurd h (Nat.not_lt_zero e)
  | d + 1, h => by
    show ∃ x, (if (sB V A p to (rnD A d)).1 < 1000000 then (match oO V A p to d with
      | none => some (d, d + (sB V A p to (rnD A d)).1)
      | some x => if d + (sB V A p to (rnD A d)).1 < x.2 then some (d, d + (sB V A p to (rnD A d)).1) else some x) else oO V A p to d) = some x ∧ _
    by_cases q : e = d
    · subst q
      rw [if_pos he]
      cases ho : oO V A p to e with
      | none => exact ⟨_, rfl, Nat.le_refl _⟩
      | some y =>
        show ∃ x, (if e + (sB V A p to (rnD A e)).1 < y.2 then some (e, e + (sB V A p to (rnD A e)).1) else some y) = some x ∧ _
        by_cases q2 : e + (sB V A p to (rnD A e)).1 < y.2
        · rw [if_pos q2]; exact ⟨_, rfl, Nat.le_refl _⟩
        · rw [if_neg q2]; exact ⟨y, rfl, by omega⟩
    · obtain ⟨y, ho, hy⟩ := oO_seen he d (by omega)
      rw [ho]
      by_cases q1 : (sB V A p to (rnD A d)).1 < 1000000
      · rw [if_pos q1]
        show ∃ x, (if d + (sB V A p to (rnD A d)).1 < y.2 then some (d, d + (sB V A p to (rnD A d)).1) else some y) = some x ∧ _
        by_cases q2 : d + (sB V A p to (rnD A d)).1 < y.2
        · rw [if_pos q2]; exact ⟨_, rfl, by show d + _ ≤ _; omega⟩
        · rw [if_neg q2]; exact ⟨y, rfl, hy⟩
      · rw [if_neg q1]
        exact ⟨y, rfl, hy⟩
theorem oO_same {V : mVT} {A : Ab} {p to e d : Nat} (hed : e < d) (hr : rnD A e = rnD A d) : oO V A p to (d + 1) = oO V A p to d := by
  show (if (sB V A p to (rnD A d)).1 < 1000000 then (match oO V A p to d with
      | none => some (d, d + (sB V A p to (rnD A d)).1)
      | some x => if d + (sB V A p to (rnD A d)).1 < x.2 then some (d, d + (sB V A p to (rnD A d)).1) else some x) else oO V A p to d) = oO V A p to d
  by_cases q : (sB V A p to (rnD A d)).1 < 1000000
  · rw [if_pos q]
    obtain ⟨y, ho, hy⟩ := oO_seen (V := V) (A := A) (p := p) (to := to) (e := e) (by rw [hr]; exact q) d hed
    rw [ho]
    show (if d + (sB V A p to (rnD A d)).1 < y.2 then some (d, d + (sB V A p to (rnD A d)).1) else some y) = some y
    rw [if_neg (by rw [hr] at hy; omega)]
  · rw [if_neg q]
theorem c_seen {A : Ab} {tc d rn : Nat} {s : mSG} (h : RS 7 8 9 10 11 A s) (ok : AbOK A tc) (hd : d ≤ 24) (hr : rn ≤ 9) : ∃ b, X8_wasRainSeen (nI rn) (nI d) s = some b ∧ (b = true ↔ ∃ e, e < d ∧ rnD A e = rn) := by
  have key : ∃ e, X8_wasRainSeen_l2 (nI rn) (nI d) s 0 = some e ∧ (Sum.elim (fun _ : Unit => true) (fun _ : Unit => false) e = true ↔ ∃ e, e < d ∧ rnD A e = rn) := by
    unfold X8_wasRainSeen_l2
    refine lpE (fun i (v : Int32) => v = nI i ∧ ∀ j, j < i → ¬ rnD A j = rn) (fun e : Unit ⊕ Unit => Sum.elim (fun _ : Unit => true) (fun _ : Unit => false) e = true ↔ ∃ e, e < d ∧ rnD A e = rn) d (by unfold mFU; omega) ?_ ?_ (k := 0) (by omega) (x := 0) ⟨rfl, fun j hj => absurd hj (Nat.not_lt_zero j)⟩
    · intro i v hi hv
      obtain ⟨e, r⟩ := hv
      subst e
      have hrn := ok.rn ((A.hr + i) % 24)
      by_cases q : rnD A i = rn
      · refine Or.inr ⟨.inl (), ?_, ⟨fun _ => ⟨i, hi, q⟩, fun _ => rfl⟩⟩
        unfold X8_wasRainSeen_b2
        rw [if_neg (nI_ge hi (by omega)), ob (c_rainIn_7 h ok (by omega)), if_pos (by rw [← q]; rfl)]
      · refine Or.inl ⟨nI (i + 1), ?_, rfl, fun j hj => ?_⟩
        · unfold X8_wasRainSeen_b2
          rw [if_neg (nI_ge hi (by omega)), ob (c_rainIn_7 h ok (by omega)), if_neg (show ¬ nI (A.rn ((A.hr + i) % 24)) = nI rn from by rw [nl_eq (by omega) (by omega)]; exact q), nI_1]
        · by_cases g : j = i
          · rw [g]; exact q
          · exact r j (by omega)
    · intro v hv
      obtain ⟨e, r⟩ := hv
      subst e
      refine ⟨.inr (), ?_, ⟨fun g => (by cases g), fun ⟨e, he, hee⟩ => absurd hee (r e he)⟩⟩
      unfold X8_wasRainSeen_b2
      rw [if_pos (nI_le (Nat.le_refl _) (by omega))]
  obtain ⟨e, he, hv⟩ := key
  unfold X8_wasRainSeen
  rw [ob he]
  cases e with
  | inl a => exact ⟨true, rfl, hv⟩
  | inr a => exact ⟨false, rfl, hv⟩
theorem vS_m1 {x : Nat × Nat} : (vS x = -1) = (¬ x.1 < 1000000) := by
  unfold vS
  by_cases q : x.1 < 1000000
  · rw [if_pos q]
    exact propext ⟨fun g => absurd g (show ¬ nI x.1 = -1 from gl_neN (b := 1) rfl (by omega) (by omega) (by omega)), fun g => absurd q g⟩
  · rw [if_neg q]
    exact propext ⟨fun _ => q, fun _ => rfl⟩
section
variable {t : mTX} {tc : Nat} {V : mVT} {A : Ab} {hk : Bool} {K : Ab} {ts : Nat} {tp sk sn : Nat → Nat} {si : Nat → Nat → Int32}
/-- the choice, for both -/
theorem oO_pick {p to d : Nat} {β : Type} (hd : d < 24) (F : Int32 → Int32 → β) : (if vS (sB V A p to (rnD A d)) = -1 then F (oW (oO V A p to d)) (oA (oO V A p to d)) else if oA (oO V A p to d) = -1 then F (nI d) (nI d + vS (sB V A p to (rnD A d))) else if oA (oO V A p to d) ≤ nI d + vS (sB V A p to (rnD A d)) then F (oW (oO V A p to d)) (oA (oO V A p to d)) else F (nI d) (nI d + vS (sB V A p to (rnD A d)))) = F (oW (oO V A p to (d + 1))) (oA (oO V A p to (d + 1))) := by
  have es : oO V A p to (d + 1) = (if (sB V A p to (rnD A d)).1 < 1000000 then (match oO V A p to d with
      | none => some (d, d + (sB V A p to (rnD A d)).1)
      | some x => if d + (sB V A p to (rnD A d)).1 < x.2 then some (d, d + (sB V A p to (rnD A d)).1) else some x) else oO V A p to d) := rfl
  rw [es]
  by_cases q : (sB V A p to (rnD A d)).1 < 1000000
  · rw [if_neg (by rw [vS_m1]; exact fun g => g q), if_pos q]
    have ev : vS (sB V A p to (rnD A d)) = nI (sB V A p to (rnD A d)).1 := if_pos q
    rw [ev, nI_add]
    cases ho : oO V A p to d with
    | none =>
      rw [if_pos (show oA none = -1 from rfl)]
      rfl
    | some x =>
      have hb := oO_b d x ho
      rw [if_neg (show ¬ oA (some x) = -1 from gl_neN (a := x.2) (b := 1) rfl (by omega) (by omega) (by omega))]
      show (if nI x.2 ≤ nI (d + (sB V A p to (rnD A d)).1) then F (nI x.1) (nI x.2) else _) = F (oW (if d + (sB V A p to (rnD A d)).1 < x.2 then some (d, d + (sB V A p to (rnD A d)).1) else some x)) (oA (if d + (sB V A p to (rnD A d)).1 < x.2 then some (d, d + (sB V A p to (rnD A d)).1) else some x))
      by_cases q2 : d + (sB V A p to (rnD A d)).1 < x.2
      · rw [if_neg (nI_ge q2 (by omega)), if_pos q2]
        rfl
      · rw [if_pos (nI_le (by omega) (by omega)), if_neg q2]
        rfl
  · rw [if_pos (by rw [vS_m1]; exact q), if_neg q]
theorem c_outL {s : mSG} {p to : Nat} (x3 : Int32) (hp : p < A.pp) (ht : to < 8) (h : IV t tc V A hk K ts tp sk sn si s) : ∃ e, X8_out_l38 t (nI p) (nI to) x3 (-1, -1, 0, s) = some e ∧ (e.1 = oW (oO V A p to 24) ∧ e.2.1 = oA (oO V A p to 24)) := by
  unfold X8_out_l38
  refine lpN (fun d (v : Int32 × Int32 × Int32 × mSG) => v.1 = oW (oO V A p to d) ∧ v.2.1 = oA (oO V A p to d) ∧ v.2.2.1 = nI d ∧ IV t tc V A hk K ts tp sk sn si v.2.2.2) (fun e : Int32 × Int32 × mSG => e.1 = oW (oO V A p to 24) ∧ e.2.1 = oA (oO V A p to 24)) 24 (by unfold mFU; omega) ?_ ?_ (k := 0) (by omega) (x := (-1, -1, 0, s)) ⟨rfl, rfl, rfl, h⟩
  · intro d v hd hv
    obtain ⟨y1, y2, y3, s1⟩ := v
    obtain ⟨g1, g2, g3, g4⟩ := hv
    have g1 : y1 = oW (oO V A p to d) := g1
    have g2 : y2 = oA (oO V A p to d) := g2
    have g3 : y3 = nI d := g3
    subst g1 g2 g3
    have g4 : IV t tc V A hk K ts tp sk sn si s1 := g4
    have g := g4
    obtain ⟨⟨a1, a2, a3, a4, a5, a6⟩, ⟨b1, b2, b3⟩, _, _, _, ⟨k8, k9⟩, _⟩ := g
    have hst := b3.st p hp
    obtain ⟨b, hb, wb⟩ := c_seen (d := d) (rn := rnD A d) b1 b3 (by omega) (b3.rn _)
    cases b with
    | true =>
      obtain ⟨e, he, hee⟩ := wb.mp rfl
      refine ⟨(oW (oO V A p to (d + 1)), oA (oO V A p to (d + 1)), nI (d + 1), s1), ?_, rfl, rfl, rfl, g4⟩
      show X8_out_b38 t (nI p) (nI to) x3 (oW (oO V A p to d)) (oA (oO V A p to d)) (nI d) s1 = _
      unfold X8_out_b38 X8_out_j120_38
      rw [if_neg (gl_le (x := 24) (m := 24) rfl hd (by omega)), ob (c_rainIn_7 b1 b3 (by omega)), ob (show X8_wasRainSeen (nI (A.rn ((A.hr + d) % 24))) (nI d) s1 = some true from hb), if_pos rfl, nI_1, oO_same he hee]
    | false =>
      obtain ⟨s2, e2, v1, v2⟩ := c_seekA (V := V) (to := to) (rn := rnD A d) a1 a3 a6 b1 b3 hp ht (b3.rn _) k8 k9
      have f2 := FR_X8_seek _ _ _ _ _ _ e2
      refine ⟨(oW (oO V A p to (d + 1)), oA (oO V A p to (d + 1)), nI (d + 1), s2), ?_, rfl, rfl, rfl, IV_fr g4 f2 rfl⟩
      show X8_out_b38 t (nI p) (nI to) x3 (oW (oO V A p to d)) (oA (oO V A p to d)) (nI d) s1 = _
      unfold X8_out_b38 X8_out_j109_38 X8_out_j120_38
      rw [if_neg (gl_le (x := 24) (m := 24) rfl hd (by omega)), ob (c_rainIn_7 b1 b3 (by omega)), ob (show X8_wasRainSeen (nI (A.rn ((A.hr + d) % 24))) (nI d) s1 = some false from hb), if_neg (by decide), ob (show X8_seek t (nI p) (nI to) (nI (A.rn ((A.hr + d) % 24))) s1 = some s2 from e2), c_found (skB_le (by omega) ht).1 v1, nI_1]
      exact oO_pick hd (fun a b => some (Sum.inl (a, b, nI (d + 1), s2)))
  · intro v hv
    obtain ⟨y1, y2, y3, s1⟩ := v
    obtain ⟨g1, g2, g3, g4⟩ := hv
    have g3 : y3 = nI 24 := g3
    subst g3
    refine ⟨(y1, y2, s1), ?_, g1, g2⟩
    show X8_out_b38 t (nI p) (nI to) x3 y1 y2 (nI 24) s1 = _
    unfold X8_out_b38
    rw [if_pos (show (24 : Int32) ≤ nI 24 from by decide)]
theorem oWA (o : Option (Nat × Nat)) (h : ∀ x, o = some x → x.1 < 1000 ∧ x.2 < 2000000) : (oW o = -1) = (oA o = -1) := by
  cases o with
  | none => rfl
  | some x =>
    have := h x rfl
    exact propext ⟨fun g => absurd g (show ¬ nI x.1 = -1 from gl_neN (b := 1) rfl (by omega) (by omega) (by omega)), fun g => absurd g (show ¬ nI x.2 = -1 from gl_neN (b := 1) rfl (by omega) (by omega) (by omega))⟩
theorem m_outL {s : mSG} {p to : Nat} (x3 : Int32) (hp : p < A.pp) (ht : to < 8) (h : IV t tc V A hk K ts tp sk sn si s) : ∃ e, X9_out_l37 (nI p) (nI to) x3 (-1, -1, 0, s) = some e ∧ (e.1 = oW (oO V A p to 24) ∧ e.2.1 = oA (oO V A p to 24)) := by
  unfold X9_out_l37
  refine lpN (fun d (v : Int32 × Int32 × Int32 × mSG) => v.1 = oW (oO V A p to d) ∧ v.2.1 = oA (oO V A p to d) ∧ v.2.2.1 = nI d ∧ IV t tc V A hk K ts tp sk sn si v.2.2.2) (fun e : Int32 × Int32 × mSG => e.1 = oW (oO V A p to 24) ∧ e.2.1 = oA (oO V A p to 24)) 24 (by unfold mFU; omega) ?_ ?_ (k := 0) (by omega) (x := (-1, -1, 0, s)) ⟨rfl, rfl, rfl, h⟩
  · intro d v hd hv
    obtain ⟨y1, y2, y3, s1⟩ := v
    obtain ⟨g1, g2, g3, g4⟩ := hv
    have g1 : y1 = oW (oO V A p to d) := g1
    have g2 : y2 = oA (oO V A p to d) := g2
    have g3 : y3 = nI d := g3
    subst g1 g2 g3
    have g4 : IV t tc V A hk K ts tp sk sn si s1 := g4
    have g := g4
    obtain ⟨⟨a1, a2, a3, a4, a5, a6⟩, ⟨b1, b2, b3⟩, _⟩ := g
    have hh := b3.hr
    obtain ⟨s2, e2, v1, v2⟩ := m_seeks (V := V) (to := to) (rn := rnD A d) b3 hp (b3.rn _) ht ⟨a1, a2, b2⟩
    have f2 := FR_X9_seeks _ _ _ _ _ e2
    refine ⟨(oW (oO V A p to (d + 1)), oA (oO V A p to (d + 1)), nI (d + 1), s2), ?_, rfl, rfl, rfl, IV_fr g4 f2 rfl⟩
    show X9_out_b37 (nI p) (nI to) x3 (oW (oO V A p to d)) (oA (oO V A p to d)) (nI d) s1 = _
    have v1 : s2.1 56 36 = vS (sB V A p to (rnD A d)) := v1
    unfold X9_out_b37 X9_out_j87_37 X9_out_j100_37
    rw [if_neg (gl_le (x := 24) (m := 24) rfl hd (by omega)), b2.hr, nI_add, ob (m_rainAt b2 (by omega)), ob (show X9_seeks (nI p) (nI to) (nI (A.rn ((A.hr + d) % 24))) s1 = some s2 from e2), v1, nI_1]
    have ew := oWA (oO V A p to d) (fun x hx => by have := oO_b d x hx; omega)
    rw [← oO_pick hd (fun a b => some (Sum.inl (a, b, nI (d + 1), s2)))]
    by_cases q : oA (oO V A p to d) = -1
    · rw [if_pos (ew.mpr q), if_pos q]
    · rw [if_neg (fun g => q (ew.mp g)), if_neg q]
  · intro v hv
    obtain ⟨y1, y2, y3, s1⟩ := v
    obtain ⟨g1, g2, g3, g4⟩ := hv
    have g3 : y3 = nI 24 := g3
    subst g3
    refine ⟨(y1, y2, s1), ?_, g1, g2⟩
    show X9_out_b37 (nI p) (nI to) x3 y1 y2 (nI 24) s1 = _
    unfold X9_out_b37
    rw [if_pos (show (24 : Int32) ≤ nI 24 from by decide)]
def vOut (V : mVT) (A : Ab) (x y z : Int32) : Int32 := if inP x A.pp ∧ inR y 7 ∧ inR z 1 then (if z = 0 then oW (oO V A x.toNatClampNeg y.toNatClampNeg 24) else oA (oO V A x.toNatClampNeg y.toNatClampNeg 24)) else -2
theorem c_out {s : mSG} (h : IV t tc V A hk K ts tp sk sn si s) (x y z : Int32) : ∃ s', X8_out t x y z s = some (vOut V A x y z, s') := by
  have hv := h
  obtain ⟨_, ⟨b1, b2, b3⟩, _⟩ := h
  have h5 := b3.pp
  unfold X8_out vOut
  rw [c_isOne_7 b1 h5, c_isStone, show X8_isWithin z 1 = _ from c_within z 1]
  by_cases q : inP x A.pp ∧ inR y 7 ∧ inR z 1
  · rw [decide_eq_true q.1, decide_eq_true q.2.1, decide_eq_true q.2.2, if_pos rfl, if_pos rfl, if_pos rfl, if_pos q]
    obtain ⟨p, hp, rfl⟩ := inP_of q.1 (by omega)
    obtain ⟨b, hb, rfl⟩ := inR_of q.2.1 (by omega)
    obtain ⟨e, he, v1, v2⟩ := c_outL z hp (show b < 8 by omega) hv
    rw [ob he, v1, v2, nl_cl (by omega), nl_cl (by omega)]
    refine ⟨e.2.2, ?_⟩
    by_cases z0 : z = 0
    · rw [if_pos z0, if_pos z0]
    · rw [if_neg z0, if_neg z0]
  · rw [if_neg q]
    by_cases q1 : inP x A.pp
    · by_cases q2 : inR y 7
      · rw [decide_eq_true q1, decide_eq_true q2, decide_eq_false (fun q3 => q ⟨q1, q2, q3⟩)]
        exact ⟨_, rfl⟩
      · rw [decide_eq_true q1, decide_eq_false q2]
        exact ⟨_, rfl⟩
    · rw [decide_eq_false q1]
      exact ⟨_, rfl⟩
theorem m_out {s : mSG} (h : IV t tc V A hk K ts tp sk sn si s) (x y z : Int32) : ∃ s', X9_out x y z s = some (vOut V A x y z, s') := by
  have hv := h
  obtain ⟨_, ⟨b1, b2, b3⟩, _⟩ := h
  have h5 := b3.pp
  unfold X9_out vOut
  rw [m_isOne b2 h5, m_isStone, show X9_in z.toInt64 0 1 = decide (inR z 1) from b_dec (m_inR z 1 1 rfl)]
  by_cases q : inP x A.pp ∧ inR y 7 ∧ inR z 1
  · rw [decide_eq_true q.1, decide_eq_true q.2.1, decide_eq_true q.2.2, if_pos rfl, if_pos rfl, if_pos rfl, if_pos q]
    obtain ⟨p, hp, rfl⟩ := inP_of q.1 (by omega)
    obtain ⟨b, hb, rfl⟩ := inR_of q.2.1 (by omega)
    obtain ⟨e, he, v1, v2⟩ := m_outL z hp (show b < 8 by omega) hv
    rw [ob he, v1, v2, nl_cl (by omega), nl_cl (by omega)]
    refine ⟨e.2.2, ?_⟩
    by_cases z0 : z = 0
    · rw [if_pos z0, if_pos z0]
    · rw [if_neg z0, if_neg z0]
  · rw [if_neg q]
    by_cases q1 : inP x A.pp
    · by_cases q2 : inR y 7
      · rw [decide_eq_true q1, decide_eq_true q2, decide_eq_false (fun q3 => q ⟨q1, q2, q3⟩)]
        exact ⟨_, rfl⟩
      · rw [decide_eq_true q1, decide_eq_false q2]
        exact ⟨_, rfl⟩
    · rw [decide_eq_false q1]
      exact ⟨_, rfl⟩
end
theorem L_out {t : mTX} {s : mSG} (h : INV t s) (x y z : Int32) : ∃ v s1 s2, X8_out t x y z s = some (v, s1) ∧ X9_out x y z s1 = some (v, s2) ∧ INV t s2 := by
  obtain ⟨tc, V, A, hk, K, ts, tp, sk, sn, si, hv⟩ := h
  exact L_work (F := X8_out t x y z) (G := X9_out x y z) (v := vOut V A x y z) hv (fun s h => c_out h x y z) (fun s h => m_out h x y z) (fun s o e => FR_X8_out _ _ _ _ _ _ e) (fun s o e => FR_X9_out _ _ _ _ _ e) rfl rfl
