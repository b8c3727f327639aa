/-! WHO GOES -/
theorem ob {α β : Type} {o : Option α} {a : α} (h : o = some a) (f : α → Option β) : o.bind f = f a := by rw [h]; rfl
theorem RS_eq {o m t d r : Nat} {A : Ab} {s s' : mSG} (h : RS o m t d r A s) (eo : s'.1 o = s.1 o) (em : s'.1 m = s.1 m) (et : s'.1 t = s.1 t) (ed : s'.1 d = s.1 d) (er : s'.1 r = s.1 r) : RS o m t d r A s' := by
  unfold RS at h ⊢
  rw [eo, em, et, ed, er]
  exact h
/-- the model's texts -/
def MT (tc : Nat) (V : mVT) (s : mSG) : Prop := ∀ k, k < tc → ∀ s2 : mSG, (∀ j, 160 * k ≤ j → j < 160 * k + 160 → s2.1 57 j = s.1 57 j) → s2.1 58 k = s.1 58 k → ∀ pt, pt < 3 → ∃ s', X9_read (nI k) (nI pt) s2 = some (V k pt (fun i => s2.1 56 (18 + i)), s')
theorem MT_fr {W : List (Nat × Option Nat)} {tc : Nat} {V : mVT} {s s' : mSG} (h : MT tc V s) (f : Fr W s s') (h7 : ∀ k, mW W 57 k = false) (h8 : ∀ k, mW W 58 k = false) : MT tc V s' := fun k hk s2 g1 g2 pt hp => h k hk s2 (fun j a b => (g1 j a b).trans (f _ _ (h7 j)).1) (g2.trans (f _ _ (h8 k)).1) pt hp
theorem RM_fr {W : List (Nat × Option Nat)} {A : Ab} {s s' : mSG} (h : RM A s) (f : Fr W s s') (h0 : ∀ k, mW W 60 k = false) (h1 : ∀ k, mW W 61 k = false) (h2 : ∀ k, mW W 62 k = false) (h3 : ∀ k, mW W 63 k = false) (h4 : ∀ k, mW W 64 k = false) (h5 : ∀ k, mW W 65 k = false) (h6 : ∀ k, mW W 66 k = false) (h7 : ∀ k, mW W 67 k = false) (h8 : ∀ k, mW W 68 k = false) (hp : mW W 56 15 = false) (hh : mW W 56 16 = false) (hr : mW W 56 4 = false) : RM A s' := by
  obtain ⟨k1, k2, k3, k4, k5, k6, k7, k8, k9, k10, k11, k12⟩ := h
  refine ⟨?_, ?_, ?_, ?_, ?_, ?_, ?_, ?_, ?_, ?_, ?_, ?_⟩
  · intro i hi; rw [(f _ _ (h0 i)).1]; exact k1 i hi
  · intro i hi; rw [(f _ _ (h1 i)).1]; exact k2 i hi
  · intro i hi; rw [(f _ _ (h2 i)).1]; exact k3 i hi
  · intro i hi; rw [(f _ _ (h3 i)).1]; exact k4 i hi
  · intro i hi; rw [(f _ _ (h4 i)).1]; exact k5 i hi
  · intro i hi; rw [(f _ _ (h5 i)).1]; exact k6 i hi
  · intro i hi; rw [(f _ _ (h6 i)).1]; exact k7 i hi
  · intro i hi; rw [(f _ _ (h7 i)).1]; exact k8 i hi
  · intro i hi; rw [(f _ _ (h8 i)).1]; exact k9 i hi
  · rw [(f _ _ hp).1]; exact k10
  · rw [(f _ _ hh).1]; exact k11
  · rw [(f _ _ hr).1]; exact k12
theorem m_says {t : mTX} {A : Ab} {tc : Nat} {V : mVT} {s : mSG} (c : CT t tc V s) (mt : MT tc V s) (h : RM A s) (ok : AbOK A tc) {pt p : Nat} (hp : p < A.pp) (hpt : pt < 3) (wt rn : Nat) {a b : Nat} (ha : a ≤ 7) (hb : b ≤ 7) : ∃ s', X9_says (nI pt) (nI p) (nI wt) (nI rn) (nI a) (nI b) s = some (nI (aSay V A.ru pt (if pt = 2 then 0 else A.mud (a * 8 + b)) wt (A.ld p) rn a b), s') := by
  have h5 := ok.pp
  have h23 : ∀ mud : Nat, ∃ s', X9_says_j23 (nI pt) (nI p) (nI wt) (nI rn) (nI a) (nI b) (nI mud) s = some (nI (aSay V A.ru pt mud wt (A.ld p) rn a b), s') := by
    intro mud
    unfold X9_says_j23
    rw [if_pos (gl_inb (show p < 5 by omega) (by omega)), nl_cl (by omega), h.ld p hp, h.ru]
    generalize hs1 : sI (sI (sI (sI (sI (sI s 56 18 (nI mud)) 56 19 (nI wt)) 56 20 (nI (A.ld p))) 56 21 (nI rn)) 56 22 (nI a)) 56 23 (nI b) = s1
    have eo : ∀ q, q ≠ 56 → s1.1 q = s.1 q := by
      intro q hq
      rw [← hs1]
      funext j
      rw [sI_adr hq, sI_adr hq, sI_adr hq, sI_adr hq, sI_adr hq, sI_adr hq]
    obtain ⟨s', e⟩ := mt A.ru ok.ru s1 (fun j _ _ => by rw [eo 57 (by decide)]) (by rw [eo 58 (by decide)]) pt hpt
    refine ⟨s', ?_⟩
    rw [e]
    show some (X9_within _ 0 99, s') = _
    rw [m_wit99]
    unfold aSay
    rw [V_env c ok.ru hpt (e' := xEnv mud wt (A.ld p) rn a b) (fun i hi => by
      have hc : i = 0 ∨ i = 1 ∨ i = 2 ∨ i = 3 ∨ i = 4 ∨ i = 5 := by omega
      rw [← hs1]
      rcases hc with rfl | rfl | rfl | rfl | rfl | rfl <;> rfl)]
  unfold X9_says
  by_cases q : pt = 2
  · subst q
    rw [if_pos (show nI 2 = 2 from rfl), if_pos rfl]
    exact h23 0
  · have q2 : ¬ nI pt = 2 := by
      show ¬ (nI pt = nI 2)
      rw [nl_eq (by omega) (by omega)]
      exact q
    have e8 : (8 : Int32) * nI a + nI b = nI (a * 8 + b) := by
      rw [show (8 : Int32) = nI 8 from rfl, pk_mul, nI_add, Nat.mul_comm 8 a]
    rw [if_neg q2, if_neg q, e8, if_pos (gl_inb (show a * 8 + b < 64 by omega) (by omega)), nl_cl (by omega), h.mud _ (by omega)]
    exact h23 _
theorem m_canGo {t : mTX} {A : Ab} {tc : Nat} {V : mVT} {s : mSG} (c : CT t tc V s) (mt : MT tc V s) (h : RM A s) (ok : AbOK A tc) {p wt rn a b : Nat} (hp : p < A.pp) (hw : wt ≤ 9) (ha : a ≤ 7) (hb : b ≤ 7) : ∃ s', X9_canGo (nI p) (nI wt) (nI rn) (nI a) (nI b) s = some (decide (aHrs V A.ru (A.kd p) (A.nu p) (A.yd p) (A.ld p) wt rn a b (A.mud (a * 8 + b)) ≠ 0), s') := by
  have h5 := ok.pp
  have e8 : (8 : Int32) * nI a + nI b = nI (a * 8 + b) := by
    rw [show (8 : Int32) = nI 8 from rfl, pk_mul, nI_add, Nat.mul_comm 8 a]
  unfold X9_canGo
  rw [e8, if_pos (gl_inb (show a * 8 + b < 64 by omega) (by omega)), nl_cl (by omega), h.mud _ (by omega)]
  have hm := ok.mud (a * 8 + b)
  simp only [nl_eq (show a < 2147483648 by omega) (show b < 2147483648 by omega)]
  by_cases q : a = b
  · subst q
    rw [if_pos rfl, ok.dia a (by omega)]
    exact ⟨s, by simp [aHrs]⟩
  · rw [if_neg q]
    by_cases q0 : A.mud (a * 8 + b) = 0
    · rw [q0, if_pos (show nI 0 ≤ 0 from by decide)]
      exact ⟨s, by simp [aHrs]⟩
    · rw [if_neg (nI_nle (by omega) (by omega)), ob (m_reaches h ok hp hw)]
      obtain ⟨s1, e1⟩ := m_says c mt h ok (pt := 0) hp (by omega) wt rn ha hb
      rw [if_neg (by decide)] at e1
      rw [ob (show X9_says 0 (nI p) (nI wt) (nI rn) (nI a) (nI b) s = _ from e1)]
      have h99 := aSay_le (V := V) (ru := A.ru) (pt := 0) (mud := A.mud (a * 8 + b)) (wt := wt) (ld := A.ld p) (rn := rn) (a := a) (b := b)
      have h98 := aReach_le (k := A.kd p) (wt := wt) (ok.nu p hp) (ok.yd p hp)
      have hl := aLast_le (k := A.kd p) (ok.nu p hp) hm (ok.ld p hp)
      rw [nI_add]
      simp only [nl_lt (show aReach (A.kd p) (A.nu p) (A.yd p) wt < 2147483648 by omega) (show A.mud (a * 8 + b) + aSay V A.ru 0 (A.mud (a * 8 + b)) wt (A.ld p) rn a b < 2147483648 by omega)]
      refine ⟨s1, ?_⟩
      unfold aHrs
      rw [if_neg q0]
      by_cases q2 : A.mud (a * 8 + b) + aSay V A.ru 0 (A.mud (a * 8 + b)) wt (A.ld p) rn a b ≤ aReach (A.kd p) (A.nu p) (A.yd p) wt
      · rw [if_neg (by omega), if_pos q2, decide_eq_true (by omega)]
      · rw [if_pos (by omega), if_neg q2]
        simp
theorem m_hoursOf {t : mTX} {A : Ab} {tc : Nat} {V : mVT} {s : mSG} (c : CT t tc V s) (mt : MT tc V s) (h : RM A s) (ok : AbOK A tc) {p wt rn a b : Nat} (hp : p < A.pp) (hw : wt ≤ 9) (ha : a ≤ 7) (hb : b ≤ 7) (hg : aHrs V A.ru (A.kd p) (A.nu p) (A.yd p) (A.ld p) wt rn a b (A.mud (a * 8 + b)) ≠ 0) : ∃ s', X9_hoursOf (nI p) (nI wt) (nI rn) (nI a) (nI b) s = some (nI (aHrs V A.ru (A.kd p) (A.nu p) (A.yd p) (A.ld p) wt rn a b (A.mud (a * 8 + b))), s') := by
  have h5 := ok.pp
  have e8 : (8 : Int32) * nI a + nI b = nI (a * 8 + b) := by
    rw [show (8 : Int32) = nI 8 from rfl, pk_mul, nI_add, Nat.mul_comm 8 a]
  unfold X9_hoursOf
  rw [e8, if_pos (gl_inb (show a * 8 + b < 64 by omega) (by omega)), nl_cl (by omega), h.mud _ (by omega), ob (m_lasts h ok hp (ok.mud _))]
  obtain ⟨s1, e1⟩ := m_says c mt h ok (pt := 1) hp (by omega) wt rn ha hb
  rw [if_neg (by decide)] at e1
  rw [ob (show X9_says 1 (nI p) (nI wt) (nI rn) (nI a) (nI b) s = _ from e1), nI_add]
  refine ⟨s1, ?_⟩
  unfold aHrs at hg ⊢
  by_cases q0 : A.mud (a * 8 + b) = 0
  · rw [if_pos q0] at hg; exact absurd rfl hg
  · rw [if_neg q0] at hg ⊢
    split
    · rfl
    · rename_i q2
      rw [if_neg q2] at hg
      exact absurd rfl hg
theorem c_be_28_7 {A : Ab} {s : mSG} {tc p : Nat} (h : RS 7 8 9 10 11 A s) (ok : AbOK A tc) (hp : p < A.pp) (k : Nat) : ∃ s', X0_be_28_7 (nI p) (txO k) s = some s' ∧ GO_28 k (A.kd p) (A.nu p) (A.yd p) (A.ld p) (A.wt p) (A.rn (A.hr % 24)) s' := by
  have h5 := ok.pp
  unfold X0_be_28_7
  rw [ob (show X5_trait_7 (nI p) 5 (sQ s 28 2 (txO k)) = some (nI (A.kd p)) from (c_trait_7 (w := 5) (RS_eq h rfl rfl rfl rfl rfl) h5 hp (by omega)).trans (congrArg some (h.kd p hp)))]
  rw [ob (show X5_trait_7 (nI p) 4 (sI (sQ s 28 2 (txO k)) 28 3 (nI (A.kd p))) = some (nI (A.nu p)) from (c_trait_7 (w := 4) (RS_eq h rfl rfl rfl rfl rfl) h5 hp (by omega)).trans (congrArg some (h.nu p hp)))]
  rw [ob (show X5_trait_7 (nI p) 1 (sI (sI (sQ s 28 2 (txO k)) 28 3 (nI (A.kd p))) 28 4 (nI (A.nu p))) = some (nI (A.yd p)) from (c_trait_7 (w := 1) (RS_eq h rfl rfl rfl rfl rfl) h5 hp (by omega)).trans (congrArg some (h.yd p hp)))]
  rw [ob (show X5_trait_7 (nI p) 3 (sI (sI (sI (sQ s 28 2 (txO k)) 28 3 (nI (A.kd p))) 28 4 (nI (A.nu p))) 28 5 (nI (A.yd p))) = some (nI (A.ld p)) from (c_trait_7 (w := 3) (RS_eq h rfl rfl rfl rfl rfl) h5 hp (by omega)).trans (congrArg some (h.ld p hp)))]
  rw [ob (show X5_trait_7 (nI p) 2 (sI (sI (sI (sI (sQ s 28 2 (txO k)) 28 3 (nI (A.kd p))) 28 4 (nI (A.nu p))) 28 5 (nI (A.yd p))) 28 6 (nI (A.ld p))) = some (nI (A.wt p)) from (c_trait_7 (w := 2) (RS_eq h rfl rfl rfl rfl rfl) h5 hp (by omega)).trans (congrArg some (h.wt p hp)))]
  rw [ob (c_rainNow_7 (s := sI (sI (sI (sI (sI (sQ s 28 2 (txO k)) 28 3 (nI (A.kd p))) 28 4 (nI (A.nu p))) 28 5 (nI (A.yd p))) 28 6 (nI (A.ld p))) 28 7 (nI (A.wt p))) (RS_eq h rfl rfl rfl rfl rfl) ok)]
  exact ⟨_, rfl, rfl, rfl, rfl, rfl, rfl, rfl, rfl⟩
theorem c_be_31_7 {A : Ab} {s : mSG} {tc p : Nat} (h : RS 7 8 9 10 11 A s) (ok : AbOK A tc) (hp : p < A.pp) (k : Nat) : ∃ s', X0_be_31_7 (nI p) (txO k) s = some s' ∧ GO_31 k (A.kd p) (A.nu p) (A.yd p) (A.ld p) (A.wt p) (A.rn (A.hr % 24)) s' := by
  have h5 := ok.pp
  unfold X0_be_31_7
  rw [ob (show X5_trait_7 (nI p) 5 (sQ s 31 2 (txO k)) = some (nI (A.kd p)) from (c_trait_7 (w := 5) (RS_eq h rfl rfl rfl rfl rfl) h5 hp (by omega)).trans (congrArg some (h.kd p hp)))]
  rw [ob (show X5_trait_7 (nI p) 4 (sI (sQ s 31 2 (txO k)) 31 3 (nI (A.kd p))) = some (nI (A.nu p)) from (c_trait_7 (w := 4) (RS_eq h rfl rfl rfl rfl rfl) h5 hp (by omega)).trans (congrArg some (h.nu p hp)))]
  rw [ob (show X5_trait_7 (nI p) 1 (sI (sI (sQ s 31 2 (txO k)) 31 3 (nI (A.kd p))) 31 4 (nI (A.nu p))) = some (nI (A.yd p)) from (c_trait_7 (w := 1) (RS_eq h rfl rfl rfl rfl rfl) h5 hp (by omega)).trans (congrArg some (h.yd p hp)))]
  rw [ob (show X5_trait_7 (nI p) 3 (sI (sI (sI (sQ s 31 2 (txO k)) 31 3 (nI (A.kd p))) 31 4 (nI (A.nu p))) 31 5 (nI (A.yd p))) = some (nI (A.ld p)) from (c_trait_7 (w := 3) (RS_eq h rfl rfl rfl rfl rfl) h5 hp (by omega)).trans (congrArg some (h.ld p hp)))]
  rw [ob (show X5_trait_7 (nI p) 2 (sI (sI (sI (sI (sQ s 31 2 (txO k)) 31 3 (nI (A.kd p))) 31 4 (nI (A.nu p))) 31 5 (nI (A.yd p))) 31 6 (nI (A.ld p))) = some (nI (A.wt p)) from (c_trait_7 (w := 2) (RS_eq h rfl rfl rfl rfl rfl) h5 hp (by omega)).trans (congrArg some (h.wt p hp)))]
  rw [ob (c_rainNow_7 (s := sI (sI (sI (sI (sI (sQ s 31 2 (txO k)) 31 3 (nI (A.kd p))) 31 4 (nI (A.nu p))) 31 5 (nI (A.yd p))) 31 6 (nI (A.ld p))) 31 7 (nI (A.wt p))) (RS_eq h rfl rfl rfl rfl rfl) ok)]
  exact ⟨_, rfl, rfl, rfl, rfl, rfl, rfl, rfl, rfl⟩
theorem c_be_28_17 {A : Ab} {s : mSG} {tc p : Nat} (h : RS 17 18 19 20 21 A s) (ok : AbOK A tc) (hp : p < A.pp) (k : Nat) : ∃ s', X0_be_28_17 (nI p) (txO k) s = some s' ∧ GO_28 k (A.kd p) (A.nu p) (A.yd p) (A.ld p) (A.wt p) (A.rn (A.hr % 24)) s' := by
  have h5 := ok.pp
  unfold X0_be_28_17
  rw [ob (show X5_trait_17 (nI p) 5 (sQ s 28 2 (txO k)) = some (nI (A.kd p)) from (c_trait_17 (w := 5) (RS_eq h rfl rfl rfl rfl rfl) h5 hp (by omega)).trans (congrArg some (h.kd p hp)))]
  rw [ob (show X5_trait_17 (nI p) 4 (sI (sQ s 28 2 (txO k)) 28 3 (nI (A.kd p))) = some (nI (A.nu p)) from (c_trait_17 (w := 4) (RS_eq h rfl rfl rfl rfl rfl) h5 hp (by omega)).trans (congrArg some (h.nu p hp)))]
  rw [ob (show X5_trait_17 (nI p) 1 (sI (sI (sQ s 28 2 (txO k)) 28 3 (nI (A.kd p))) 28 4 (nI (A.nu p))) = some (nI (A.yd p)) from (c_trait_17 (w := 1) (RS_eq h rfl rfl rfl rfl rfl) h5 hp (by omega)).trans (congrArg some (h.yd p hp)))]
  rw [ob (show X5_trait_17 (nI p) 3 (sI (sI (sI (sQ s 28 2 (txO k)) 28 3 (nI (A.kd p))) 28 4 (nI (A.nu p))) 28 5 (nI (A.yd p))) = some (nI (A.ld p)) from (c_trait_17 (w := 3) (RS_eq h rfl rfl rfl rfl rfl) h5 hp (by omega)).trans (congrArg some (h.ld p hp)))]
  rw [ob (show X5_trait_17 (nI p) 2 (sI (sI (sI (sI (sQ s 28 2 (txO k)) 28 3 (nI (A.kd p))) 28 4 (nI (A.nu p))) 28 5 (nI (A.yd p))) 28 6 (nI (A.ld p))) = some (nI (A.wt p)) from (c_trait_17 (w := 2) (RS_eq h rfl rfl rfl rfl rfl) h5 hp (by omega)).trans (congrArg some (h.wt p hp)))]
  rw [ob (c_rainNow_17 (s := sI (sI (sI (sI (sI (sQ s 28 2 (txO k)) 28 3 (nI (A.kd p))) 28 4 (nI (A.nu p))) 28 5 (nI (A.yd p))) 28 6 (nI (A.ld p))) 28 7 (nI (A.wt p))) (RS_eq h rfl rfl rfl rfl rfl) ok)]
  exact ⟨_, rfl, rfl, rfl, rfl, rfl, rfl, rfl, rfl⟩
theorem c_rule_7 {t : mTX} {V : mVT} {A : Ab} {s : mSG} {tc : Nat} (c : CT t tc V s) (hc : s.1 6 11 = nI tc) (h6 : tc ≤ 6) (h : RS 7 8 9 10 11 A s) (ok : AbOK A tc) : X8_ruleOf_7 s = some (txO A.ru) := by
  have hr := ok.ru
  unfold X8_ruleOf_7
  rw [h.ru, hc, c_withinP _ (by omega), decide_eq_true ((inP_nI (show A.ru < 2147483648 by omega) (show tc < 2147483648 by omega)).mpr hr), if_pos rfl, if_pos (gl_inb (show A.ru < 6 by omega) (by omega)), nl_cl (by omega), (c A.ru hr).2.1]
  rfl
theorem c_rule_17 {t : mTX} {V : mVT} {A : Ab} {s : mSG} {tc : Nat} (c : CT t tc V s) (hc : s.1 6 11 = nI tc) (h6 : tc ≤ 6) (h : RS 17 18 19 20 21 A s) (ok : AbOK A tc) : X8_ruleOf_17 s = some (txO A.ru) := by
  have hr := ok.ru
  unfold X8_ruleOf_17
  rw [h.ru, hc, c_withinP _ (by omega), decide_eq_true ((inP_nI (show A.ru < 2147483648 by omega) (show tc < 2147483648 by omega)).mpr hr), if_pos rfl, if_pos (gl_inb (show A.ru < 6 by omega) (by omega)), nl_cl (by omega), (c A.ru hr).2.1]
  rfl
