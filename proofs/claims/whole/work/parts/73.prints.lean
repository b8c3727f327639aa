/-! prints: who crosses; the wet behind so many ways -/
def aWet (kd rn w : Nat) : Nat → Nat
  | 0 => w
  | n + 1 => aSoak kd (aWet kd rn w n) rn
theorem aWet_le {kd rn w : Nat} (hw : w ≤ 9) : ∀ n, aWet kd rn w n ≤ 9
  | 0 => hw
  | n + 1 => aSoak_le _ _ _
theorem c_soak_28 {ru kd nu yd ld wt rn : Nat} {s : mSG} (h : GO_28 ru kd nu yd ld wt rn s) (hk : kd ≤ 5) (hw : wt ≤ 9) (hr : rn ≤ 9) : ∃ s', X0_soak_28 s = some s' ∧ GO_28 ru kd nu yd ld (aSoak kd wt rn) rn s' := by
  obtain ⟨h1, h2, h3, h4, h5, h6, h7⟩ := h
  unfold X0_soak_28
  rw [h2, h6, h7, c_soaks hk hw hr]
  exact ⟨_, rfl, h1, h2, h3, h4, h5, sI_same, h7⟩
theorem c_wants_28 {t : mTX} {tc : Nat} {V : mVT} {s : mSG} {ru kd nu yd ld wt rn : Nat} (c : CT t tc V s) (h : GO_28 ru kd nu yd ld wt rn s) (hr : ru < tc) (a b mud : Nat) : ∃ s', X0_wants_28 t (nI a) (nI b) (nI mud) s = some (nI (aSay V ru 0 mud wt ld rn a b), s') := by
  obtain ⟨s1, e1⟩ := c_asked_28 c h hr (pt := 0) (by omega) a b mud
  unfold X0_wants_28
  rw [ob (show X0_asked_28 t 0 (nI a) (nI b) (nI mud) s = _ from e1)]
  exact ⟨s1, rfl⟩
theorem c_crosses_28 {t : mTX} {tc : Nat} {V : mVT} {s : mSG} {ru kd nu yd ld wt rn : Nat} (c : CT t tc V s) (h : GO_28 ru kd nu yd ld wt rn s) (hr : ru < tc) (hk : kd ≤ 5) (hn : nu ≤ 9) (hy : yd ≤ 99) (hw : wt ≤ 9) (hl : ld ≤ 9) (a b : Nat) {mud : Nat} (hm : mud ≤ 99) : ∃ s', X0_crosses_28 t (nI a) (nI b) (nI mud) s = some (decide (aHrs V ru kd nu yd ld wt rn a b mud ≠ 0), s') := by
  unfold X0_crosses_28 aHrs
  by_cases q : mud = 0
  · subst q
    rw [if_pos (show nI 0 ≤ 0 from by decide), if_pos rfl]
    exact ⟨s, by simp⟩
  · rw [if_neg (nI_nle (by omega) (by omega)), if_neg q]
    obtain ⟨s1, e1⟩ := c_wants_28 c h hr a b mud
    rw [ob e1]
    have h99 := aSay_le (V := V) (ru := ru) (pt := 0) (mud := mud) (wt := wt) (ld := ld) (rn := rn) (a := a) (b := b)
    have h98 := aReach_le (k := kd) (wt := wt) hn hy
    have hla := (aLast_le (k := kd) hn hm hl).2
    rw [c_goReach_28 h hk hn hy hw, nI_add]
    refine ⟨s1, ?_⟩
    by_cases q2 : mud + aSay V ru 0 mud wt ld rn a b ≤ aReach kd nu yd wt
    · rw [if_neg (nI_nlt q2 (by omega)), if_pos q2, decide_eq_true (by omega)]
    · rw [if_pos (nI_lt (by omega) (by omega)), if_neg q2]
      simp
theorem c_soak_31 {ru kd nu yd ld wt rn : Nat} {s : mSG} (h : GO_31 ru kd nu yd ld wt rn s) (hk : kd ≤ 5) (hw : wt ≤ 9) (hr : rn ≤ 9) : ∃ s', X0_soak_31 s = some s' ∧ GO_31 ru kd nu yd ld (aSoak kd wt rn) rn s' := by
  obtain ⟨h1, h2, h3, h4, h5, h6, h7⟩ := h
  unfold X0_soak_31
  rw [h2, h6, h7, c_soaks hk hw hr]
  exact ⟨_, rfl, h1, h2, h3, h4, h5, sI_same, h7⟩
theorem c_wants_31 {t : mTX} {tc : Nat} {V : mVT} {s : mSG} {ru kd nu yd ld wt rn : Nat} (c : CT t tc V s) (h : GO_31 ru kd nu yd ld wt rn s) (hr : ru < tc) (a b mud : Nat) : ∃ s', X0_wants_31 t (nI a) (nI b) (nI mud) s = some (nI (aSay V ru 0 mud wt ld rn a b), s') := by
  obtain ⟨s1, e1⟩ := c_asked_31 c h hr (pt := 0) (by omega) a b mud
  unfold X0_wants_31
  rw [ob (show X0_asked_31 t 0 (nI a) (nI b) (nI mud) s = _ from e1)]
  exact ⟨s1, rfl⟩
theorem c_crosses_31 {t : mTX} {tc : Nat} {V : mVT} {s : mSG} {ru kd nu yd ld wt rn : Nat} (c : CT t tc V s) (h : GO_31 ru kd nu yd ld wt rn s) (hr : ru < tc) (hk : kd ≤ 5) (hn : nu ≤ 9) (hy : yd ≤ 99) (hw : wt ≤ 9) (hl : ld ≤ 9) (a b : Nat) {mud : Nat} (hm : mud ≤ 99) : ∃ s', X0_crosses_31 t (nI a) (nI b) (nI mud) s = some (decide (aHrs V ru kd nu yd ld wt rn a b mud ≠ 0), s') := by
  unfold X0_crosses_31 aHrs
  by_cases q : mud = 0
  · subst q
    rw [if_pos (show nI 0 ≤ 0 from by decide), if_pos rfl]
    exact ⟨s, by simp⟩
  · rw [if_neg (nI_nle (by omega) (by omega)), if_neg q]
    obtain ⟨s1, e1⟩ := c_wants_31 c h hr a b mud
    rw [ob e1]
    have h99 := aSay_le (V := V) (ru := ru) (pt := 0) (mud := mud) (wt := wt) (ld := ld) (rn := rn) (a := a) (b := b)
    have h98 := aReach_le (k := kd) (wt := wt) hn hy
    have hla := (aLast_le (k := kd) hn hm hl).2
    rw [c_goReach_31 h hk hn hy hw, nI_add]
    refine ⟨s1, ?_⟩
    by_cases q2 : mud + aSay V ru 0 mud wt ld rn a b ≤ aReach kd nu yd wt
    · rw [if_neg (nI_nlt q2 (by omega)), if_pos q2, decide_eq_true (by omega)]
    · rw [if_pos (nI_lt (by omega) (by omega)), if_neg q2]
      simp
/-- the n-th way of a told row can be gone -/
def pW (V : mVT) (A : Ab) (g : Nat → Nat) (p n : Nat) : Bool := decide (aHrs V A.ru (A.kd p) (A.nu p) (A.yd p) (A.ld p) (aWet (A.kd p) (A.rn (A.hr % 24)) (A.wt p) n) (A.rn (A.hr % 24)) (g n) (g (n + 1)) (A.mud (g n * 8 + g (n + 1))) ≠ 0)
def pF (V : mVT) (A : Ab) (g : Nat → Nat) (p : Nat) : Nat → Bool
  | 0 => true
  | n + 1 => pF V A g p n && pW V A g p n
theorem pF_no {V : mVT} {A : Ab} {g : Nat → Nat} {p n : Nat} (h : pF V A g p n = false) : ∀ m, n ≤ m → pF V A g p m = false := by
  intro m
  induction m with
  | zero => intro hm; rw [show n = 0 by omega] at h; exact h
  | succ m ih =>
    intro hm
    by_cases q : n = m + 1
    · rw [← q]; exact h
    · show (pF V A g p m && pW V A g p m) = false
      rw [ih (by omega)]
      rfl
theorem mW_can {k : Nat} (hk : k < 4) (j : Nat) : mW W_X8_canFollow (45 + 2 * k) j = false ∧ mW W_X8_canFollow (46 + 2 * k) j = false := by
  have hc : k = 0 ∨ k = 1 ∨ k = 2 ∨ k = 3 := by omega
  rcases hc with rfl | rfl | rfl | rfl <;> exact ⟨rfl, rfl⟩
theorem c_canFollow {t : mTX} {tc : Nat} {V : mVT} {A : Ab} {s : mSG} {k sz p : Nat} {g : Nat → Nat} (hk : k < 4) (hz : sz ≤ 40) (h1 : 1 ≤ sz) (hg : ∀ i, i < sz → g i ≤ 7) (c : CT t tc V s) (hc : s.1 6 11 = nI tc) (h6 : tc ≤ 6) (h : RS 7 8 9 10 11 A s) (ok : AbOK A tc) (hs : CS k sz (fun i => nI (g i)) s) (hp : p < A.pp) : ∃ s', X8_canFollow t (nI p) (45 + 2 * k) s = some (pF V A g p (sz - 1), s') := by
  unfold X8_canFollow
  rw [ob (c_rule_7 c hc h6 h ok)]
  obtain ⟨s1, e1, g1⟩ := c_be_28_7 h ok hp A.ru
  have f1 := FR_X0_be_28_7 _ _ _ _ e1
  have f1' := f1.mono (l' := W_X8_canFollow) rfl
  rw [ob e1]
  have key : ∃ e, X8_canFollow_l22 t (45 + 2 * k) (1, s1) = some e ∧ Sum.elim (fun _ => false) (fun _ => true) e = pF V A g p (sz - 1) := by
    unfold X8_canFollow_l22
    refine lpE (fun i (v : Int32 × mSG) => v.1 = nI i ∧ 1 ≤ i ∧ pF V A g p (i - 1) = true ∧ CT t tc V v.2 ∧ RS 7 8 9 10 11 A v.2 ∧ CS k sz (fun i => nI (g i)) v.2 ∧ GO_28 A.ru (A.kd p) (A.nu p) (A.yd p) (A.ld p) (aWet (A.kd p) (A.rn (A.hr % 24)) (A.wt p) (i - 1)) (A.rn (A.hr % 24)) v.2) (fun e : mSG ⊕ mSG => Sum.elim (fun _ => false) (fun _ => true) e = pF V A g p (sz - 1)) sz (by unfold mFU; omega) ?_ ?_ (k := 1) h1 (x := (1, s1)) ⟨rfl, Nat.le_refl _, rfl, CT_fr c f1 rfl, RS_fr h f1 (fun _ => rfl) (fun _ => rfl) (fun _ => rfl) (fun _ => rfl) (fun _ => rfl), CS_fr hs f1' (mW_can hk), g1⟩
    · intro i v hi hv
      obtain ⟨x, s⟩ := v
      obtain ⟨e, i1, pf, c, h, hs, go⟩ := hv
      have e : x = nI i := e
      subst e
      have c : CT t tc V s := c
      have h : RS 7 8 9 10 11 A s := h
      have hs : CS k sz (fun i => nI (g i)) s := hs
      have go : GO_28 A.ru (A.kd p) (A.nu p) (A.yd p) (A.ld p) (aWet (A.kd p) (A.rn (A.hr % 24)) (A.wt p) (i - 1)) (A.rn (A.hr % 24)) s := go
      have hw := aWet_le (kd := A.kd p) (rn := A.rn (A.hr % 24)) (ok.wt p hp) (i - 1)
      obtain ⟨s2, e2⟩ := c_crosses_28 c go ok.ru (ok.kd p hp) (ok.nu p hp) (ok.yd p hp) hw (ok.ld p hp) (g (i - 1)) (g i) (ok.mud (g (i - 1) * 8 + g i))
      have f2 := FR_X0_crosses_28 _ _ _ _ _ _ e2
      have f2' := f2.mono (l' := W_X8_canFollow) rfl
      have pw : pW V A g p (i - 1) = decide (aHrs V A.ru (A.kd p) (A.nu p) (A.yd p) (A.ld p) (aWet (A.kd p) (A.rn (A.hr % 24)) (A.wt p) (i - 1)) (A.rn (A.hr % 24)) (g (i - 1)) (g i) (A.mud (g (i - 1) * 8 + g i)) ≠ 0) := by
        unfold pW
        rw [show i - 1 + 1 = i by omega]
      rw [← pw] at e2
      have pe : pF V A g p i = pW V A g p (i - 1) := by
        have : pF V A g p (i - 1 + 1) = (pF V A g p (i - 1) && pW V A g p (i - 1)) := rfl
        rw [show i - 1 + 1 = i by omega, show pF V A g p (i - 1) = true from pf] at this
        exact this
      have base : ∀ o, (if pW V A g p (i - 1) = true then (X0_soak_28 s2).bind (fun r8 => some (.inl (nI i + 1, r8))) else some (.inr (.inl s2))) = o → X8_canFollow_b22 t (45 + 2 * k) (nI i) s = o := by
        intro o ho
        rw [← ho]
        unfold X8_canFollow_b22
        rw [if_pos (kS hk).1, hs.1, if_neg (nI_ge hi (by omega)), if_pos (kS hk).1, show nI i - 1 = nI (i - 1) from pk_sub (b := 1) i1, ob (c_item hk hz hs (show i - 1 < sz by omega)), if_pos (kS hk).1, ob (c_item hk hz hs hi), ob (c_mudB_7 h ok (hg _ (by omega)) (hg _ hi)), ob e2]
      by_cases q : pW V A g p (i - 1) = true
      · obtain ⟨s3, e3, g3⟩ := c_soak_28 (GO_fr_28 go f2 (fun _ => rfl)) (ok.kd p hp) hw (ok.rn _)
        have f3 := FR_X0_soak_28 _ _ e3
        have f3' := f3.mono (l' := W_X8_canFollow) rfl
        refine Or.inl ⟨(nI (i + 1), s3), base _ ?_, rfl, by omega, ?_, CT_fr (CT_fr c f2 rfl) f3 rfl, RS_fr (RS_fr h f2 (fun _ => rfl) (fun _ => rfl) (fun _ => rfl) (fun _ => rfl) (fun _ => rfl)) f3 (fun _ => rfl) (fun _ => rfl) (fun _ => rfl) (fun _ => rfl) (fun _ => rfl), CS_fr (CS_fr hs f2' (mW_can hk)) f3' (mW_can hk), ?_⟩
        · rw [if_pos q, ob e3, nI_1]
        · show pF V A g p (i + 1 - 1) = true
          rw [Nat.add_sub_cancel, pe]
          exact q
        · have ew : aWet (A.kd p) (A.rn (A.hr % 24)) (A.wt p) (i + 1 - 1) = aSoak (A.kd p) (aWet (A.kd p) (A.rn (A.hr % 24)) (A.wt p) (i - 1)) (A.rn (A.hr % 24)) := by
            have : aWet (A.kd p) (A.rn (A.hr % 24)) (A.wt p) (i - 1 + 1) = aSoak (A.kd p) (aWet (A.kd p) (A.rn (A.hr % 24)) (A.wt p) (i - 1)) (A.rn (A.hr % 24)) := rfl
            rw [Nat.add_sub_cancel, ← this, show i - 1 + 1 = i by omega]
          show GO_28 A.ru (A.kd p) (A.nu p) (A.yd p) (A.ld p) (aWet (A.kd p) (A.rn (A.hr % 24)) (A.wt p) (i + 1 - 1)) (A.rn (A.hr % 24)) s3
          rw [ew]
          exact g3
      · refine Or.inr ⟨.inl s2, base _ ?_, ?_⟩
        · rw [if_neg q]
        · show false = _
          rw [pF_no (n := i) (by rw [pe]; exact Bool.eq_false_iff.mpr q) (sz - 1) (by omega)]
    · intro v hv
      obtain ⟨x, s⟩ := v
      obtain ⟨e, i1, pf, c, h, hs, go⟩ := hv
      have e : x = nI sz := e
      subst e
      have hs : CS k sz (fun i => nI (g i)) s := hs
      refine ⟨.inr s, ?_, pf.symm⟩
      show X8_canFollow_b22 t (45 + 2 * k) (nI sz) s = _
      unfold X8_canFollow_b22
      rw [if_pos (kS hk).1, hs.1, if_pos (nI_le (Nat.le_refl _) (by omega))]
  obtain ⟨e, he, hv⟩ := key
  rw [ob he, ← hv]
  cases e with
  | inl a => exact ⟨a, rfl⟩
  | inr a => exact ⟨a, rfl⟩
theorem m_l111 {t : mTX} {tc : Nat} {V : mVT} {A : Ab} {s : mSG} {k sz p : Nat} {g : Nat → Nat} (hk : k < 4) (hz : sz ≤ 40) (h1 : 1 ≤ sz) (hg : ∀ i, i < sz → g i ≤ 7) (c : CT t tc V s) (mt : MT tc V s) (h : RM A s) (ok : AbOK A tc) (hs : MS k sz (fun i => nI (g i)) s) (hp : p < A.pp) (z : Int32) : ∃ e, X9_prints_l111 (nI k) (nI (A.rn (A.hr % 24))) z (nI p) (nI (A.wt p), 1, 1, s) = some e ∧ (e.1 = b2i (pF V A g p (sz - 1)) ∧ CT t tc V e.2 ∧ MT tc V e.2 ∧ RM A e.2 ∧ MS k sz (fun i => nI (g i)) e.2) := by
  unfold X9_prints_l111
  refine lpN (fun i (v : Int32 × Int32 × Int32 × mSG) => v.1 = nI (aWet (A.kd p) (A.rn (A.hr % 24)) (A.wt p) (i - 1)) ∧ v.2.1 = b2i (pF V A g p (i - 1)) ∧ v.2.2.1 = nI i ∧ 1 ≤ i ∧ CT t tc V v.2.2.2 ∧ MT tc V v.2.2.2 ∧ RM A v.2.2.2 ∧ MS k sz (fun i => nI (g i)) v.2.2.2) (fun e : Int32 × mSG => e.1 = b2i (pF V A g p (sz - 1)) ∧ CT t tc V e.2 ∧ MT tc V e.2 ∧ RM A e.2 ∧ MS k sz (fun i => nI (g i)) e.2) sz (by unfold mFU; omega) ?_ ?_ (k := 1) h1 (x := (nI (A.wt p), 1, 1, s)) ⟨rfl, rfl, rfl, Nat.le_refl _, c, mt, h, hs⟩
  · intro i v hi hv
    obtain ⟨x, y, u, s⟩ := v
    obtain ⟨e1, e2, e3, i1, c, mt, h, hs⟩ := hv
    have e1 : x = nI (aWet (A.kd p) (A.rn (A.hr % 24)) (A.wt p) (i - 1)) := e1
    have e2 : y = b2i (pF V A g p (i - 1)) := e2
    have e3 : u = nI i := e3
    subst e1 e2 e3
    have c : CT t tc V s := c
    have mt : MT tc V s := mt
    have h : RM A s := h
    have hs : MS k sz (fun i => nI (g i)) s := hs
    have hw := aWet_le (kd := A.kd p) (rn := A.rn (A.hr % 24)) (ok.wt p hp) (i - 1)
    have ew : aWet (A.kd p) (A.rn (A.hr % 24)) (A.wt p) (i + 1 - 1) = aSoak (A.kd p) (aWet (A.kd p) (A.rn (A.hr % 24)) (A.wt p) (i - 1)) (A.rn (A.hr % 24)) := by
      have : aWet (A.kd p) (A.rn (A.hr % 24)) (A.wt p) (i - 1 + 1) = aSoak (A.kd p) (aWet (A.kd p) (A.rn (A.hr % 24)) (A.wt p) (i - 1)) (A.rn (A.hr % 24)) := rfl
      rw [Nat.add_sub_cancel, ← this, show i - 1 + 1 = i by omega]
    have pe : pF V A g p (i + 1 - 1) = (pF V A g p (i - 1) && pW V A g p (i - 1)) := by
      have : pF V A g p (i - 1 + 1) = (pF V A g p (i - 1) && pW V A g p (i - 1)) := rfl
      rw [Nat.add_sub_cancel, ← this, show i - 1 + 1 = i by omega]
    have fin : ∀ (b : Bool) (s' : mSG), CT t tc V s' → MT tc V s' → RM A s' → MS k sz (fun i => nI (g i)) s' → pF V A g p (i + 1 - 1) = b → X9_prints_b111 (nI k) (nI (A.rn (A.hr % 24))) z (nI p) (nI (aWet (A.kd p) (A.rn (A.hr % 24)) (A.wt p) (i - 1))) (b2i (pF V A g p (i - 1))) (nI i) s = X9_prints_j170_111 (nI k) (nI (A.rn (A.hr % 24))) z (nI p) (nI (aWet (A.kd p) (A.rn (A.hr % 24)) (A.wt p) (i - 1))) (nI i) (b2i b) s' → ∃ y, X9_prints_b111 (nI k) (nI (A.rn (A.hr % 24))) z (nI p) (nI (aWet (A.kd p) (A.rn (A.hr % 24)) (A.wt p) (i - 1))) (b2i (pF V A g p (i - 1))) (nI i) s = some (.inl y) ∧ (y.1 = nI (aWet (A.kd p) (A.rn (A.hr % 24)) (A.wt p) (i + 1 - 1)) ∧ y.2.1 = b2i (pF V A g p (i + 1 - 1)) ∧ y.2.2.1 = nI (i + 1) ∧ 1 ≤ i + 1 ∧ CT t tc V y.2.2.2 ∧ MT tc V y.2.2.2 ∧ RM A y.2.2.2 ∧ MS k sz (fun i => nI (g i)) y.2.2.2) := by
      intro b s' c' mt' h' hs' hb hx
      refine ⟨(nI (aWet (A.kd p) (A.rn (A.hr % 24)) (A.wt p) (i + 1 - 1)), b2i (pF V A g p (i + 1 - 1)), nI (i + 1), s'), ?_, rfl, rfl, rfl, by omega, c', mt', h', hs'⟩
      rw [hx]
      unfold X9_prints_j170_111
      rw [ob (m_soaks h' ok hp hw (ok.rn _)), ew, hb, nI_1]
    by_cases q0 : pF V A g p (i - 1) = true
    · obtain ⟨s2, x2⟩ := m_canGo c mt h ok (rn := A.rn (A.hr % 24)) hp hw (hg (i - 1) (by omega)) (hg i hi)
      have f2 := FR_X9_canGo _ _ _ _ _ _ _ x2
      have pw : pW V A g p (i - 1) = decide (aHrs V A.ru (A.kd p) (A.nu p) (A.yd p) (A.ld p) (aWet (A.kd p) (A.rn (A.hr % 24)) (A.wt p) (i - 1)) (A.rn (A.hr % 24)) (g (i - 1)) (g i) (A.mud (g (i - 1) * 8 + g i)) ≠ 0) := by
        unfold pW
        rw [show i - 1 + 1 = i by omega]
      rw [← pw] at x2
      have c2 := CT_fr c f2 rfl
      have mt2 := MT_fr mt f2 (fun _ => rfl) (fun _ => rfl)
      have h2 := RM_fr h f2 (fun _ => rfl) (fun _ => rfl) (fun _ => rfl) (fun _ => rfl) (fun _ => rfl) (fun _ => rfl) (fun _ => rfl) (fun _ => rfl) (fun _ => rfl) rfl rfl rfl
      have hs2 := MS_fr hs f2 (fun _ => rfl) (fun _ => rfl)
      refine fin (pW V A g p (i - 1)) s2 c2 mt2 h2 hs2 (by rw [pe, q0]; rfl) ?_
      unfold X9_prints_b111
      rw [if_pos (gl_inb hk (by omega)), nl_cl (show k < 2147483648 by omega), hs.1, if_neg (nI_ge hi (by omega)), q0, if_neg (show ¬ b2i true = 0 by decide), show (40 : Int32) * nI k = nI (40 * k) from pk_mul 40 k, nI_add, show nI (40 * k + i) - 1 = nI (40 * k + i - 1) from pk_sub (b := 1) (by omega), if_pos (gl_inb (show 40 * k + i - 1 < 160 by omega) (by omega)), if_pos (gl_inb (show 40 * k + i < 160 by omega) (by omega)), nl_cl (by omega), nl_cl (by omega), show 40 * k + i - 1 = 40 * k + (i - 1) by omega, hs.2 _ (show i - 1 < sz by omega), hs.2 _ hi, ob x2]
      unfold X9_prints_j169_111
      dsimp only
      cases hq : pW V A g p (i - 1) with
      | true => rw [if_pos rfl]; rfl
      | false => rw [if_neg (show ¬ false = true by decide)]; rfl
    · have q0' : pF V A g p (i - 1) = false := Bool.eq_false_iff.mpr q0
      refine fin false s c mt h hs (by rw [pe, q0']; rfl) ?_
      unfold X9_prints_b111 X9_prints_j169_111
      rw [if_pos (gl_inb hk (by omega)), nl_cl (show k < 2147483648 by omega), hs.1, if_neg (nI_ge hi (by omega)), q0', if_pos (show b2i false = 0 from rfl)]
      rfl
  · intro v hv
    obtain ⟨x, y, u, s⟩ := v
    obtain ⟨e1, e2, e3, i1, c, mt, h, hs⟩ := hv
    have e3 : u = nI sz := e3
    subst e3
    have hs' : MS k sz (fun i => nI (g i)) s := hs
    refine ⟨(y, s), ?_, e2, c, mt, h, hs⟩
    show X9_prints_b111 (nI k) (nI (A.rn (A.hr % 24))) z (nI p) x y (nI sz) s = _
    unfold X9_prints_b111
    rw [if_pos (gl_inb hk (by omega)), nl_cl (show k < 2147483648 by omega), hs'.1, if_pos (nI_le (Nat.le_refl _) (by omega))]
/-- the answer's bits -/
def pBits (V : mVT) (A : Ab) (g : Nat → Nat) (n : Nat) : Nat → Int32
  | 0 => 0
  | p + 1 => if pF V A g p n = true then pBits V A g n p ||| (1 <<< (nI p &&& 31)) else pBits V A g n p
section
variable {t : mTX} {tc : Nat} {V : mVT} {A : Ab} {hk : Bool} {K : Ab} {ts : Nat} {tp sk sn : Nat → Nat} {si : Nat → Nat → Int32}
theorem c_l51 {s : mSG} {k sz : Nat} {g : Nat → Nat} (hk4 : k < 4) (hz : sz ≤ 40) (h1 : 1 ≤ sz) (hg : ∀ i, i < sz → g i ≤ 7) (h : IV t tc V A hk K ts tp sk sn si s) (hs : CS k sz (fun i => nI (g i)) s) : ∃ e, X8_prints_l51 t (45 + 2 * k) (0, 0, s) = some e ∧ e.1 = pBits V A g (sz - 1) A.pp := by
  have h5 := h.2.1.2.2.pp
  unfold X8_prints_l51
  refine lpN (fun p (v : Int32 × Int32 × mSG) => v.1 = pBits V A g (sz - 1) p ∧ v.2.1 = nI p ∧ IV t tc V A hk K ts tp sk sn si v.2.2 ∧ CS k sz (fun i => nI (g i)) v.2.2) (fun e : Int32 × mSG => e.1 = pBits V A g (sz - 1) A.pp) A.pp (by unfold mFU; omega) ?_ ?_ (k := 0) (by omega) (x := (0, 0, s)) ⟨rfl, rfl, h, hs⟩
  · intro p v hp hv
    obtain ⟨y, z, s1⟩ := v
    obtain ⟨g1, g2, g3, g4⟩ := hv
    have g1 : y = pBits V A g (sz - 1) p := g1
    have g2 : z = nI p := g2
    have g3 : IV t tc V A hk K ts tp sk sn si s1 := g3
    have g4 : CS k sz (fun i => nI (g i)) s1 := g4
    subst g1 g2
    have gg := g3
    obtain ⟨⟨a1, a2, a3, a4, a5, a6⟩, ⟨b1, b2, b3⟩, _⟩ := gg
    obtain ⟨s2, e2⟩ := c_canFollow hk4 hz h1 hg a1 a3 a6 b1 b3 g4 hp
    have f2 := FR_X8_canFollow _ _ _ _ _ e2
    refine ⟨(pBits V A g (sz - 1) (p + 1), nI (p + 1), s2), ?_, rfl, rfl, IV_fr g3 f2 rfl, CS_fr g4 f2 (mW_can hk4)⟩
    show X8_prints_b51 t (45 + 2 * k) (pBits V A g (sz - 1) p) (nI p) s1 = _
    unfold X8_prints_b51 X8_prints_j80_51
    rw [b1.pp, if_neg (nI_ge hp (by omega)), ob e2, nI_1]
    show _ = some (Sum.inl (if pF V A g p (sz - 1) = true then pBits V A g (sz - 1) p ||| (1 <<< (nI p &&& 31)) else pBits V A g (sz - 1) p, nI (p + 1), s2))
    dsimp only
    cases pF V A g p (sz - 1) with
    | true => rw [if_pos rfl, if_pos rfl]
    | false => rw [if_neg (show ¬ false = true by decide), if_neg (show ¬ false = true by decide)]
  · intro v hv
    obtain ⟨y, z, s1⟩ := v
    obtain ⟨g1, g2, g3, g4⟩ := hv
    have g2 : z = nI A.pp := g2
    have g3 : IV t tc V A hk K ts tp sk sn si s1 := g3
    subst g2
    refine ⟨(y, s1), ?_, g1⟩
    show X8_prints_b51 t (45 + 2 * k) y (nI A.pp) s1 = _
    unfold X8_prints_b51
    rw [g3.2.1.1.pp, if_pos (nI_le (Nat.le_refl _) (by omega))]
end
theorem m_l87 {t : mTX} {tc : Nat} {V : mVT} {A : Ab} {s : mSG} {k sz : Nat} {g : Nat → Nat} (hk : k < 4) (hz : sz ≤ 40) (h1 : 1 ≤ sz) (hg : ∀ i, i < sz → g i ≤ 7) (c : CT t tc V s) (mt : MT tc V s) (h : RM A s) (ok : AbOK A tc) (hs : MS k sz (fun i => nI (g i)) s) : ∃ e, X9_prints_l87 (nI k) (nI (A.rn (A.hr % 24))) (0, 0, s) = some e ∧ e.1 = pBits V A g (sz - 1) A.pp := by
  have h5 := ok.pp
  unfold X9_prints_l87
  refine lpN (fun p (v : Int32 × Int32 × mSG) => v.1 = pBits V A g (sz - 1) p ∧ v.2.1 = nI p ∧ CT t tc V v.2.2 ∧ MT tc V v.2.2 ∧ RM A v.2.2 ∧ MS k sz (fun i => nI (g i)) v.2.2) (fun e : Int32 × mSG => e.1 = pBits V A g (sz - 1) A.pp) A.pp (by unfold mFU; omega) ?_ ?_ (k := 0) (by omega) (x := (0, 0, s)) ⟨rfl, rfl, c, mt, h, hs⟩
  · intro p v hp hv
    obtain ⟨y, z, s1⟩ := v
    obtain ⟨g1, g2, c1, mt1, r1, ms1⟩ := hv
    have g1 : y = pBits V A g (sz - 1) p := g1
    have g2 : z = nI p := g2
    have r1 : RM A s1 := r1
    subst g1 g2
    obtain ⟨⟨v2, s2⟩, e2, w2, c2, mt2, r2, ms2⟩ := m_l111 hk hz h1 hg c1 mt1 r1 ok ms1 hp (pBits V A g (sz - 1) p)
    have w2 : v2 = _ := w2
    subst w2
    refine ⟨(pBits V A g (sz - 1) (p + 1), nI (p + 1), s2), ?_, rfl, rfl, c2, mt2, r2, ms2⟩
    show X9_prints_b87 (nI k) (nI (A.rn (A.hr % 24))) (pBits V A g (sz - 1) p) (nI p) s1 = _
    unfold X9_prints_b87 X9_prints_j200_87
    rw [r1.pp, if_neg (nI_ge hp (by omega)), if_pos (gl_inb (show p < 5 by omega) (by omega)), nl_cl (by omega), r1.wt p hp, ob e2, nI_1]
    show _ = some (Sum.inl (if pF V A g p (sz - 1) = true then pBits V A g (sz - 1) p ||| (1 <<< (nI p &&& 31)) else pBits V A g (sz - 1) p, nI (p + 1), s2))
    dsimp only
    cases pF V A g p (sz - 1) with
    | true => rw [if_neg (show ¬ b2i true = 0 by decide), if_pos rfl]
    | false =>
      rw [if_pos (show b2i false = 0 from rfl), if_neg (show ¬ false = true by decide)]
      have z0 : (0 : Int32) <<< (nI p &&& 31) = 0 := by
        have hc : p = 0 ∨ p = 1 ∨ p = 2 ∨ p = 3 ∨ p = 4 := by omega
        rcases hc with rfl | rfl | rfl | rfl | rfl <;> decide
      rw [z0, Int32.or_zero]
  · intro v hv
    obtain ⟨y, z, s1⟩ := v
    obtain ⟨g1, g2, c1, mt1, r1, ms1⟩ := hv
    have g2 : z = nI A.pp := g2
    have r1 : RM A s1 := r1
    subst g2
    refine ⟨(y, s1), ?_, g1⟩
    show X9_prints_b87 (nI k) (nI (A.rn (A.hr % 24))) y (nI A.pp) s1 = _
    unfold X9_prints_b87
    rw [r1.pp, if_pos (nI_le (Nat.le_refl _) (by omega))]
theorem c_tells {t : mTX} {s : mSG} {k sz : Nat} {f : Nat → Int32} (hk : k < 4) (hz : sz ≤ 40) (hs : CS k sz f s) : ∃ b, X8_tellsStones t (45 + 2 * k) s = some b ∧ (b = true ↔ ∀ i, i < sz → inR (f i) 7) := by
  have key : ∃ e, X8_tellsStones_l2 t (45 + 2 * k) s 0 = some e ∧ (Sum.elim (fun _ => false) (fun _ => true) e = true ↔ ∀ i, i < sz → inR (f i) 7) := by
    unfold X8_tellsStones_l2
    refine lpE (fun i (v : Int32) => v = nI i ∧ ∀ j, j < i → inR (f j) 7) (fun e : Unit ⊕ Unit => Sum.elim (fun _ => false) (fun _ => true) e = true ↔ ∀ i, i < sz → inR (f i) 7) sz (by unfold mFU; omega) ?_ ?_ (k := 0) (by omega) (x := 0) ⟨rfl, fun j hj => absurd hj (Nat.not_lt_zero j)⟩
    · intro i v hi hv
      obtain ⟨e, r⟩ := hv
      subst e
      by_cases q : inR (f i) 7
      · refine Or.inl ⟨nI (i + 1), ?_, rfl, fun j hj => ?_⟩
        · unfold X8_tellsStones_b2
          rw [if_pos (kS hk).1, hs.1, if_neg (nI_ge hi (by omega)), if_pos (kS hk).1, ob (c_item hk hz hs hi), c_isStone, decide_eq_true q, if_pos rfl, nI_1]
        · by_cases g : j = i
          · subst g; exact q
          · exact r j (by omega)
      · refine Or.inr ⟨.inl (), ?_, ?_⟩
        · unfold X8_tellsStones_b2
          rw [if_pos (kS hk).1, hs.1, if_neg (nI_ge hi (by omega)), if_pos (kS hk).1, ob (c_item hk hz hs hi), c_isStone, decide_eq_false q, if_neg (by decide)]
        · exact ⟨fun g => (by cases g), fun g => absurd (g i hi) q⟩
    · intro v hv
      obtain ⟨e, r⟩ := hv
      subst e
      refine ⟨.inr (), ?_, fun _ => r, fun _ => rfl⟩
      unfold X8_tellsStones_b2
      rw [if_pos (kS hk).1, hs.1, if_pos (nI_le (Nat.le_refl _) (by omega))]
  obtain ⟨e, he, hv⟩ := key
  unfold X8_tellsStones
  rw [ob he]
  cases e with
  | inl a => exact ⟨false, rfl, hv⟩
  | inr a => exact ⟨true, rfl, hv⟩
theorem m_tells {s : mSG} {k sz : Nat} {f : Nat → Int32} (hk : k < 4) (hz : sz ≤ 40) (hs : MS k sz f s) : ∃ e, X9_prints_l24 (nI k) s 0 = some e ∧ ((∀ i, i < sz → inR (f i) 7) ∧ e = .inr () ∨ ¬ (∀ i, i < sz → inR (f i) 7) ∧ e = .inl ()) := by
  unfold X9_prints_l24
  refine lpE (fun i (v : Int32) => v = nI i ∧ ∀ j, j < i → inR (f j) 7) (fun e : Unit ⊕ Unit => (∀ i, i < sz → inR (f i) 7) ∧ e = .inr () ∨ ¬ (∀ i, i < sz → inR (f i) 7) ∧ e = .inl ()) sz (by unfold mFU; omega) ?_ ?_ (k := 0) (by omega) (x := 0) ⟨rfl, fun j hj => absurd hj (Nat.not_lt_zero j)⟩
  · intro i v hi hv
    obtain ⟨e, r⟩ := hv
    subst e
    by_cases q : inR (f i) 7
    · refine Or.inl ⟨nI (i + 1), ?_, rfl, fun j hj => ?_⟩
      · unfold X9_prints_b24
        rw [if_pos (gl_inb hk (by omega)), nl_cl (show k < 2147483648 by omega), hs.1, if_neg (nI_ge hi (by omega)), show (40 : Int32) * nI k = nI (40 * k) from pk_mul 40 k, nI_add, if_pos (gl_inb (show 40 * k + i < 160 by omega) (by omega)), nl_cl (by omega), hs.2 i hi, m_isStone, decide_eq_true q, if_pos rfl, nI_1]
      · by_cases g : j = i
        · subst g; exact q
        · exact r j (by omega)
    · refine Or.inr ⟨.inl (), ?_, Or.inr ⟨fun g => q (g i hi), rfl⟩⟩
      unfold X9_prints_b24
      rw [if_pos (gl_inb hk (by omega)), nl_cl (show k < 2147483648 by omega), hs.1, if_neg (nI_ge hi (by omega)), show (40 : Int32) * nI k = nI (40 * k) from pk_mul 40 k, nI_add, if_pos (gl_inb (show 40 * k + i < 160 by omega) (by omega)), nl_cl (by omega), hs.2 i hi, m_isStone, decide_eq_false q, if_neg (by decide)]
  · intro v hv
    obtain ⟨e, r⟩ := hv
    subst e
    refine ⟨.inr (), ?_, Or.inl ⟨r, rfl⟩⟩
    unfold X9_prints_b24
    rw [if_pos (gl_inb hk (by omega)), nl_cl (show k < 2147483648 by omega), hs.1, if_pos (nI_le (Nat.le_refl _) (by omega))]
theorem L_prints {t : mTX} {s : mSG} (h : INV t s) (x : Int32) : ∃ v s1 s2, X8_prints t x s = some (v, s1) ∧ X9_prints x s1 = some (v, s2) ∧ INV t s2 := by
  have hI := h
  obtain ⟨tc, V, A, hk, K, ts, tp, sk, sn, si, hv⟩ := h
  have hw := hv
  obtain ⟨⟨a1, a2, a3, a4, a5, a6⟩, ⟨b1, b2, b3⟩, _, _, e, _, _⟩ := hw
  by_cases q : inR x 3
  · obtain ⟨k, hk3, rfl⟩ := inR_of q (by omega)
    have hk4 : k < 4 := by omega
    have base8 : X8_prints t (nI k) s = (X4_isMissing t (45 + 2 * k) s).bind (fun r2 => if r2 = true then some ((-11), s) else if (mKl (LAY t) (45 + 2 * k)).1 = 3 then (if (s.1 (45 + 2 * k) 2) < 2 then some ((-2), s) else (X8_tellsStones t (45 + 2 * k) s).bind (fun r4 => if r4 = true then (X8_prints_l51 t (45 + 2 * k) (0, 0, s)).bind (fun e51 => some (e51.1, e51.2)) else some ((-2), s))) else none) := by
      unfold X8_prints
      rw [show X8_isWithin (nI k) 3 = _ from c_within (nI k) 3, decide_eq_true q, if_pos rfl, if_pos (gl_inb hk4 (by omega)), nl_cl (show k < 2147483648 by omega), ob (e k hk4).1, if_pos (kS hk4).1]
    have base9 : ∀ s0 : mSG, X9_prints (nI k) s0 = if s0.1 80 k = 0 then some (-11, s0) else (X9_prints_l24 (nI k) s0 0).bind (fun e24 => Sum.elim (fun e24_0 => some ((-2), s0)) (fun e24_1 => if 2 ≤ (s0.1 82 k) then (X9_rainAt (s0.1 56 16) s0).bind (fun r7 => (X9_prints_l87 (nI k) r7 (0, 0, s0)).bind (fun e87 => some (e87.1, e87.2))) else some ((-2), s0)) e24) := fun s0 => by
      unfold X9_prints
      rw [m_isSheet, decide_eq_true q, if_pos rfl, if_pos (gl_inb hk4 (by omega)), nl_cl (show k < 2147483648 by omega)]
    rcases (e k hk4).2 with ⟨c1, c2, c3⟩ | ⟨c1, c2, c3, c4, c5, c6, c7, c8, c9⟩
    · refine ⟨-11, s, s, ?_, ?_, hI⟩
      · rw [base8, ob (c_missY hk4 c2)]
        rfl
      · rw [base9, if_pos c3]
    · have cs : CS k (sn k) (si k) s := ⟨c5, fun i hi => (c9 i hi).1⟩
      have ms : MS k (sn k) (si k) s := ⟨c8, fun i hi => (c9 i hi).2⟩
      obtain ⟨b, hb, wb⟩ := c_tells (t := t) hk4 c3 cs
      obtain ⟨et, het, wt⟩ := m_tells hk4 c3 ms
      by_cases qa : (2 ≤ sn k) ∧ ∀ i, i < sn k → inR (si k i) 7
      · obtain ⟨q2, q3⟩ := qa
        have bt : b = true := wb.mpr q3
        subst bt
        have eg : ∀ i, i < sn k → si k i = nI (si k i).toNatClampNeg ∧ (si k i).toNatClampNeg ≤ 7 := fun i hi => by
          obtain ⟨a, ha, ea⟩ := inR_of (q3 i hi) (by omega)
          rw [ea, nl_cl (by omega)]
          exact ⟨rfl, ha⟩
        have cs' : CS k (sn k) (fun i => nI (si k i).toNatClampNeg) s := ⟨c5, fun i hi => ((c9 i hi).1).trans (eg i hi).1⟩
        have ms' : MS k (sn k) (fun i => nI (si k i).toNatClampNeg) s := ⟨c8, fun i hi => ((c9 i hi).2).trans (eg i hi).1⟩
        obtain ⟨⟨v1, s1⟩, e1, w1⟩ := c_l51 (g := fun i => (si k i).toNatClampNeg) hk4 c3 (by omega) (fun i hi => (eg i hi).2) hv cs'
        have w1 : v1 = _ := w1
        subst w1
        have x1 : X8_prints t (nI k) s = some (pBits V A (fun i => (si k i).toNatClampNeg) (sn k - 1) A.pp, s1) := by
          rw [base8, ob (c_missN hk4 c2 c4), if_neg (by decide), if_pos (kS hk4).1, c5, if_neg (show ¬ nI (sn k) < 2 from nI_nlt (b := 2) q2 (by omega)), ob hb, if_pos rfl, ob e1]
        have f1 := FR_X8_prints _ _ _ _ x1
        have i1 := IV_fr hv f1 rfl
        have i1' := i1
        obtain ⟨⟨a1', a2', _⟩, ⟨b1', b2', _⟩, _⟩ := i1'
        obtain ⟨⟨v2, s2⟩, e2, w2⟩ := m_l87 (g := fun i => (si k i).toNatClampNeg) hk4 c3 (by omega) (fun i hi => (eg i hi).2) a1' a2' b2' b3 (MS_fr ms' f1 (fun _ => rfl) (fun _ => rfl))
        have w2 : v2 = _ := w2
        subst w2
        obtain ⟨et', het', wt'⟩ := m_tells hk4 c3 (MS_fr ms f1 (fun _ => rfl) (fun _ => rfl))
        have hh := b3.hr
        have x2 : X9_prints (nI k) s1 = some (pBits V A (fun i => (si k i).toNatClampNeg) (sn k - 1) A.pp, s2) := by
          rcases wt' with ⟨_, rfl⟩ | ⟨g, _⟩
          · rw [base9, (f1 80 k rfl).1, c6, if_neg (by decide), ob het']
            show (if 2 ≤ (s1.1 82 k) then (X9_rainAt (s1.1 56 16) s1).bind (fun r7 => (X9_prints_l87 (nI k) r7 (0, 0, s1)).bind (fun e87 => some (e87.1, e87.2))) else some ((-2), s1)) = _
            rw [(f1 82 k rfl).1, c8, if_pos (show (2 : Int32) ≤ nI (sn k) from nI_le (a := 2) q2 (by omega)), b2'.hr, ob (m_rainAt b2' (by omega)), ob e2]
          · exact absurd q3 g
        exact ⟨_, s1, s2, x1, x2, tc, V, A, hk, K, ts, tp, sk, sn, si, IV_fr i1 (FR_X9_prints _ _ _ x2) rfl⟩
      · refine ⟨-2, s, s, ?_, ?_, hI⟩
        · rw [base8, ob (c_missN hk4 c2 c4), if_neg (by decide), if_pos (kS hk4).1, c5]
          by_cases q2 : 2 ≤ sn k
          · rw [if_neg (show ¬ nI (sn k) < 2 from nI_nlt (b := 2) q2 (by omega)), ob hb, if_neg (fun g => qa ⟨q2, wb.mp g⟩)]
          · rw [if_pos (show nI (sn k) < 2 from nI_lt (b := 2) (by omega) (by omega))]
        · rw [base9, c6, if_neg (by decide), ob het]
          rcases wt with ⟨g, rfl⟩ | ⟨_, rfl⟩
          · show (if 2 ≤ (s.1 82 k) then (X9_rainAt (s.1 56 16) s).bind (fun r7 => (X9_prints_l87 (nI k) r7 (0, 0, s)).bind (fun e87 => some (e87.1, e87.2))) else some ((-2), s)) = _
            rw [c8, if_neg (show ¬ (2 : Int32) ≤ nI (sn k) from fun g2 => qa ⟨(nI_leI (a := 2) (by omega) (by omega)).mp g2, g⟩)]
          · rfl
  · refine ⟨-2, s, s, ?_, ?_, hI⟩
    · unfold X8_prints
      rw [show X8_isWithin x 3 = _ from c_within x 3, decide_eq_false q]
      rfl
    · unfold X9_prints
      rw [m_isSheet, decide_eq_false q]
      rfl
