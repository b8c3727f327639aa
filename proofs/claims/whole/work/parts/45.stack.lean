/-! THE STACK MACHINE OF THE CLASS -/
/-- a part of a list of code, from a place on -/
def slc (f : Nat → Int32) (i : Nat) (l : List Int32) : Prop := ∀ j, j < l.length → f (i + j) = l.getD j 0
theorem slc_l {f : Nat → Int32} {i : Nat} {a b : List Int32} (h : slc f i (a ++ b)) : slc f i a := fun j hj => by
  rw [h j (by rw [List.length_append]; omega), List.getD_eq_getElem?_getD, List.getD_eq_getElem?_getD, List.getElem?_append_left hj]
theorem slc_r {f : Nat → Int32} {i : Nat} {a b : List Int32} (h : slc f i (a ++ b)) : slc f (i + a.length) b := fun j hj => by
  rw [Nat.add_assoc, h (a.length + j) (by rw [List.length_append]; omega), List.getD_eq_getElem?_getD, List.getD_eq_getElem?_getD, List.getElem?_append_right (by omega)]
  congr 2
  omega
theorem slc_c {f : Nat → Int32} {i : Nat} {x : Int32} {l : List Int32} (h : slc f i (x :: l)) : f i = x := h 0 (by simp)
/-- only the stack has changed -/
def onK (q : Nat) (s s' : mSG) : Prop := (∀ a, a ≠ q → s'.1 a = s.1 a) ∧ s'.2 = s.2
theorem onK_rf {q : Nat} {s : mSG} : onK q s s := ⟨fun _ _ => rfl, rfl⟩
theorem onK_tr {q : Nat} {s s' s'' : mSG} (h : onK q s s') (h' : onK q s' s'') : onK q s s'' := ⟨fun a ha => (h'.1 a ha).trans (h.1 a ha), h'.2.trans h.2⟩
theorem onK_sI {q : Nat} {s : mSG} {k : Nat} {x : Int32} : onK q s (sI s q k x) := ⟨fun a ha => by
  funext j
  rw [sI_1, if_neg ha], rfl⟩
theorem sI_same {s : mSG} {a k : Nat} {x : Int32} : (sI s a k x).1 a k = x := by rw [sI_1, if_pos rfl, if_pos rfl]
theorem sI_oth {s : mSG} {a k j : Nat} {x : Int32} (h : j ≠ k) : (sI s a k x).1 a j = s.1 a j := by rw [sI_1, if_pos rfl, if_neg h]
theorem sI_adr {s : mSG} {a b k j : Nat} {x : Int32} (h : b ≠ a) : (sI s a k x).1 b j = s.1 b j := by rw [sI_1, if_neg h]
theorem txO_ge (k : Nat) : 53 ≤ txO k := by
  unfold txO
  split <;> omega
theorem m1s {j : Nat} (hj : j < 1000) : (-1 - nI j : Int32) = -nI (j + 1) := by
  have h1 : (-1 : Int32) = -nI 1 := rfl
  have h2 : nI (j + 1) = nI j + nI 1 := (nI_add j 1).symm
  rw [h1, h2]
  refine Int32.toBitVec_inj.mp ?_
  simp only [Int32.toBitVec_sub, Int32.toBitVec_neg, Int32.toBitVec_add]
  rw [BitVec.neg_add, BitVec.sub_eq_add_neg, BitVec.sub_eq_add_neg, BitVec.add_comm]
theorem m1n {j : Nat} (hj : j < 1000) : (-1 - -nI (j + 1) : Int32) = nI j := by
  have h1 : (-1 : Int32) = -nI 1 := rfl
  have h2 : nI (j + 1) = nI j + nI 1 := (nI_add j 1).symm
  rw [h1, h2]
  refine Int32.toBitVec_inj.mp ?_
  simp only [Int32.toBitVec_sub, Int32.toBitVec_neg, Int32.toBitVec_add]
  rw [BitVec.sub_eq_add_neg, BitVec.neg_neg, BitVec.add_comm, BitVec.add_assoc, ← BitVec.sub_eq_add_neg, BitVec.sub_self, BitVec.add_zero]
/-- a stack in an array: its top is the list's head -/
def stk (q : Nat) (s : mSG) (st : List Int32) : Prop := ∀ j, j < st.length → s.1 q (st.length - 1 - j) = st.getD j 0
theorem stk_hd {q : Nat} {s : mSG} {x : Int32} {st : List Int32} (h : stk q s (x :: st)) : s.1 q st.length = x := by
  have := h 0 (by simp)
  simpa using this
theorem stk_tl {q : Nat} {s : mSG} {x : Int32} {st : List Int32} (h : stk q s (x :: st)) : stk q s st := fun j hj => by
  have := h (j + 1) (by simp only [List.length_cons]; omega)
  simp only [List.length_cons, List.getD_cons_succ] at this
  rw [show st.length - 1 - j = st.length + 1 - 1 - (j + 1) by omega]
  exact this
theorem stk_push {q : Nat} {s : mSG} {x : Int32} {st : List Int32} (h : stk q s st) : stk q (sI s q st.length x) (x :: st) := fun j hj => by
  simp only [List.length_cons] at hj ⊢
  cases j with
  | zero =>
    show (sI s q st.length x).1 q (st.length + 1 - 1 - 0) = x
    rw [show st.length + 1 - 1 - 0 = st.length by omega, sI_same]
  | succ j =>
    rw [List.getD_cons_succ, sI_oth (by omega), show st.length + 1 - 1 - (j + 1) = st.length - 1 - j by omega]
    exact h j (by omega)
theorem xOc_lt (o : Nat) : xOc o < -6 ∧ ¬ xOc o = -13 ∧ ¬ xOc o = -19 := by
  unfold xOc
  split <;> decide
theorem xOc_of (o : Nat) (ho : o < 7) (x y : Int32) : X6_ofTwo (xOc o) x y = xOp o x y := by
  have hc : o = 0 ∨ o = 1 ∨ o = 2 ∨ o = 3 ∨ o = 4 ∨ o = 5 ∨ o = 6 := by omega
  rcases hc with rfl | rfl | rfl | rfl | rfl | rfl | rfl
  · show X6_ofTwo (-11) x y = b01 (¬ (x = 0 ∧ y = 0))
    unfold X6_ofTwo b01
    rw [if_neg (by decide), if_neg (by decide), if_neg (by decide), if_neg (by decide), if_neg (by decide), if_neg (by decide), if_pos rfl]
    by_cases h1 : x = 0 <;> by_cases h2 : y = 0 <;> simp [h1, h2]
  · show X6_ofTwo (-12) x y = b01 (¬ x = 0 ∧ ¬ y = 0)
    unfold X6_ofTwo b01
    rw [if_neg (by decide), if_neg (by decide), if_neg (by decide), if_neg (by decide), if_neg (by decide), if_pos rfl]
    by_cases h1 : x = 0 <;> by_cases h2 : y = 0 <;> simp [h1, h2]
  · show X6_ofTwo (-14) x y = b01 (x < y)
    unfold X6_ofTwo b01
    rw [if_neg (by decide), if_neg (by decide), if_neg (by decide), if_pos rfl]
    by_cases h1 : y ≤ x
    · rw [if_pos h1, if_neg (by rw [Int32.lt_iff_toInt_lt]; rw [Int32.le_iff_toInt_le] at h1; omega)]
    · rw [if_neg h1, if_pos (by rw [Int32.lt_iff_toInt_lt]; rw [Int32.le_iff_toInt_le] at h1; omega)]
  · show X6_ofTwo (-15) x y = b01 (x = y)
    unfold X6_ofTwo b01
    rw [if_neg (by decide), if_neg (by decide), if_pos rfl]
  · show X6_ofTwo (-16) x y = x + y
    unfold X6_ofTwo
    rw [if_neg (by decide), if_pos rfl]
  · show X6_ofTwo (-17) x y = x - y
    unfold X6_ofTwo
    rw [if_pos rfl]
  · show X6_ofTwo (-18) x y = x * y
    unfold X6_ofTwo
    rw [if_neg (by decide), if_neg (by decide), if_neg (by decide), if_neg (by decide), if_neg (by decide), if_neg (by decide), if_neg (by decide)]
theorem m1_of {c : Int32} (h : c < -6) (h9 : -100 < c) : 6 ≤ (-1 : Int32) - c ∧ ¬ 0 ≤ c := by
  have e6 : (-6 : Int32).toInt = -6 := rfl
  have e1 : (-100 : Int32).toInt = -100 := rfl
  have e66 : (6 : Int32).toInt = 6 := rfl
  have e0 : (0 : Int32).toInt = 0 := rfl
  have em : (-1 : Int32).toInt = -1 := rfl
  rw [Int32.lt_iff_toInt_lt] at h h9
  rw [Int32.le_iff_toInt_le, Int32.le_iff_toInt_le, Int32.toInt_sub]
  rw [Int.bmod_eq_of_le (by omega) (by omega)]
  omega
theorem xOc_gt (o : Nat) : -100 < xOc o := by
  unfold xOc
  split <;> decide
theorem gl_le {n m : Nat} {x : Int32} (hx : x = nI m) (h : n < m) (hm : m < 2147483648) : ¬ (x ≤ nI n) := by
  rw [hx, nl_le hm (by omega)]
  omega
theorem gl_lt {n m : Nat} {x : Int32} (hx : x = nI m) (h : m ≤ n) (hm : n < 2147483648) : ¬ (nI n < x) := by
  rw [hx, nl_lt hm (by omega)]
  omega
theorem gl_inb {n m : Nat} (h : n < m) (hm : n < 2147483648) : mInb (nI n) m = true := by
  rw [nl_inb hm]
  exact decide_eq_true h
theorem gl_neg0 {m : Nat} (hm : m < 1000) : -nI (m + 1) < 0 ∧ ¬ 0 ≤ -nI (m + 1) := by
  have e0 : (0 : Int32).toInt = 0 := rfl
  rw [Int32.lt_iff_toInt_lt, Int32.le_iff_toInt_le, nl_negT (by omega)]
  omega
section
variable {t : mTX} {k pt hi : Nat}
/-- what the machine needs -/
def vOK_30 (t : mTX) (k pt hi : Nat) (s : mSG) : Prop := k ≤ t.2.1 ∧ pt < 3 ∧ s.1 (txO k + 2) pt = nI hi ∧ hi ≤ txN t k ∧ hi ≤ 160
abbrev vB_30 (t : mTX) (k pt : Nat) : Int32 × Int32 × mSG → Option ((Int32 × Int32 × mSG) ⊕ mSG) := fun v => X6_value_29_30_b31 t (txO k) (nI pt) v.1 v.2.1 v.2.2
theorem vOK_on_30 {s s' : mSG} (h : vOK_30 t k pt hi s) (o : onK 30 s s') : vOK_30 t k pt hi s' := ⟨h.1, h.2.1, by
  rw [o.1 _ (by have := txO_ge k; omega)]; exact h.2.2.1, h.2.2.2⟩
theorem v_end_30 {s : mSG} (h : vOK_30 t k pt hi s) (top : Int32) : vB_30 t k pt (top, nI hi, s) = some (.inr s) := by
  obtain ⟨h1, h2, h3, h4, h5⟩ := h
  show X6_value_29_30_b31 t (txO k) (nI pt) top (nI hi) s = _
  unfold X6_value_29_30_b31
  rw [if_pos (txO_kl h1), (txO_rf h1).2]
  show (if (mKl (LAY t) (txO k + 2)).1 = 20 ∧ mInb (nI pt) (mKl (LAY t) (txO k + 2)).2 = true then _ else _) = _
  rw [(txO_cd h1).2, if_pos ⟨rfl, by rw [nl_inb (by omega)]; exact decide_eq_true h2⟩, nl_cl (by omega), h3, if_pos (by rw [nl_le (by omega) (by omega)]; exact Nat.le_refl _)]
theorem v_code_30 {s : mSG} (h : vOK_30 t k pt hi s) {i : Nat} (hi' : i < hi) (top : Int32) : vB_30 t k pt (top, nI i, s) = (if 0 ≤ (s.1 (txO k + 1) i) then
              X6_value_29_30_j69_31 t (txO k) (nI pt) top (nI i) (s.1 (txO k + 1) i) ((-1) - (s.1 (txO k + 1) i)) s
            else
              if 6 ≤ ((-1) - (s.1 (txO k + 1) i)) then
                if (s.1 (txO k + 1) i) = (-13) then
                  X6_value_29_30_j114_31 t (txO k) (nI pt) top (nI i) (s.1 (txO k + 1) i) s
                else
                  if (s.1 (txO k + 1) i) = (-19) then
                    X6_value_29_30_j114_31 t (txO k) (nI pt) top (nI i) (s.1 (txO k + 1) i) s
                  else
                    if top < 2 then
                      X6_value_29_30_j172_31 t (txO k) (nI pt) top (nI i) s
                    else
                      if mInb (top - 2) 32 = true then
                        if mInb (top - 1) 32 = true then
                          X6_value_29_30_j172_31 t (txO k) (nI pt) (top + (-1)) (nI i) (sI s 30 (top - 2).toNatClampNeg (X6_ofTwo (s.1 (txO k + 1) i) (s.1 30 (top - 2).toNatClampNeg) (s.1 30 (top - 1).toNatClampNeg)))
                        else none
                      else none
              else
                X6_value_29_30_j69_31 t (txO k) (nI pt) top (nI i) (s.1 (txO k + 1) i) ((-1) - (s.1 (txO k + 1) i)) s) := by
  obtain ⟨h1, h2, h3, h4, h5⟩ := h
  show X6_value_29_30_b31 t (txO k) (nI pt) top (nI i) s = _
  unfold X6_value_29_30_b31
  rw [if_pos (txO_kl h1), (txO_rf h1).2]
  show (if (mKl (LAY t) (txO k + 2)).1 = 20 ∧ mInb (nI pt) (mKl (LAY t) (txO k + 2)).2 = true then _ else _) = _
  rw [(txO_cd h1).2, if_pos ⟨rfl, by rw [nl_inb (by omega)]; exact decide_eq_true h2⟩, nl_cl (by omega), h3, if_neg (by rw [nl_le (by omega) (by omega)]; omega), if_pos (txO_kl h1), (txO_rf h1).1]
  show (if (mKl (LAY t) (txO k + 1)).1 = 20 ∧ mInb (nI i) (mKl (LAY t) (txO k + 1)).2 = true then _ else _) = _
  rw [(txO_cd h1).1, if_pos ⟨rfl, by rw [nl_inb (by omega)]; exact decide_eq_true (by show i < txN t k; omega)⟩, nl_cl (by omega)]
theorem v_step_30 {s : mSG} (h : vOK_30 t k pt hi s) {i : Nat} (hi' : i < hi) {c : xC} (hc : s.1 (txO k + 1) i = xEnc c) (hk : xOk c) {st st' : List Int32} (hs : stk 30 s st) (hl : st.length ≤ 32) (he : xSt (s.1 29) c st = some st') : ∃ s', vB_30 t k pt (nI st.length, nI i, s) = some (.inl (nI st'.length, nI (i + 1), s')) ∧ onK 30 s s' ∧ stk 30 s' st' ∧ st'.length ≤ 32 := by
  rw [v_code_30 h hi', hc]
  obtain ⟨n, m⟩ := c
  have hi160 := h.2.2.2.2
  match n, hk, st, hs, hl, he with
  | 0, hk, st, hs, hl, he =>
    have hk : m ≤ 9999 := hk
    have he : (if st.length < 32 then some (nI m :: st) else none) = some st' := he
    obtain ⟨h32, he⟩ := m_ite he
    obtain rfl := Option.some.inj he
    rw [show xEnc (0, m) = nI m from rfl, if_pos (nI_pos' (by omega))]
    unfold X6_value_29_30_j69_31 X6_value_29_30_j93_31 X6_value_29_30_j172_31
    rw [if_neg (gl_le (x := 32) (n := st.length) (m := 32) rfl h32 (by omega)), if_neg (nI_pos (show m < 2147483648 by omega)), if_pos (gl_inb h32 (by omega)), nl_cl (by omega)]
    exact ⟨_, by rw [nI_1, nI_1]; rfl, onK_sI, stk_push hs, by first | omega | (simp only [List.length_cons]; omega)⟩
  | 1, hk, st, hs, hl, he =>
    have hk : m < 6 := hk
    have he : (if st.length < 32 then some (s.1 29 m :: st) else none) = some st' := he
    obtain ⟨h32, he⟩ := m_ite he
    obtain rfl := Option.some.inj he
    rw [show xEnc (1, m) = -nI (m + 1) from rfl, if_neg (gl_neg0 (by omega)).2, m1n (by omega), if_neg (gl_le (x := 6) (n := m) (m := 6) rfl hk (by omega))]
    unfold X6_value_29_30_j69_31 X6_value_29_30_j93_31 X6_value_29_30_j172_31
    rw [if_neg (gl_le (x := 32) (n := st.length) (m := 32) rfl h32 (by omega)), if_pos (gl_neg0 (show m < 1000 by omega)).1, if_pos (gl_inb hk (by omega)), if_pos (gl_inb h32 (by omega)), nl_cl (by omega), nl_cl (by omega)]
    exact ⟨_, by rw [nI_1, nI_1]; rfl, onK_sI, stk_push hs, by first | omega | (simp only [List.length_cons]; omega)⟩
  | 2, _, x :: st, hs, hl, he =>
    obtain rfl := Option.some.inj he
    simp only [List.length_cons] at hl
    rw [show xEnc (2, m) = -19 from rfl, if_neg (by decide), if_pos (by decide), if_neg (by decide), if_pos rfl]
    unfold X6_value_29_30_j114_31 X6_value_29_30_j172_31
    simp only [List.length_cons]
    rw [if_neg (gl_lt (x := 1) (n := st.length + 1) (m := 1) rfl (by omega) (by omega)), nI_pred, if_pos (gl_inb (show st.length < 32 by omega) (by omega)), nl_cl (by omega), stk_hd hs]
    exact ⟨_, by rw [nI_1]; rfl, onK_sI, stk_push (stk_tl hs), by first | omega | (simp only [List.length_cons]; omega)⟩
  | 3, _, x :: st, hs, hl, he =>
    obtain rfl := Option.some.inj he
    simp only [List.length_cons] at hl
    rw [show xEnc (3, m) = -13 from rfl, if_neg (by decide), if_pos (by decide), if_pos rfl]
    unfold X6_value_29_30_j114_31 X6_value_29_30_j172_31
    simp only [List.length_cons]
    rw [if_neg (gl_lt (x := 1) (n := st.length + 1) (m := 1) rfl (by omega) (by omega)), nI_pred, if_pos (gl_inb (show st.length < 32 by omega) (by omega)), nl_cl (by omega), stk_hd hs]
    exact ⟨_, by rw [nI_1]; rfl, onK_sI, stk_push (stk_tl hs), by first | omega | (simp only [List.length_cons]; omega)⟩
  | n + 4, hk, y :: x :: st, hs, hl, he =>
    have hk : m < 7 := hk
    obtain rfl := Option.some.inj he
    simp only [List.length_cons] at hl
    rw [show xEnc (n + 4, m) = xOc m from rfl]
    have g := m1_of (xOc_lt m).1 (xOc_gt m)
    rw [if_neg g.2, if_pos g.1, if_neg (xOc_lt m).2.1, if_neg (xOc_lt m).2.2]
    unfold X6_value_29_30_j172_31
    simp only [List.length_cons]
    have e2 : nI (st.length + 1 + 1) - 2 = nI st.length := pk_sub (a := st.length + 1 + 1) (b := 2) (by omega)
    have h2 := stk_hd (stk_tl hs)
    have h1 := stk_hd hs
    simp only [List.length_cons] at h1
    rw [if_neg (gl_lt (x := 2) (n := st.length + 1 + 1) (m := 2) rfl (by omega) (by omega)), e2, nI_pred, if_pos (gl_inb (show st.length < 32 by omega) (by omega)), if_pos (gl_inb (show st.length + 1 < 32 by omega) (by omega)), nl_cl (by omega), nl_cl (by omega), h1, h2, xOc_of m hk]
    exact ⟨_, by rw [nI_1, pk_m1], onK_sI, stk_push (stk_tl (stk_tl hs)), by first | omega | (simp only [List.length_cons]; omega)⟩
  | 2, _, [], _, _, he => cases he
  | 3, _, [], _, _, he => cases he
  | n + 4, _, [], _, _, he => cases he
  | n + 4, _, [x], _, _, he => cases he
theorem v_run_30 (l : List xC) : ∀ {s : mSG} (h : vOK_30 t k pt hi s) {i : Nat} (hi' : i + l.length ≤ hi) (hc : ∀ j, j < l.length → s.1 (txO k + 1) (i + j) = xEnc (l.getD j (0, 0))) (hk : ∀ c, c ∈ l → xOk c) {st st' : List Int32} (hs : stk 30 s st) (hl : st.length ≤ 32) (he : xRun (s.1 29) l st = some st'), ∃ s', goes (vB_30 t k pt) l.length (nI st.length, nI i, s) (nI st'.length, nI (i + l.length), s') ∧ onK 30 s s' ∧ stk 30 s' st' := by
  induction l with
  | nil =>
    intro s h i hi' hc hk st st' hs hl he
    obtain rfl := Option.some.inj he
    exact ⟨s, goes_0, onK_rf, hs⟩
  | cons c l ih =>
    intro s h i hi' hc hk st st' hs hl he
    simp only [List.length_cons] at hi' hc ⊢
    obtain ⟨st1, h1, he⟩ := m_bind he
    obtain ⟨s1, g1, o1, k1, l1⟩ := v_step_30 h (by omega) (hc 0 (by omega)) (hk c (List.mem_cons_self ..)) hs hl h1
    have hn : s1.1 29 = s.1 29 := o1.1 _ (by decide)
    have ht : s1.1 (txO k + 1) = s.1 (txO k + 1) := o1.1 _ (by have := txO_ge k; omega)
    obtain ⟨s2, g2, o2, k2⟩ := ih (vOK_on_30 h o1) (i := i + 1) (by omega) (fun j hj => by
      rw [ht, show i + 1 + j = i + (j + 1) by omega]
      exact hc (j + 1) (by omega)) (fun c' hc' => hk c' (List.mem_cons_of_mem _ hc')) k1 l1 (by rw [hn]; exact he)
    refine ⟨s2, ?_, onK_tr o1 o2, k2⟩
    have := goes_tr (goes_1 g1) g2
    rw [show i + (l.length + 1) = i + 1 + l.length by omega, show l.length + 1 = 1 + l.length by omega]
    exact this
/-- a part of a text, where it begins and ends -/
theorem v_value_30 {s : mSG} (h : vOK_30 t k pt hi s) {lo : Nat} (l : List xC) (hlo : pt = 0 ∧ lo = 0 ∨ 0 < pt ∧ s.1 (txO k + 2) (pt - 1) = nI lo) (hh : lo + l.length = hi) (hc : ∀ j, j < l.length → s.1 (txO k + 1) (lo + j) = xEnc (l.getD j (0, 0))) (hk : ∀ c, c ∈ l → xOk c) {v : Int32} (he : xRun (s.1 29) l [] = some [v]) : ∃ s', X6_value_29_30 t (txO k) (nI pt) s = some (v, s') ∧ onK 30 s s' := by
  obtain ⟨s', g, o, q⟩ := v_run_30 l h (i := lo) (by omega) hc hk (st := []) (fun j hj => absurd hj (by simp)) (by simp) he
  rw [hh] at g
  have hv : s'.1 30 0 = v := stk_hd q
  have e29 : X6_value_29_30_j29 t (txO k) (nI pt) 0 (nI lo) s = some (v, s') := by
    unfold X6_value_29_30_j29 X6_value_29_30_l31
    have := goes_end (N := mFU) g (v_end_30 (vOK_on_30 h o) _) (by have := h.2.2.2.2; show l.length < 1000000; omega)
    rw [show (0 : Int32) = nI ([] : List Int32).length from rfl, this]
    show some (s'.1 30 0, s') = _
    rw [hv]
  refine ⟨s', ?_, o⟩
  unfold X6_value_29_30
  have hw := h.2.1
  rw [show (2 : Int32) = nI 2 from rfl, c_within, decide_eq_true ((inR_nI (by omega) (by omega)).mpr (by omega)), if_pos rfl]
  rcases hlo with ⟨rfl, rfl⟩ | ⟨hp, hlo⟩
  · rw [if_pos (show nI 0 = 0 from rfl)]
    exact e29
  · rw [if_neg (nI_ne0 hp (by omega)), if_pos (txO_kl h.1), (txO_rf h.1).2]
    show (if (mKl (LAY t) (txO k + 2)).1 = 20 ∧ mInb (nI pt - 1) (mKl (LAY t) (txO k + 2)).2 = true then _ else _) = _
    have e1 : nI pt - 1 = nI (pt - 1) := pk_sub (a := pt) (b := 1) hp
    rw [e1, (txO_cd h.1).2, if_pos ⟨rfl, by rw [nl_inb (by omega)]; exact decide_eq_true (by show pt - 1 < 3; omega)⟩, nl_cl (by omega), hlo]
    exact e29
end
section
variable {t : mTX} {k pt hi : Nat}
/-- what the machine needs -/
def vOK_33 (t : mTX) (k pt hi : Nat) (s : mSG) : Prop := k ≤ t.2.1 ∧ pt < 3 ∧ s.1 (txO k + 2) pt = nI hi ∧ hi ≤ txN t k ∧ hi ≤ 160
abbrev vB_33 (t : mTX) (k pt : Nat) : Int32 × Int32 × mSG → Option ((Int32 × Int32 × mSG) ⊕ mSG) := fun v => X6_value_32_33_b31 t (txO k) (nI pt) v.1 v.2.1 v.2.2
theorem vOK_on_33 {s s' : mSG} (h : vOK_33 t k pt hi s) (o : onK 33 s s') : vOK_33 t k pt hi s' := ⟨h.1, h.2.1, by
  rw [o.1 _ (by have := txO_ge k; omega)]; exact h.2.2.1, h.2.2.2⟩
theorem v_end_33 {s : mSG} (h : vOK_33 t k pt hi s) (top : Int32) : vB_33 t k pt (top, nI hi, s) = some (.inr s) := by
  obtain ⟨h1, h2, h3, h4, h5⟩ := h
  show X6_value_32_33_b31 t (txO k) (nI pt) top (nI hi) s = _
  unfold X6_value_32_33_b31
  rw [if_pos (txO_kl h1), (txO_rf h1).2]
  show (if (mKl (LAY t) (txO k + 2)).1 = 20 ∧ mInb (nI pt) (mKl (LAY t) (txO k + 2)).2 = true then _ else _) = _
  rw [(txO_cd h1).2, if_pos ⟨rfl, by rw [nl_inb (by omega)]; exact decide_eq_true h2⟩, nl_cl (by omega), h3, if_pos (by rw [nl_le (by omega) (by omega)]; exact Nat.le_refl _)]
theorem v_code_33 {s : mSG} (h : vOK_33 t k pt hi s) {i : Nat} (hi' : i < hi) (top : Int32) : vB_33 t k pt (top, nI i, s) = (if 0 ≤ (s.1 (txO k + 1) i) then
              X6_value_32_33_j69_31 t (txO k) (nI pt) top (nI i) (s.1 (txO k + 1) i) ((-1) - (s.1 (txO k + 1) i)) s
            else
              if 6 ≤ ((-1) - (s.1 (txO k + 1) i)) then
                if (s.1 (txO k + 1) i) = (-13) then
                  X6_value_32_33_j114_31 t (txO k) (nI pt) top (nI i) (s.1 (txO k + 1) i) s
                else
                  if (s.1 (txO k + 1) i) = (-19) then
                    X6_value_32_33_j114_31 t (txO k) (nI pt) top (nI i) (s.1 (txO k + 1) i) s
                  else
                    if top < 2 then
                      X6_value_32_33_j172_31 t (txO k) (nI pt) top (nI i) s
                    else
                      if mInb (top - 2) 32 = true then
                        if mInb (top - 1) 32 = true then
                          X6_value_32_33_j172_31 t (txO k) (nI pt) (top + (-1)) (nI i) (sI s 33 (top - 2).toNatClampNeg (X6_ofTwo (s.1 (txO k + 1) i) (s.1 33 (top - 2).toNatClampNeg) (s.1 33 (top - 1).toNatClampNeg)))
                        else none
                      else none
              else
                X6_value_32_33_j69_31 t (txO k) (nI pt) top (nI i) (s.1 (txO k + 1) i) ((-1) - (s.1 (txO k + 1) i)) s) := by
  obtain ⟨h1, h2, h3, h4, h5⟩ := h
  show X6_value_32_33_b31 t (txO k) (nI pt) top (nI i) s = _
  unfold X6_value_32_33_b31
  rw [if_pos (txO_kl h1), (txO_rf h1).2]
  show (if (mKl (LAY t) (txO k + 2)).1 = 20 ∧ mInb (nI pt) (mKl (LAY t) (txO k + 2)).2 = true then _ else _) = _
  rw [(txO_cd h1).2, if_pos ⟨rfl, by rw [nl_inb (by omega)]; exact decide_eq_true h2⟩, nl_cl (by omega), h3, if_neg (by rw [nl_le (by omega) (by omega)]; omega), if_pos (txO_kl h1), (txO_rf h1).1]
  show (if (mKl (LAY t) (txO k + 1)).1 = 20 ∧ mInb (nI i) (mKl (LAY t) (txO k + 1)).2 = true then _ else _) = _
  rw [(txO_cd h1).1, if_pos ⟨rfl, by rw [nl_inb (by omega)]; exact decide_eq_true (by show i < txN t k; omega)⟩, nl_cl (by omega)]
theorem v_step_33 {s : mSG} (h : vOK_33 t k pt hi s) {i : Nat} (hi' : i < hi) {c : xC} (hc : s.1 (txO k + 1) i = xEnc c) (hk : xOk c) {st st' : List Int32} (hs : stk 33 s st) (hl : st.length ≤ 32) (he : xSt (s.1 32) c st = some st') : ∃ s', vB_33 t k pt (nI st.length, nI i, s) = some (.inl (nI st'.length, nI (i + 1), s')) ∧ onK 33 s s' ∧ stk 33 s' st' ∧ st'.length ≤ 32 := by
  rw [v_code_33 h hi', hc]
  obtain ⟨n, m⟩ := c
  have hi160 := h.2.2.2.2
  match n, hk, st, hs, hl, he with
  | 0, hk, st, hs, hl, he =>
    have hk : m ≤ 9999 := hk
    have he : (if st.length < 32 then some (nI m :: st) else none) = some st' := he
    obtain ⟨h32, he⟩ := m_ite he
    obtain rfl := Option.some.inj he
    rw [show xEnc (0, m) = nI m from rfl, if_pos (nI_pos' (by omega))]
    unfold X6_value_32_33_j69_31 X6_value_32_33_j93_31 X6_value_32_33_j172_31
    rw [if_neg (gl_le (x := 32) (n := st.length) (m := 32) rfl h32 (by omega)), if_neg (nI_pos (show m < 2147483648 by omega)), if_pos (gl_inb h32 (by omega)), nl_cl (by omega)]
    exact ⟨_, by rw [nI_1, nI_1]; rfl, onK_sI, stk_push hs, by first | omega | (simp only [List.length_cons]; omega)⟩
  | 1, hk, st, hs, hl, he =>
    have hk : m < 6 := hk
    have he : (if st.length < 32 then some (s.1 32 m :: st) else none) = some st' := he
    obtain ⟨h32, he⟩ := m_ite he
    obtain rfl := Option.some.inj he
    rw [show xEnc (1, m) = -nI (m + 1) from rfl, if_neg (gl_neg0 (by omega)).2, m1n (by omega), if_neg (gl_le (x := 6) (n := m) (m := 6) rfl hk (by omega))]
    unfold X6_value_32_33_j69_31 X6_value_32_33_j93_31 X6_value_32_33_j172_31
    rw [if_neg (gl_le (x := 32) (n := st.length) (m := 32) rfl h32 (by omega)), if_pos (gl_neg0 (show m < 1000 by omega)).1, if_pos (gl_inb hk (by omega)), if_pos (gl_inb h32 (by omega)), nl_cl (by omega), nl_cl (by omega)]
    exact ⟨_, by rw [nI_1, nI_1]; rfl, onK_sI, stk_push hs, by first | omega | (simp only [List.length_cons]; omega)⟩
  | 2, _, x :: st, hs, hl, he =>
    obtain rfl := Option.some.inj he
    simp only [List.length_cons] at hl
    rw [show xEnc (2, m) = -19 from rfl, if_neg (by decide), if_pos (by decide), if_neg (by decide), if_pos rfl]
    unfold X6_value_32_33_j114_31 X6_value_32_33_j172_31
    simp only [List.length_cons]
    rw [if_neg (gl_lt (x := 1) (n := st.length + 1) (m := 1) rfl (by omega) (by omega)), nI_pred, if_pos (gl_inb (show st.length < 32 by omega) (by omega)), nl_cl (by omega), stk_hd hs]
    exact ⟨_, by rw [nI_1]; rfl, onK_sI, stk_push (stk_tl hs), by first | omega | (simp only [List.length_cons]; omega)⟩
  | 3, _, x :: st, hs, hl, he =>
    obtain rfl := Option.some.inj he
    simp only [List.length_cons] at hl
    rw [show xEnc (3, m) = -13 from rfl, if_neg (by decide), if_pos (by decide), if_pos rfl]
    unfold X6_value_32_33_j114_31 X6_value_32_33_j172_31
    simp only [List.length_cons]
    rw [if_neg (gl_lt (x := 1) (n := st.length + 1) (m := 1) rfl (by omega) (by omega)), nI_pred, if_pos (gl_inb (show st.length < 32 by omega) (by omega)), nl_cl (by omega), stk_hd hs]
    exact ⟨_, by rw [nI_1]; rfl, onK_sI, stk_push (stk_tl hs), by first | omega | (simp only [List.length_cons]; omega)⟩
  | n + 4, hk, y :: x :: st, hs, hl, he =>
    have hk : m < 7 := hk
    obtain rfl := Option.some.inj he
    simp only [List.length_cons] at hl
    rw [show xEnc (n + 4, m) = xOc m from rfl]
    have g := m1_of (xOc_lt m).1 (xOc_gt m)
    rw [if_neg g.2, if_pos g.1, if_neg (xOc_lt m).2.1, if_neg (xOc_lt m).2.2]
    unfold X6_value_32_33_j172_31
    simp only [List.length_cons]
    have e2 : nI (st.length + 1 + 1) - 2 = nI st.length := pk_sub (a := st.length + 1 + 1) (b := 2) (by omega)
    have h2 := stk_hd (stk_tl hs)
    have h1 := stk_hd hs
    simp only [List.length_cons] at h1
    rw [if_neg (gl_lt (x := 2) (n := st.length + 1 + 1) (m := 2) rfl (by omega) (by omega)), e2, nI_pred, if_pos (gl_inb (show st.length < 32 by omega) (by omega)), if_pos (gl_inb (show st.length + 1 < 32 by omega) (by omega)), nl_cl (by omega), nl_cl (by omega), h1, h2, xOc_of m hk]
    exact ⟨_, by rw [nI_1, pk_m1], onK_sI, stk_push (stk_tl (stk_tl hs)), by first | omega | (simp only [List.length_cons]; omega)⟩
  | 2, _, [], _, _, he => cases he
  | 3, _, [], _, _, he => cases he
  | n + 4, _, [], _, _, he => cases he
  | n + 4, _, [x], _, _, he => cases he
theorem v_run_33 (l : List xC) : ∀ {s : mSG} (h : vOK_33 t k pt hi s) {i : Nat} (hi' : i + l.length ≤ hi) (hc : ∀ j, j < l.length → s.1 (txO k + 1) (i + j) = xEnc (l.getD j (0, 0))) (hk : ∀ c, c ∈ l → xOk c) {st st' : List Int32} (hs : stk 33 s st) (hl : st.length ≤ 32) (he : xRun (s.1 32) l st = some st'), ∃ s', goes (vB_33 t k pt) l.length (nI st.length, nI i, s) (nI st'.length, nI (i + l.length), s') ∧ onK 33 s s' ∧ stk 33 s' st' := by
  induction l with
  | nil =>
    intro s h i hi' hc hk st st' hs hl he
    obtain rfl := Option.some.inj he
    exact ⟨s, goes_0, onK_rf, hs⟩
  | cons c l ih =>
    intro s h i hi' hc hk st st' hs hl he
    simp only [List.length_cons] at hi' hc ⊢
    obtain ⟨st1, h1, he⟩ := m_bind he
    obtain ⟨s1, g1, o1, k1, l1⟩ := v_step_33 h (by omega) (hc 0 (by omega)) (hk c (List.mem_cons_self ..)) hs hl h1
    have hn : s1.1 32 = s.1 32 := o1.1 _ (by decide)
    have ht : s1.1 (txO k + 1) = s.1 (txO k + 1) := o1.1 _ (by have := txO_ge k; omega)
    obtain ⟨s2, g2, o2, k2⟩ := ih (vOK_on_33 h o1) (i := i + 1) (by omega) (fun j hj => by
      rw [ht, show i + 1 + j = i + (j + 1) by omega]
      exact hc (j + 1) (by omega)) (fun c' hc' => hk c' (List.mem_cons_of_mem _ hc')) k1 l1 (by rw [hn]; exact he)
    refine ⟨s2, ?_, onK_tr o1 o2, k2⟩
    have := goes_tr (goes_1 g1) g2
    rw [show i + (l.length + 1) = i + 1 + l.length by omega, show l.length + 1 = 1 + l.length by omega]
    exact this
/-- a part of a text, where it begins and ends -/
theorem v_value_33 {s : mSG} (h : vOK_33 t k pt hi s) {lo : Nat} (l : List xC) (hlo : pt = 0 ∧ lo = 0 ∨ 0 < pt ∧ s.1 (txO k + 2) (pt - 1) = nI lo) (hh : lo + l.length = hi) (hc : ∀ j, j < l.length → s.1 (txO k + 1) (lo + j) = xEnc (l.getD j (0, 0))) (hk : ∀ c, c ∈ l → xOk c) {v : Int32} (he : xRun (s.1 32) l [] = some [v]) : ∃ s', X6_value_32_33 t (txO k) (nI pt) s = some (v, s') ∧ onK 33 s s' := by
  obtain ⟨s', g, o, q⟩ := v_run_33 l h (i := lo) (by omega) hc hk (st := []) (fun j hj => absurd hj (by simp)) (by simp) he
  rw [hh] at g
  have hv : s'.1 33 0 = v := stk_hd q
  have e29 : X6_value_32_33_j29 t (txO k) (nI pt) 0 (nI lo) s = some (v, s') := by
    unfold X6_value_32_33_j29 X6_value_32_33_l31
    have := goes_end (N := mFU) g (v_end_33 (vOK_on_33 h o) _) (by have := h.2.2.2.2; show l.length < 1000000; omega)
    rw [show (0 : Int32) = nI ([] : List Int32).length from rfl, this]
    show some (s'.1 33 0, s') = _
    rw [hv]
  refine ⟨s', ?_, o⟩
  unfold X6_value_32_33
  have hw := h.2.1
  rw [show (2 : Int32) = nI 2 from rfl, c_within, decide_eq_true ((inR_nI (by omega) (by omega)).mpr (by omega)), if_pos rfl]
  rcases hlo with ⟨rfl, rfl⟩ | ⟨hp, hlo⟩
  · rw [if_pos (show nI 0 = 0 from rfl)]
    exact e29
  · rw [if_neg (nI_ne0 hp (by omega)), if_pos (txO_kl h.1), (txO_rf h.1).2]
    show (if (mKl (LAY t) (txO k + 2)).1 = 20 ∧ mInb (nI pt - 1) (mKl (LAY t) (txO k + 2)).2 = true then _ else _) = _
    have e1 : nI pt - 1 = nI (pt - 1) := pk_sub (a := pt) (b := 1) hp
    rw [e1, (txO_cd h.1).2, if_pos ⟨rfl, by rw [nl_inb (by omega)]; exact decide_eq_true (by show pt - 1 < 3; omega)⟩, nl_cl (by omega), hlo]
    exact e29
end
