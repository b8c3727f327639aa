/-! force, mud -/
theorem gl_neN {a b : Nat} {x : Int32} (hx : x = -nI b) (ha : a < 2147483648) (hb : 0 < b) (hb' : b < 2147483648) : ¬ nI a = x := by
  rw [hx, nl_eqN ha hb hb']
  exact id
theorem RS_put_ru {o m t d r : Nat} {A : Ab} {s : mSG} (h : RS o m t d r A s) (v : Nat) (hm : m ≠ o) (ht : t ≠ o) (hd : d ≠ o) (hr : r ≠ o) : RS o m t d r (A.up 11 0 v) (sI s o 6 (nI v)) := by
  obtain ⟨h1, h2, h3, h4, h5, h6, h7, h8, h9, h10, h11, h12⟩ := h
  refine ⟨?_, ?_, ?_, ?_, ?_, ?_, ?_, ?_, ?_, ?_, ?_, ?_⟩
  · intro i hi; rw [sI_adr hm]; exact h1 i hi
  · intro i hi; rw [sI_adr ht]; exact h2 i hi
  · intro i hi; rw [sI_adr ht]; exact h3 i hi
  · intro i hi; rw [sI_adr ht]; exact h4 i hi
  · intro i hi; rw [sI_adr ht]; exact h5 i hi
  · intro i hi; rw [sI_adr ht]; exact h6 i hi
  · intro i hi; rw [sI_adr ht]; exact h7 i hi
  · intro i hi; rw [sI_adr hd]; exact h8 i hi
  · intro i hi; rw [sI_adr hr]; exact h9 i hi
  · rw [sI_oth (by decide)]; exact h10
  · rw [sI_oth (by decide)]; exact h11
  · rw [sI_same]; rfl
theorem RM_put_ru {A : Ab} {s : mSG} (h : RM A s) (v : Nat) : RM (A.up 11 0 v) (sI s 56 4 (nI v)) := by
  obtain ⟨h1, h2, h3, h4, h5, h6, h7, h8, h9, h10, h11, h12⟩ := h
  refine ⟨?_, ?_, ?_, ?_, ?_, ?_, ?_, ?_, ?_, ?_, ?_, ?_⟩
  · intro i hi; rw [sI_adr (by decide)]; exact h1 i hi
  · intro i hi; rw [sI_adr (by decide)]; exact h2 i hi
  · intro i hi; rw [sI_adr (by decide)]; exact h3 i hi
  · intro i hi; rw [sI_adr (by decide)]; exact h4 i hi
  · intro i hi; rw [sI_adr (by decide)]; exact h5 i hi
  · intro i hi; rw [sI_adr (by decide)]; exact h6 i hi
  · intro i hi; rw [sI_adr (by decide)]; exact h7 i hi
  · intro i hi; rw [sI_adr (by decide)]; exact h8 i hi
  · intro i hi; rw [sI_adr (by decide)]; exact h9 i hi
  · rw [sI_oth (by decide)]; exact h10
  · rw [sI_oth (by decide)]; exact h11
  · rw [sI_same]; rfl
theorem up_mud (A : Ab) (p v q : Nat) : (A.up 0 p v).mud q = if q = p then v else A.mud q := rfl
theorem RS_put_mud {o m t d r : Nat} {A : Ab} {s : mSG} (h : RS o m t d r A s) (p v : Nat) (ho : o ≠ m) (ht : t ≠ m) (hd : d ≠ m) (hr : r ≠ m) : RS o m t d r (A.up 0 p v) (sI s m p (nI v)) := by
  obtain ⟨h1, h2, h3, h4, h5, h6, h7, h8, h9, h10, h11, h12⟩ := h
  refine ⟨?_, ?_, ?_, ?_, ?_, ?_, ?_, ?_, ?_, ?_, ?_, ?_⟩
  · intro q hq
    rw [up_mud]
    by_cases e : q = p
    · subst e; rw [if_pos rfl, sI_same]
    · rw [if_neg e, sI_oth e]; exact h1 q hq
  · intro i hi; rw [sI_adr ht]; exact h2 i hi
  · intro i hi; rw [sI_adr ht]; exact h3 i hi
  · intro i hi; rw [sI_adr ht]; exact h4 i hi
  · intro i hi; rw [sI_adr ht]; exact h5 i hi
  · intro i hi; rw [sI_adr ht]; exact h6 i hi
  · intro i hi; rw [sI_adr ht]; exact h7 i hi
  · intro i hi; rw [sI_adr hd]; exact h8 i hi
  · intro i hi; rw [sI_adr hr]; exact h9 i hi
  · rw [sI_adr ho]; exact h10
  · rw [sI_adr ho]; exact h11
  · rw [sI_adr ho]; exact h12
theorem RM_put_mud {A : Ab} {s : mSG} (h : RM A s) (p v : Nat) : RM (A.up 0 p v) (sI s 60 p (nI v)) := by
  obtain ⟨h1, h2, h3, h4, h5, h6, h7, h8, h9, h10, h11, h12⟩ := h
  refine ⟨?_, ?_, ?_, ?_, ?_, ?_, ?_, ?_, ?_, ?_, ?_, ?_⟩
  · intro q hq
    rw [up_mud]
    by_cases e : q = p
    · subst e; rw [if_pos rfl, sI_same]
    · rw [if_neg e, sI_oth e]; exact h1 q hq
  · intro i hi; rw [sI_adr (by decide)]; exact h2 i hi
  · intro i hi; rw [sI_adr (by decide)]; exact h3 i hi
  · intro i hi; rw [sI_adr (by decide)]; exact h4 i hi
  · intro i hi; rw [sI_adr (by decide)]; exact h5 i hi
  · intro i hi; rw [sI_adr (by decide)]; exact h6 i hi
  · intro i hi; rw [sI_adr (by decide)]; exact h7 i hi
  · intro i hi; rw [sI_adr (by decide)]; exact h8 i hi
  · intro i hi; rw [sI_adr (by decide)]; exact h9 i hi
  · rw [sI_adr (by decide)]; exact h10
  · rw [sI_adr (by decide)]; exact h11
  · rw [sI_adr (by decide)]; exact h12
theorem up_ow (A : Ab) (p v q : Nat) : (A.up 7 p v).ow q = if q = p then v else A.ow q := rfl
theorem RS_put_ow {o m t d r : Nat} {A : Ab} {s : mSG} (h : RS o m t d r A s) (p v : Nat) (ho : o ≠ d) (hm : m ≠ d) (ht : t ≠ d) (hr : r ≠ d) : RS o m t d r (A.up 7 p v) (sI s d p (nI v)) := by
  obtain ⟨h1, h2, h3, h4, h5, h6, h7, h8, h9, h10, h11, h12⟩ := h
  refine ⟨?_, ?_, ?_, ?_, ?_, ?_, ?_, ?_, ?_, ?_, ?_, ?_⟩
  · intro i hi; rw [sI_adr hm]; exact h1 i hi
  · intro i hi; rw [sI_adr ht]; exact h2 i hi
  · intro i hi; rw [sI_adr ht]; exact h3 i hi
  · intro i hi; rw [sI_adr ht]; exact h4 i hi
  · intro i hi; rw [sI_adr ht]; exact h5 i hi
  · intro i hi; rw [sI_adr ht]; exact h6 i hi
  · intro i hi; rw [sI_adr ht]; exact h7 i hi
  · intro q hq
    rw [up_ow]
    by_cases e : q = p
    · subst e; rw [if_pos rfl, sI_same]
    · rw [if_neg e, sI_oth e]; exact h8 q hq
  · intro i hi; rw [sI_adr hr]; exact h9 i hi
  · rw [sI_adr ho]; exact h10
  · rw [sI_adr ho]; exact h11
  · rw [sI_adr ho]; exact h12
theorem RM_put_ow {A : Ab} {s : mSG} (h : RM A s) (p v : Nat) : RM (A.up 7 p v) (sI s 67 p (nI v)) := by
  obtain ⟨h1, h2, h3, h4, h5, h6, h7, h8, h9, h10, h11, h12⟩ := h
  refine ⟨?_, ?_, ?_, ?_, ?_, ?_, ?_, ?_, ?_, ?_, ?_, ?_⟩
  · intro i hi; rw [sI_adr (by decide)]; exact h1 i hi
  · intro i hi; rw [sI_adr (by decide)]; exact h2 i hi
  · intro i hi; rw [sI_adr (by decide)]; exact h3 i hi
  · intro i hi; rw [sI_adr (by decide)]; exact h4 i hi
  · intro i hi; rw [sI_adr (by decide)]; exact h5 i hi
  · intro i hi; rw [sI_adr (by decide)]; exact h6 i hi
  · intro i hi; rw [sI_adr (by decide)]; exact h7 i hi
  · intro q hq
    rw [up_ow]
    by_cases e : q = p
    · subst e; rw [if_pos rfl, sI_same]
    · rw [if_neg e, sI_oth e]; exact h8 q hq
  · intro i hi; rw [sI_adr (by decide)]; exact h9 i hi
  · rw [sI_adr (by decide)]; exact h10
  · rw [sI_adr (by decide)]; exact h11
  · rw [sI_adr (by decide)]; exact h12
theorem up_rn (A : Ab) (p v q : Nat) : (A.up 8 p v).rn q = if q = p then v else A.rn q := rfl
theorem RS_put_rn {o m t d r : Nat} {A : Ab} {s : mSG} (h : RS o m t d r A s) (p v : Nat) (ho : o ≠ r) (hm : m ≠ r) (ht : t ≠ r) (hd : d ≠ r) : RS o m t d r (A.up 8 p v) (sI s r p (nI v)) := by
  obtain ⟨h1, h2, h3, h4, h5, h6, h7, h8, h9, h10, h11, h12⟩ := h
  refine ⟨?_, ?_, ?_, ?_, ?_, ?_, ?_, ?_, ?_, ?_, ?_, ?_⟩
  · intro i hi; rw [sI_adr hm]; exact h1 i hi
  · intro i hi; rw [sI_adr ht]; exact h2 i hi
  · intro i hi; rw [sI_adr ht]; exact h3 i hi
  · intro i hi; rw [sI_adr ht]; exact h4 i hi
  · intro i hi; rw [sI_adr ht]; exact h5 i hi
  · intro i hi; rw [sI_adr ht]; exact h6 i hi
  · intro i hi; rw [sI_adr ht]; exact h7 i hi
  · intro i hi; rw [sI_adr hd]; exact h8 i hi
  · intro q hq
    rw [up_rn]
    by_cases e : q = p
    · subst e; rw [if_pos rfl, sI_same]
    · rw [if_neg e, sI_oth e]; exact h9 q hq
  · rw [sI_adr ho]; exact h10
  · rw [sI_adr ho]; exact h11
  · rw [sI_adr ho]; exact h12
theorem RM_put_rn {A : Ab} {s : mSG} (h : RM A s) (p v : Nat) : RM (A.up 8 p v) (sI s 68 p (nI v)) := by
  obtain ⟨h1, h2, h3, h4, h5, h6, h7, h8, h9, h10, h11, h12⟩ := h
  refine ⟨?_, ?_, ?_, ?_, ?_, ?_, ?_, ?_, ?_, ?_, ?_, ?_⟩
  · intro i hi; rw [sI_adr (by decide)]; exact h1 i hi
  · intro i hi; rw [sI_adr (by decide)]; exact h2 i hi
  · intro i hi; rw [sI_adr (by decide)]; exact h3 i hi
  · intro i hi; rw [sI_adr (by decide)]; exact h4 i hi
  · intro i hi; rw [sI_adr (by decide)]; exact h5 i hi
  · intro i hi; rw [sI_adr (by decide)]; exact h6 i hi
  · intro i hi; rw [sI_adr (by decide)]; exact h7 i hi
  · intro i hi; rw [sI_adr (by decide)]; exact h8 i hi
  · intro q hq
    rw [up_rn]
    by_cases e : q = p
    · subst e; rw [if_pos rfl, sI_same]
    · rw [if_neg e, sI_oth e]; exact h9 q hq
  · rw [sI_adr (by decide)]; exact h10
  · rw [sI_adr (by decide)]; exact h11
  · rw [sI_adr (by decide)]; exact h12
/-- two steps that change what is now -/
theorem L_now {t : mTX} {s s1 s2 : mSG} {WF WG : List (Nat × Option Nat)} {tc : Nat} {V : mVT} {A A' : Ab} {hk : Bool} {K : Ab} {ts : Nat} {tp sk sn : Nat → Nat} {si : Nat → Nat → Int32} (h : IV t tc V A hk K ts tp sk sn si s) (f1 : Fr WF s s1) (f2 : Fr WG s1 s2) (w1 : nowW WF = true) (w2 : nowW WG = true) (c2 : RS 7 8 9 10 11 A' s2) (m2 : RM A' s2) (ok : AbOK A' tc) (hp : A.pp ≤ A'.pp) (hd : ∀ p, p < A.pp → A'.kd p = A.kd p) : INV t s2 :=
  ⟨tc, V, A', hk, K, ts, tp, sk, sn, si, IW_IV (IW_fr (IW_fr (IV_IW h) f1 w1) f2 w2) c2 m2 ok hp hd⟩
theorem L_force {t : mTX} {s : mSG} (h : INV t s) (x : Int32) : ∃ v s1 s2, X8_force x s = some (v, s1) ∧ X9_force x s1 = some (v, s2) ∧ INV t s2 := by
  have hI := h
  obtain ⟨tc, V, A, hk, K, ts, tp, sk, sn, si, hv⟩ := h
  have hv' := hv
  obtain ⟨⟨a1, a2, a3, a4, a5, a6⟩, ⟨b1, b2, b3⟩, _⟩ := hv'
  by_cases q : inP x tc
  · obtain ⟨k, hk', rfl⟩ := inP_of q (by omega)
    have e1 : X8_force (nI k) s = some (nI A.ru, sI s 7 6 (nI k)) := by
      unfold X8_force
      rw [a3, c_withinP _ (by omega), decide_eq_true q, if_pos rfl, b1.ru]
    have e2 : X9_force (nI k) (sI s 7 6 (nI k)) = some (nI A.ru, sI (sI s 7 6 (nI k)) 56 4 (nI k)) := by
      unfold X9_force
      rw [show (sI s 7 6 (nI k)).1 56 3 = s.1 56 3 from rfl, show (sI s 7 6 (nI k)).1 56 4 = s.1 56 4 from rfl, a4, m_inP _ (by omega), decide_eq_true q, if_pos rfl, b2.ru]
    refine ⟨_, _, _, e1, e2, L_now (A' := A.up 11 0 k) hv (FR_X8_force _ _ _ e1) (FR_X9_force _ _ _ e2) rfl rfl ?_ ?_ ?_ (Nat.le_refl _) (fun _ _ => rfl)⟩
    · exact RS_eq (RS_put_ru b1 k (by decide) (by decide) (by decide) (by decide)) rfl rfl rfl rfl rfl
    · have r1 := RM_fr b2 (FR_X8_force _ _ _ e1) (fun _ => rfl) (fun _ => rfl) (fun _ => rfl) (fun _ => rfl) (fun _ => rfl) (fun _ => rfl) (fun _ => rfl) (fun _ => rfl) (fun _ => rfl) rfl rfl rfl
      exact RM_put_ru r1 k
    · obtain ⟨k1, k2, k3, k4⟩ := b3
      exact ⟨k1, k2, hk', k4⟩
  · refine ⟨-2, s, s, ?_, ?_, hI⟩
    · unfold X8_force
      rw [a3, c_withinP _ (by omega), decide_eq_false q]
      rfl
    · unfold X9_force
      rw [a4, m_inP _ (by omega), decide_eq_false q]
      rfl
/-- mud between two stones -/
def aMud (A : Ab) (a b v : Nat) : Ab := (A.up 0 (a * 8 + b) v).up 0 (b * 8 + a) v
theorem aMud_ok {A : Ab} {tc a b v : Nat} (ok : AbOK A tc) (ha : a ≤ 7) (hb : b ≤ 7) (hab : a ≠ b) (hv : v ≤ 99) : AbOK (aMud A a b v) tc := by
  obtain ⟨k1, k2, k3, k4, k5, k6, k7⟩ := ok
  have e : ∀ i, (aMud A a b v).mud i = if i = b * 8 + a then v else if i = a * 8 + b then v else A.mud i := fun _ => rfl
  refine ⟨k1, k2, k3, ?_, ?_, ?_, k7⟩
  · intro i
    rw [e]
    split
    · exact hv
    · split
      · exact hv
      · exact k4 i
  · intro c d hc hd
    rw [e, e]
    by_cases g1 : c = b ∧ d = a
    · obtain ⟨rfl, rfl⟩ := g1
      rw [if_pos rfl, if_neg (by omega), if_pos rfl]
    · by_cases g2 : c = a ∧ d = b
      · obtain ⟨rfl, rfl⟩ := g2
        rw [if_neg (by omega), if_pos rfl, if_pos rfl]
      · rw [if_neg (by omega), if_neg (by omega), if_neg (by omega), if_neg (by omega)]
        exact k5 c d hc hd
  · intro c hc
    rw [e, if_neg (by omega), if_neg (by omega)]
    exact k6 c hc
theorem c_putMud {A : Ab} {s : mSG} (h : RS 7 8 9 10 11 A s) {a b v : Nat} (ha : a ≤ 7) (hb : b ≤ 7) (hab : a ≠ b) (hv : v ≤ 99) : ∃ s', X5_putMud_7 (nI a) (nI b) (nI v) s = some (true, s') ∧ RS 7 8 9 10 11 (aMud A a b v) s' := by
  unfold X5_putMud_7
  have e1 : nI a * 8 + nI b = nI (a * 8 + b) := by rw [show (8 : Int32) = nI 8 from rfl, pk_mul, nI_add]
  have e2 : nI b * 8 + nI a = nI (b * 8 + a) := by rw [show (8 : Int32) = nI 8 from rfl, pk_mul, nI_add]
  have q : inR (nI a) 7 ∧ inR (nI b) 7 ∧ ¬ nI a = nI b := ⟨(inR_nI (by omega) (by omega)).mpr ha, (inR_nI (by omega) (by omega)).mpr hb, by rw [nl_eq (by omega) (by omega)]; exact hab⟩
  rw [c_two, decide_eq_true q, if_pos rfl, show X8_isWithin (nI v) 99 = _ from c_within (nI v) 99, decide_eq_true ((inR_nI (show v < 2147483648 by omega) (show 99 < 2147483648 by omega)).mpr hv), if_pos rfl, e1, e2, if_pos (gl_inb (show a * 8 + b < 64 by omega) (by omega)), if_pos (gl_inb (show b * 8 + a < 64 by omega) (by omega)), nl_cl (by omega), nl_cl (by omega)]
  exact ⟨_, rfl, RS_put_mud (RS_put_mud h (a * 8 + b) v (by decide) (by decide) (by decide) (by decide)) (b * 8 + a) v (by decide) (by decide) (by decide) (by decide)⟩
theorem c_putMudN {s : mSG} {x y z : Int32} (q : ¬ ((inR x 7 ∧ inR y 7 ∧ ¬ x = y) ∧ inR z 99)) : X5_putMud_7 x y z s = some (false, s) := by
  unfold X5_putMud_7
  rw [c_two, show X8_isWithin z 99 = _ from c_within z 99]
  by_cases q1 : inR x 7 ∧ inR y 7 ∧ ¬ x = y
  · rw [decide_eq_true q1, if_pos rfl, decide_eq_false (fun g => q ⟨q1, g⟩)]
    rfl
  · rw [decide_eq_false q1]
    rfl
theorem m_muddy {A : Ab} {s : mSG} (h : RM A s) {a b v : Nat} (ha : a ≤ 7) (hb : b ≤ 7) : ∃ s', X9_muddy (nI a) (nI b) (nI v) s = some s' ∧ RM (aMud A a b v) s' := by
  unfold X9_muddy
  rw [e8m, e8m, if_pos (gl_inb (show a * 8 + b < 64 by omega) (by omega)), if_pos (gl_inb (show b * 8 + a < 64 by omega) (by omega)), nl_cl (by omega), nl_cl (by omega)]
  exact ⟨_, rfl, RM_put_mud (RM_put_mud h (a * 8 + b) v) (b * 8 + a) v⟩
theorem m_mudN {s : mSG} {x y z : Int32} (q : ¬ ((inR x 7 ∧ inR y 7 ∧ ¬ x = y) ∧ inR z 99)) : X9_mud x y z s = some (-2, s) := by
  unfold X9_mud
  rw [m_isStone, m_isStone, show X9_in z.toInt64 0 99 = decide (inR z 99) from b_dec (m_inR z 99 99 rfl)]
  by_cases q1 : inR x 7
  · by_cases q2 : inR y 7
    · by_cases q3 : x = y
      · rw [decide_eq_true q1, decide_eq_true q2, if_pos rfl, if_pos rfl, if_pos q3]
      · rw [decide_eq_true q1, decide_eq_true q2, if_pos rfl, if_pos rfl, if_neg q3, decide_eq_false (fun g => q ⟨⟨q1, q2, q3⟩, g⟩)]
        rfl
    · rw [decide_eq_true q1, decide_eq_false q2, if_pos rfl]
      rfl
  · rw [decide_eq_false q1]
    rfl
theorem m_mudY {A : Ab} {s : mSG} (h : RM A s) {a b v : Nat} (ha : a ≤ 7) (hb : b ≤ 7) (hab : a ≠ b) (hv : v ≤ 99) : ∃ s', X9_mud (nI a) (nI b) (nI v) s = some (nI (A.mud (a * 8 + b)), s') ∧ RM (aMud A a b v) s' := by
  unfold X9_mud
  obtain ⟨s', e, r⟩ := m_muddy (v := v) h ha hb
  rw [m_isStone, m_isStone, show X9_in (nI v).toInt64 0 99 = decide (inR (nI v) 99) from b_dec (m_inR (nI v) 99 99 rfl), decide_eq_true ((inR_nI (show a < 2147483648 by omega) (show 7 < 2147483648 by omega)).mpr ha), decide_eq_true ((inR_nI (show b < 2147483648 by omega) (show 7 < 2147483648 by omega)).mpr hb), decide_eq_true ((inR_nI (show v < 2147483648 by omega) (show 99 < 2147483648 by omega)).mpr hv), if_pos rfl, if_pos rfl, if_neg (show ¬ nI a = nI b by rw [nl_eq (by omega) (by omega)]; exact hab), if_pos rfl, e8m, if_pos (gl_inb (show a * 8 + b < 64 by omega) (by omega)), nl_cl (by omega), ob e, h.mud _ (by omega)]
  exact ⟨s', rfl, r⟩
theorem L_mud {t : mTX} {s : mSG} (h : INV t s) (x y z : Int32) : ∃ v s1 s2, X8_mud x y z s = some (v, s1) ∧ X9_mud x y z s1 = some (v, s2) ∧ INV t s2 := by
  have hI := h
  obtain ⟨tc, V, A, hk, K, ts, tp, sk, sn, si, hv⟩ := h
  have hv' := hv
  obtain ⟨⟨a1, a2, a3, a4, a5, a6⟩, ⟨b1, b2, b3⟩, _⟩ := hv'
  by_cases q : (inR x 7 ∧ inR y 7 ∧ ¬ x = y) ∧ inR z 99
  · have hfar := c_far b1 b3 x y
    rw [if_pos q.1] at hfar
    obtain ⟨⟨q1, q2, q3⟩, q4⟩ := q
    obtain ⟨a, ha, rfl⟩ := inR_of q1 (by omega)
    obtain ⟨b, hb, rfl⟩ := inR_of q2 (by omega)
    obtain ⟨v, hv9, rfl⟩ := inR_of q4 (by omega)
    have hab : a ≠ b := fun e => q3 (by rw [e])
    rw [nl_cl (by omega), nl_cl (by omega)] at hfar
    obtain ⟨s1, e1, r1⟩ := c_putMud b1 ha hb hab hv9
    have hm := b3.mud (a * 8 + b)
    have e1' : X8_mud (nI a) (nI b) (nI v) s = some (nI (A.mud (a * 8 + b)), s1) := by
      unfold X8_mud
      rw [ob hfar, if_neg (gl_neN (a := A.mud (a * 8 + b)) (x := -2) (b := 2) rfl (by omega) (by omega) (by omega)), ob e1]
      rfl
    have f1 := FR_X8_mud _ _ _ _ _ e1'
    have m1 := RM_fr b2 f1 (fun _ => rfl) (fun _ => rfl) (fun _ => rfl) (fun _ => rfl) (fun _ => rfl) (fun _ => rfl) (fun _ => rfl) (fun _ => rfl) (fun _ => rfl) rfl rfl rfl
    obtain ⟨s2, e2, r2⟩ := m_mudY m1 ha hb hab hv9
    have f2 := FR_X9_mud _ _ _ _ _ e2
    exact ⟨_, s1, s2, e1', e2, L_now (A' := aMud A a b v) hv f1 f2 rfl rfl (RS_fr r1 f2 (fun _ => rfl) (fun _ => rfl) (fun _ => rfl) (fun _ => rfl) (fun _ => rfl)) r2 (aMud_ok b3 ha hb hab hv9) (Nat.le_refl _) (fun _ _ => rfl)⟩
  · refine ⟨-2, s, s, ?_, m_mudN q, hI⟩
    unfold X8_mud
    rw [ob (c_far b1 b3 x y)]
    by_cases g : inR x 7 ∧ inR y 7 ∧ ¬ x = y
    · rw [if_pos g]
      split
      · rfl
      · rw [ob (c_putMudN q)]
        rfl
    · rw [if_neg g, if_pos rfl]
