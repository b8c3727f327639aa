/-! shaken -/
def lv (R : Nat → Nat → Bool) : Nat → Nat → Option Nat
  | 0, k => if R 0 k = true then some 0 else none
  | d + 1, k => match lv R d k with
    | some e => some e
    | none => if R (d + 1) k = true then some (d + 1) else none
theorem lv_s (R : Nat → Nat → Bool) (d k : Nat) : lv R (d + 1) k = match lv R d k with
    | some e => some e
    | none => if R (d + 1) k = true then some (d + 1) else none := rfl
theorem lv_none {R : Nat → Nat → Bool} {k : Nat} : ∀ {d : Nat}, lv R d k = none → ∀ e, e ≤ d → R e k = false
  | 0, h, e, he => by
    have h : (if R 0 k = true then some 0 else none) = none := h
    rw [show e = 0 by omega]
    by_cases q : R 0 k = true
    · rw [if_pos q] at h; cases h
    · exact Bool.eq_false_iff.mpr q
  | d + 1, h, e, he => by
    rw [lv_s] at h
    cases hl : lv R d k with
    | some e' => rw [hl] at h; cases h
    | none =>
      rw [hl] at h
      have h : (if R (d + 1) k = true then some (d + 1) else none) = none := h
      by_cases q : e = d + 1
      · rw [q]
        by_cases q : R (d + 1) k = true
        · rw [if_pos q] at h; cases h
        · exact Bool.eq_false_iff.mpr q
      · exact lv_none hl e (by omega)
theorem lv_some {R : Nat → Nat → Bool} {k : Nat} : ∀ {d e : Nat}, lv R d k = some e → e ≤ d ∧ R e k = true ∧ ∀ j, j < e → R j k = false
  | 0, e, h => by
    have h : (if R 0 k = true then some 0 else none) = some e := h
    by_cases q : R 0 k = true
    · rw [if_pos q] at h
      cases h
      exact ⟨Nat.le_refl _, q, fun j hj => absurd hj (Nat.not_lt_zero j)⟩
    · rw [if_neg q] at h; cases h
  | d + 1, e, h => by
    rw [lv_s] at h
    cases hl : lv R d k with
    | some e' =>
      rw [hl] at h
      have h : some e' = some e := h
      cases h
      obtain ⟨h1, h2⟩ := lv_some hl
      exact ⟨by omega, h2⟩
    | none =>
      rw [hl] at h
      have h : (if R (d + 1) k = true then some (d + 1) else none) = some e := h
      by_cases q : R (d + 1) k = true
      · rw [if_pos q] at h
        cases h
        exact ⟨Nat.le_refl _, q, fun j hj => lv_none hl j (by omega)⟩
      · rw [if_neg q] at h; cases h
/-- who can go where behind d ways -/
def wtD (A : Ab) (p d : Nat) : Nat := aWet (A.kd p) (tRn A) (A.wt p) d
theorem wtD_le {A : Ab} {tc p : Nat} (ok : AbOK A tc) (hp : p < A.pp) (d : Nat) : wtD A p d ≤ 9 := aWet_le (ok.wt p hp) d
def gW (V : mVT) (A : Ab) (p w a b : Nat) : Bool := decide (aHrs V A.ru (A.kd p) (A.nu p) (A.yd p) (A.ld p) w (tRn A) a b (A.mud (a * 8 + b)) ≠ 0)
def shS (V : mVT) (A : Ab) (p : Nat) : Nat → Nat → Bool
  | 0, i => decide (i = A.st p)
  | d + 1, i => anyB (fun a => shS V A p d a && gW V A p (wtD A p d) a i) 8
/-- the second stays behind on a way from a -/
def shX (V : mVT) (A : Ab) (p q d a : Nat) : Bool := anyB (fun b => gW V A p (wtD A p d) a b && !(gW V A q (wtD A q d) a b)) 8
def shB (V : mVT) (A : Ab) (p q d : Nat) : Bool := anyB (fun a => shS V A p d a && shX V A p q d a) 8
def shR (V : mVT) (A : Ab) (p q : Nat) : Nat → Nat → Int32
  | 0, _ => -1
  | m + 1, d => if shB V A p q d = true then nI (d + 1) else shR V A p q m (d + 1)
section
variable {t : mTX} {tc : Nat} {V : mVT} {A : Ab} {p q : Nat}
theorem c_f13 {s : mSG} {x1 x2 : Int32} {S T : Nat → Bool} {d a : Nat} (ok : AbOK A tc) (hp : p < A.pp) (hq : q < A.pp) (hs : bS x1 S) (hx : bS x2 T) (h : TG t tc V A p q (wtD A p d) (wtD A q d) s) (ha : a < 8) : ∃ e, X8_followedFrom_l13 t x1 (nI a) (x2, 0, s) = some e ∧ ((∃ s', e = .inl s' ∧ (S a && shX V A p q d a) = true) ∨ (∃ x s', e = .inr (x, s') ∧ (S a && shX V A p q d a) = false ∧ bS x (fun i => T i || (S a && gW V A p (wtD A p d) a i)) ∧ TG t tc V A p q (wtD A p d) (wtD A q d) s')) := by
  unfold X8_followedFrom_l13
  have wp := wtD_le ok hp d
  have wq := wtD_le ok hq d
  refine lpE (fun b (v : Int32 × Int32 × mSG) => v.2.1 = nI b ∧ bS v.1 (fun i => T i || (decide (i < b) && (S a && gW V A p (wtD A p d) a i))) ∧ (S a = true → ∀ j, j < b → (gW V A p (wtD A p d) a j && !(gW V A q (wtD A q d) a j)) = false) ∧ TG t tc V A p q (wtD A p d) (wtD A q d) v.2.2) (fun e : mSG ⊕ Int32 × mSG => (∃ s', e = .inl s' ∧ (S a && shX V A p q d a) = true) ∨ (∃ x s', e = .inr (x, s') ∧ (S a && shX V A p q d a) = false ∧ bS x (fun i => T i || (S a && gW V A p (wtD A p d) a i)) ∧ TG t tc V A p q (wtD A p d) (wtD A q d) s')) 8 (by unfold mFU; omega) ?_ ?_ (k := 0) (by omega) (x := (x2, 0, s)) ⟨rfl, bS_cg hx (fun i _ => by simp), fun _ j hj => absurd hj (Nat.not_lt_zero j), h⟩
  · intro b v hb hv
    obtain ⟨y, z, s1⟩ := v
    obtain ⟨g1, g2, g3, g4⟩ := hv
    have g1 : z = nI b := g1
    subst g1
    have g2 : bS y (fun i => T i || (decide (i < b) && (S a && gW V A p (wtD A p d) a i))) := g2
    have g4 : TG t tc V A p q (wtD A p d) (wtD A q d) s1 := g4
    have no : (S a && gW V A p (wtD A p d) a b) = false → bS y (fun i => T i || (decide (i < b + 1) && (S a && gW V A p (wtD A p d) a i))) := fun e => bS_cg g2 (fun i _ => by
      by_cases q1 : i = b
      · subst q1
        rw [e]
        simp
      · by_cases q2 : i < b
        · simp [q2, show i < b + 1 by omega]
        · simp [q2, show ¬ i < b + 1 by omega])
    have head : ∀ o, (if ((y, (0 : Int32)).2 = 0) ∧ S a = false then some (.inl (y, nI (b + 1), s1)) else (X0_crosses_28 t (nI a) (nI b) (nI (A.mud (a * 8 + b))) s1).bind (fun r5 => if r5.1 = true then (X0_crosses_31 t (nI a) (nI b) (nI (A.mud (a * 8 + b))) r5.2).bind (fun r6 => if r6.1 = true then some (.inl (y ||| (1 <<< (nI b &&& 31)), nI (b + 1), r6.2)) else some (.inr (.inl r6.2))) else some (.inl (y, nI (b + 1), r5.2)))) = o → X8_followedFrom_b13 t x1 (nI a) y (nI b) s1 = o := by
      intro o ho
      rw [← ho]
      unfold X8_followedFrom_b13 X8_followedFrom_j82_13
      rw [if_neg (gl_le (x := 8) (m := 8) rfl hb (by omega)), ob (c_mudB_7 g4.2.1 ok (by omega) (by omega)), nI_1]
      by_cases qs : S a = false
      · rw [if_pos ((bS_get hs ha).mpr qs), if_pos ⟨rfl, qs⟩]
      · rw [if_neg (fun g => qs ((bS_get hs ha).mp g)), if_neg (fun g => qs g.2)]
    cases qs : S a with
    | false =>
      refine Or.inl ⟨(y, nI (b + 1), s1), head _ (by rw [if_pos ⟨rfl, qs⟩]), rfl, ?_, fun g => (by cases g), g4⟩
      have := no (by rw [qs]; rfl)
      rw [qs] at this
      exact this
    | true =>
      obtain ⟨s2, e2⟩ := c_crosses_28 g4.1 g4.2.2.1 ok.ru (ok.kd p hp) (ok.nu p hp) (ok.yd p hp) wp (ok.ld p hp) a b (ok.mud (a * 8 + b))
      have e2 : X0_crosses_28 t (nI a) (nI b) (nI (A.mud (a * 8 + b))) s1 = some (gW V A p (wtD A p d) a b, s2) := e2
      have f2 := FR_X0_crosses_28 _ _ _ _ _ _ e2
      have tg2 := TG_28 g4 f2 rfl (fun _ => rfl) (fun _ => rfl) (fun _ => rfl) (fun _ => rfl) (fun _ => rfl) (fun _ => rfl) (fun _ => rfl)
      have hd2 : ∀ o, (if gW V A p (wtD A p d) a b = true then (X0_crosses_31 t (nI a) (nI b) (nI (A.mud (a * 8 + b))) s2).bind (fun r6 => if r6.1 = true then some (.inl (y ||| (1 <<< (nI b &&& 31)), nI (b + 1), r6.2)) else some (.inr (.inl r6.2))) else some (.inl (y, nI (b + 1), s2))) = o → X8_followedFrom_b13 t x1 (nI a) y (nI b) s1 = o := by
        intro o ho
        refine head o ?_
        rw [if_neg (fun g => by have := g.2; rw [qs] at this; cases this), ob e2]
        exact ho
      cases qg : gW V A p (wtD A p d) a b with
      | false =>
        refine Or.inl ⟨(y, nI (b + 1), s2), hd2 _ (by rw [qg, if_neg (by decide)]), rfl, by have := no (by rw [qg, Bool.and_false]); rw [qs] at this; exact this, fun _ j hj => ?_, tg2⟩
        by_cases qj : j = b
        · rw [qj, qg]; rfl
        · exact g3 qs j (by omega)
      | true =>
        obtain ⟨s3, e3⟩ := c_crosses_31 tg2.1 tg2.2.2.2 ok.ru (ok.kd q hq) (ok.nu q hq) (ok.yd q hq) wq (ok.ld q hq) a b (ok.mud (a * 8 + b))
        have e3 : X0_crosses_31 t (nI a) (nI b) (nI (A.mud (a * 8 + b))) s2 = some (gW V A q (wtD A q d) a b, s3) := e3
        have f3 := FR_X0_crosses_31 _ _ _ _ _ _ e3
        have tg3 := TG_28 tg2 f3 rfl (fun _ => rfl) (fun _ => rfl) (fun _ => rfl) (fun _ => rfl) (fun _ => rfl) (fun _ => rfl) (fun _ => rfl)
        cases qh : gW V A q (wtD A q d) a b with
        | true =>
          refine Or.inl ⟨(y ||| (1 <<< (nI b &&& 31)), nI (b + 1), s3), hd2 _ ?_, rfl, ?_, fun _ j hj => ?_, tg3⟩
          · rw [qg, if_pos rfl, ob e3, qh]
            rfl
          · refine bS_cg (bS_or g2 (bS_one hb)) (fun i _ => ?_)
            rw [qs]
            by_cases q1 : i = b
            · subst q1
              rw [qg]
              simp
            · by_cases q2 : i < b
              · simp [q1, q2, show i < b + 1 by omega]
              · simp [q1, q2, show ¬ i < b + 1 by omega]
          · by_cases qj : j = b
            · rw [qj, qg, qh]; rfl
            · exact g3 qs j (by omega)
        | false =>
          refine Or.inr ⟨.inl s3, hd2 _ ?_, Or.inl ⟨s3, rfl, ?_⟩⟩
          · rw [qg, if_pos rfl, ob e3, qh]
            rfl
          · rw [Bool.true_and]
            exact (anyB_iff 8).mpr ⟨b, hb, by rw [qg, qh]; rfl⟩
  · intro v hv
    obtain ⟨y, z, s1⟩ := v
    obtain ⟨g1, g2, g3, g4⟩ := hv
    have g1 : z = nI 8 := g1
    subst g1
    refine ⟨.inr (y, s1), ?_, Or.inr ⟨y, s1, rfl, ?_, bS_cg g2 (fun i hi => by simp [hi]), g4⟩⟩
    · show X8_followedFrom_b13 t x1 (nI a) y (nI 8) s1 = _
      unfold X8_followedFrom_b13
      rw [if_pos (show (8 : Int32) ≤ nI 8 from by decide)]
    · cases qs : S a with
      | false => rfl
      | true =>
        rw [Bool.true_and]
        cases hx' : shX V A p q d a with
        | false => rfl
        | true =>
          obtain ⟨b, hb, hb'⟩ := (anyB_iff 8).mp hx'
          rw [g3 qs b hb] at hb'
          cases hb'
theorem c_followed {s : mSG} {x1 : Int32} {d : Nat} (ok : AbOK A tc) (hp : p < A.pp) (hq : q < A.pp) (hs : bS x1 (shS V A p d)) (h : TG t tc V A p q (wtD A p d) (wtD A q d) s) : ∃ x s', X8_followedFrom t x1 s = some (x, s') ∧ ((shB V A p q d = true ∧ x = -1) ∨ (shB V A p q d = false ∧ bS x (shS V A p (d + 1)) ∧ TG t tc V A p q (wtD A p d) (wtD A q d) s')) := by
  have key : ∃ e, X8_followedFrom_l4 t x1 (0, 0, s) = some e ∧ ((∃ s', e = .inl s' ∧ shB V A p q d = true) ∨ (∃ x s', e = .inr (x, s') ∧ shB V A p q d = false ∧ bS x (shS V A p (d + 1)) ∧ TG t tc V A p q (wtD A p d) (wtD A q d) s')) := by
    unfold X8_followedFrom_l4
    refine lpE (fun a (v : Int32 × Int32 × mSG) => v.2.1 = nI a ∧ bS v.1 (fun i => anyB (fun a => shS V A p d a && gW V A p (wtD A p d) a i) a) ∧ (∀ j, j < a → (shS V A p d j && shX V A p q d j) = false) ∧ TG t tc V A p q (wtD A p d) (wtD A q d) v.2.2) (fun e : mSG ⊕ Int32 × mSG => (∃ s', e = .inl s' ∧ shB V A p q d = true) ∨ (∃ x s', e = .inr (x, s') ∧ shB V A p q d = false ∧ bS x (shS V A p (d + 1)) ∧ TG t tc V A p q (wtD A p d) (wtD A q d) s')) 8 (by unfold mFU; omega) ?_ ?_ (k := 0) (by omega) (x := (0, 0, s)) ⟨rfl, bS_0, fun j hj => absurd hj (Nat.not_lt_zero j), h⟩
    · intro a v ha hv
      obtain ⟨y, z, s1⟩ := v
      obtain ⟨g1, g2, g3, g4⟩ := hv
      have g1 : z = nI a := g1
      subst g1
      obtain ⟨e, he, hq'⟩ := c_f13 ok hp hq hs g2 g4 ha
      have hd : ∀ o, Sum.elim (fun e13_0 => some (.inr (.inl e13_0))) (fun e13_1 : Int32 × mSG => some (.inl (e13_1.1, nI (a + 1), e13_1.2))) e = o → X8_followedFrom_b4 t x1 y (nI a) s1 = o := by
        intro o ho
        unfold X8_followedFrom_b4
        rw [if_neg (gl_le (x := 8) (m := 8) rfl ha (by omega)), ob he, nI_1]
        exact ho
      rcases hq' with ⟨s', rfl, hb⟩ | ⟨x, s', rfl, hb, b2, t2⟩
      · exact Or.inr ⟨.inl s', hd _ rfl, Or.inl ⟨s', rfl, (anyB_iff 8).mpr ⟨a, ha, hb⟩⟩⟩
      · refine Or.inl ⟨(x, nI (a + 1), s'), hd _ rfl, rfl, b2, fun j hj => ?_, t2⟩
        by_cases qj : j = a
        · rw [qj]; exact hb
        · exact g3 j (by omega)
    · intro v hv
      obtain ⟨y, z, s1⟩ := v
      obtain ⟨g1, g2, g3, g4⟩ := hv
      have g1 : z = nI 8 := g1
      subst g1
      refine ⟨.inr (y, s1), ?_, Or.inr ⟨y, s1, rfl, ?_, g2, g4⟩⟩
      · show X8_followedFrom_b4 t x1 y (nI 8) s1 = _
        unfold X8_followedFrom_b4
        rw [if_pos (show (8 : Int32) ≤ nI 8 from by decide)]
      · cases hx' : shB V A p q d with
        | false => rfl
        | true =>
          obtain ⟨b, hb, hb'⟩ := (anyB_iff 8).mp hx'
          rw [g3 b hb] at hb'
          cases hb'
  unfold X8_followedFrom
  obtain ⟨e, he, hq'⟩ := key
  rw [ob he]
  rcases hq' with ⟨s', rfl, hb⟩ | ⟨x, s', rfl, hb, b2, t2⟩
  · exact ⟨-1, s', rfl, Or.inl ⟨hb, rfl⟩⟩
  · exact ⟨x, s', rfl, Or.inr ⟨hb, b2, t2⟩⟩
theorem c_shakenL (ok : AbOK A tc) (hp : p < A.pp) (hq : q < A.pp) : ∀ (m d N : Nat) (x : Int32) (s : mSG), d + m = 8 → m < N → bS x (shS V A p d) → TG t tc V A p q (wtD A p d) (wtD A q d) s → ∃ e, iter (fun v : Int32 × Int32 × mSG => X8_shaken_b79 t v.1 v.2.1 v.2.2) N (x, nI (d + 1), s) = some e ∧ ∃ s', Sum.elim (fun e0 : Int32 × mSG => some (e0.1, e0.2)) (fun e1 => some ((-1 : Int32), e1)) e = some (shR V A p q m d, s') := by
  intro m
  induction m with
  | zero =>
    intro d N x s hd hN hs h
    refine ⟨.inr s, it_r (by omega) ?_, s, rfl⟩
    show X8_shaken_b79 t x (nI (d + 1)) s = _
    unfold X8_shaken_b79
    rw [if_pos (show (8 : Int32) < nI (d + 1) from nI_lt (a := 8) (by omega) (by omega))]
  | succ m ih =>
    intro d N x s hd hN hs h
    obtain ⟨y, s1, e1, hc⟩ := c_followed ok hp hq hs h
    have hd2 : ∀ o, (if y = -1 then some (.inr (.inl (nI (d + 1), s1))) else (X0_soak_28 s1).bind (fun r10 => (X0_soak_31 r10).bind (fun r11 => some (.inl (y, nI (d + 1 + 1), r11))))) = o → X8_shaken_b79 t x (nI (d + 1)) s = o := by
      intro o ho
      unfold X8_shaken_b79
      rw [if_neg (show ¬ (8 : Int32) < nI (d + 1) from nI_nlt (a := 8) (by omega) (by omega)), ob e1, nI_1]
      exact ho
    rcases hc with ⟨hb, hy⟩ | ⟨hb, b2, t2⟩
    · refine ⟨.inl (nI (d + 1), s1), it_r (by omega) (hd2 _ (by rw [if_pos hy])), s1, ?_⟩
      show some (nI (d + 1), s1) = some ((if shB V A p q d = true then nI (d + 1) else shR V A p q m (d + 1)), s1)
      rw [if_pos hb]
    · obtain ⟨c, r, g28, g31⟩ := t2
      obtain ⟨s2, e2, g2⟩ := c_soak_28 g28 (ok.kd p hp) (wtD_le ok hp d) (ok.rn _)
      have f2 := FR_X0_soak_28 _ _ e2
      obtain ⟨s3, e3, g3⟩ := c_soak_31 (GO_fr_31 g31 f2 (fun _ => rfl)) (ok.kd q hq) (wtD_le ok hq d) (ok.rn _)
      have f3 := FR_X0_soak_31 _ _ e3
      have tg3 : TG t tc V A p q (wtD A p (d + 1)) (wtD A q (d + 1)) s3 := ⟨CT_fr (CT_fr c f2 rfl) f3 rfl, RS_fr (RS_fr r f2 (fun _ => rfl) (fun _ => rfl) (fun _ => rfl) (fun _ => rfl) (fun _ => rfl)) f3 (fun _ => rfl) (fun _ => rfl) (fun _ => rfl) (fun _ => rfl) (fun _ => rfl), GO_fr_28 g2 f3 (fun _ => rfl), g3⟩
      obtain ⟨e, he, s', hs'⟩ := ih (d + 1) (N - 1) y s3 (by omega) (by omega) b2 tg3
      refine ⟨e, ?_, s', ?_⟩
      · rw [it_l (by omega) (y := (y, nI (d + 1 + 1), s3)) (hd2 _ (by rw [if_neg (bS_m1 b2), ob e2, ob e3]))]
        exact he
      · rw [hs']
        show _ = some ((if shB V A p q d = true then nI (d + 1) else shR V A p q m (d + 1)), s')
        rw [if_neg (by rw [hb]; decide)]
end
