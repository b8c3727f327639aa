/-! together -/
def tRn (A : Ab) : Nat := A.rn (A.hr % 24)
def tSay (V : mVT) (A : Ab) (p a b : Nat) : Nat := aSay V A.ru 0 (A.mud (a * 8 + b)) (A.wt p) (A.ld p) (tRn A) a b
def tRe (A : Ab) (p : Nat) : Nat := aReach (A.kd p) (A.nu p) (A.yd p) (A.wt p)
def tE (V : mVT) (A : Ab) (p q a b : Nat) : Bool := decide (A.mud (a * 8 + b) ≠ 0 ∧ A.mud (a * 8 + b) + tSay V A p a b + tSay V A q a b ≤ tRe A p + tRe A q)
theorem tRe_le {A : Ab} {tc p : Nat} (ok : AbOK A tc) (hp : p < A.pp) : tRe A p ≤ 108 := aReach_le (ok.nu p hp) (ok.yd p hp)
/-- two who would go -/
def TG (t : mTX) (tc : Nat) (V : mVT) (A : Ab) (p q w w' : Nat) (s : mSG) : Prop := CT t tc V s ∧ RS 7 8 9 10 11 A s ∧ GO_28 A.ru (A.kd p) (A.nu p) (A.yd p) (A.ld p) w (tRn A) s ∧ GO_31 A.ru (A.kd q) (A.nu q) (A.yd q) (A.ld q) w' (tRn A) s
theorem TG_28 {t : mTX} {tc : Nat} {V : mVT} {A : Ab} {p q w w' : Nat} {s s' : mSG} {W : List (Nat × Option Nat)} (h : TG t tc V A p q w w' s) (f : Fr W s s') (hw : wTx W = true) (h7 : ∀ k, mW W 7 k = false) (h8 : ∀ k, mW W 8 k = false) (h9 : ∀ k, mW W 9 k = false) (h10 : ∀ k, mW W 10 k = false) (h11 : ∀ k, mW W 11 k = false) (h28 : ∀ k, mW W 28 k = false) (h31 : ∀ k, mW W 31 k = false) : TG t tc V A p q w w' s' :=
  ⟨CT_fr h.1 f hw, RS_fr h.2.1 f h7 h8 h9 h10 h11, GO_fr_28 h.2.2.1 f h28, GO_fr_31 h.2.2.2 f h31⟩
section
variable {t : mTX} {tc : Nat} {V : mVT} {A : Ab} {p q : Nat}
theorem c_pool {s : mSG} {x1 x2 : Int32} {S T : Nat → Bool} {a b : Nat} (ok : AbOK A tc) (hp : p < A.pp) (hq : q < A.pp) (hs : bS x1 S) (hx : bS x2 T) (h : TG t tc V A p q (A.wt p) (A.wt q) s) (ha : a < 8) (hb : b < 8) : ∃ x s', X8_pooledFrom_b31 t x1 (nI (tRe A p + tRe A q)) (nI a) x2 (nI b) s = some (.inl (x, nI (b + 1), s')) ∧ bS x (fun i => T i || (decide (i = b) && (S a && tE V A p q a b))) ∧ TG t tc V A p q (A.wt p) (A.wt q) s' := by
  have hm := ok.mud (a * 8 + b)
  have r1 := tRe_le ok hp
  have r2 := tRe_le ok hq
  obtain ⟨c, r, g28, g31⟩ := h
  unfold X8_pooledFrom_b31 X8_pooledFrom_j109_31
  rw [if_neg (gl_le (x := 8) (m := 8) rfl hb (by omega)), ob (c_mudB_7 r ok (by omega) (by omega)), nI_1]
  have no : (S a && tE V A p q a b) = false → bS x2 (fun i => T i || (decide (i = b) && (S a && tE V A p q a b))) := fun e => bS_cg hx (fun i _ => by rw [e, Bool.and_false, Bool.or_false])
  by_cases qs : S a = false
  · rw [if_pos ((bS_get hs ha).mpr qs)]
    exact ⟨x2, s, rfl, no (by rw [qs]; rfl), c, r, g28, g31⟩
  · have qs' : S a = true := by cases hh : S a with
      | true => rfl
      | false => exact absurd hh qs
    rw [if_neg (fun g => qs ((bS_get hs ha).mp g))]
    by_cases qm : A.mud (a * 8 + b) = 0
    · rw [qm, if_pos (by decide)]
      refine ⟨x2, s, rfl, no ?_, c, r, g28, g31⟩
      rw [show tE V A p q a b = false from decide_eq_false (fun g => g.1 qm), Bool.and_false]
    · rw [if_neg (nI_ne0 (by omega) (by omega))]
      obtain ⟨s1, e1⟩ := c_wants_28 c g28 ok.ru a b (A.mud (a * 8 + b))
      have f1 := FR_X0_wants_28 _ _ _ _ _ _ e1
      have tg1 := TG_28 (p := p) (q := q) ⟨c, r, g28, g31⟩ f1 rfl (fun _ => rfl) (fun _ => rfl) (fun _ => rfl) (fun _ => rfl) (fun _ => rfl) (fun _ => rfl) (fun _ => rfl)
      obtain ⟨s2, e2⟩ := c_wants_31 tg1.1 tg1.2.2.2 ok.ru a b (A.mud (a * 8 + b))
      have f2 := FR_X0_wants_31 _ _ _ _ _ _ e2
      have tg2 := TG_28 tg1 f2 rfl (fun _ => rfl) (fun _ => rfl) (fun _ => rfl) (fun _ => rfl) (fun _ => rfl) (fun _ => rfl) (fun _ => rfl)
      rw [ob e1, ob e2]
      have w1 : tSay V A p a b ≤ 99 := aSay_le
      have w2 : tSay V A q a b ≤ 99 := aSay_le
      show ∃ x s', (if nI (tRe A p + tRe A q) < nI (A.mud (a * 8 + b)) + nI (tSay V A p a b) + nI (tSay V A q a b) then some (Sum.inl (x2, nI (b + 1), s2)) else some (Sum.inl (x2 ||| (1 <<< (nI b &&& 31)), nI (b + 1), s2))) = _ ∧ _
      rw [nI_add, nI_add]
      by_cases qr : A.mud (a * 8 + b) + tSay V A p a b + tSay V A q a b ≤ tRe A p + tRe A q
      · rw [if_neg (nI_nlt qr (by omega))]
        refine ⟨_, s2, rfl, ?_, tg2⟩
        refine bS_cg (bS_or hx (bS_one hb)) (fun i _ => ?_)
        rw [qs', show tE V A p q a b = true from decide_eq_true ⟨qm, qr⟩]
        cases T i <;> simp
      · rw [if_pos (nI_lt (by omega) (by omega))]
        refine ⟨x2, s2, rfl, no ?_, tg2⟩
        rw [show tE V A p q a b = false from decide_eq_false (fun g => qr g.2), Bool.and_false]
theorem c_p31 {s : mSG} {x1 x2 : Int32} {S T : Nat → Bool} {a : Nat} (ok : AbOK A tc) (hp : p < A.pp) (hq : q < A.pp) (hs : bS x1 S) (hx : bS x2 T) (h : TG t tc V A p q (A.wt p) (A.wt q) s) (ha : a < 8) : ∃ e, X8_pooledFrom_l31 t x1 (nI (tRe A p + tRe A q)) (nI a) (x2, 0, s) = some e ∧ (bS e.1 (fun i => T i || (S a && tE V A p q a i)) ∧ TG t tc V A p q (A.wt p) (A.wt q) e.2) := by
  unfold X8_pooledFrom_l31
  refine lpN (fun b (v : Int32 × Int32 × mSG) => v.2.1 = nI b ∧ bS v.1 (fun i => T i || (decide (i < b) && (S a && tE V A p q a i))) ∧ TG t tc V A p q (A.wt p) (A.wt q) v.2.2) (fun e : Int32 × mSG => bS e.1 (fun i => T i || (S a && tE V A p q a i)) ∧ TG t tc V A p q (A.wt p) (A.wt q) e.2) 8 (by unfold mFU; omega) ?_ ?_ (k := 0) (by omega) (x := (x2, 0, s)) ⟨rfl, bS_cg hx (fun i _ => by simp), h⟩
  · intro b v hb hv
    obtain ⟨y, z, s1⟩ := v
    obtain ⟨g1, g2, g3⟩ := hv
    have g1 : z = nI b := g1
    subst g1
    obtain ⟨x, s2, e2, b2, t2⟩ := c_pool ok hp hq hs g2 g3 ha hb
    refine ⟨(x, nI (b + 1), s2), e2, rfl, bS_cg b2 (fun i _ => ?_), t2⟩
    by_cases q1 : i = b
    · subst q1
      rw [decide_eq_true (rfl : i = i), decide_eq_false (show ¬ i < i by omega), decide_eq_true (show i < i + 1 by omega)]
      simp
    · rw [decide_eq_false q1]
      by_cases q2 : i < b
      · rw [decide_eq_true q2, decide_eq_true (show i < b + 1 by omega)]
        simp
      · rw [decide_eq_false q2, decide_eq_false (show ¬ i < b + 1 by omega)]
        simp
  · intro v hv
    obtain ⟨y, z, s1⟩ := v
    obtain ⟨g1, g2, g3⟩ := hv
    have g1 : z = nI 8 := g1
    subst g1
    refine ⟨(y, s1), ?_, bS_cg g2 (fun i hi => by rw [decide_eq_true hi]; simp), g3⟩
    show X8_pooledFrom_b31 t x1 (nI (tRe A p + tRe A q)) (nI a) y (nI 8) s1 = _
    unfold X8_pooledFrom_b31
    rw [if_pos (show (8 : Int32) ≤ nI 8 from by decide)]
theorem c_pooled {s : mSG} {x1 : Int32} {S : Nat → Bool} (ok : AbOK A tc) (hp : p < A.pp) (hq : q < A.pp) (hs : bS x1 S) (h : TG t tc V A p q (A.wt p) (A.wt q) s) : ∃ x s', X8_pooledFrom t x1 s = some (x, s') ∧ bS x (fun i => anyB (fun a => S a && tE V A p q a i) 8) ∧ TG t tc V A p q (A.wt p) (A.wt q) s' := by
  unfold X8_pooledFrom
  rw [c_goReach_28 h.2.2.1 (ok.kd p hp) (ok.nu p hp) (ok.yd p hp) (ok.wt p hp), c_goReach_31 h.2.2.2 (ok.kd q hq) (ok.nu q hq) (ok.yd q hq) (ok.wt q hq), nI_add]
  have key : ∃ e, X8_pooledFrom_l21 t x1 (nI (tRe A p + tRe A q)) (0, 0, s) = some e ∧ (bS e.1 (fun i => anyB (fun a => S a && tE V A p q a i) 8) ∧ TG t tc V A p q (A.wt p) (A.wt q) e.2) := by
    unfold X8_pooledFrom_l21
    refine lpN (fun a (v : Int32 × Int32 × mSG) => v.2.1 = nI a ∧ bS v.1 (fun i => anyB (fun a => S a && tE V A p q a i) a) ∧ TG t tc V A p q (A.wt p) (A.wt q) v.2.2) (fun e : Int32 × mSG => bS e.1 (fun i => anyB (fun a => S a && tE V A p q a i) 8) ∧ TG t tc V A p q (A.wt p) (A.wt q) e.2) 8 (by unfold mFU; omega) ?_ ?_ (k := 0) (by omega) (x := (0, 0, s)) ⟨rfl, bS_0, h⟩
    · intro a v ha hv
      obtain ⟨y, z, s1⟩ := v
      obtain ⟨g1, g2, g3⟩ := hv
      have g1 : z = nI a := g1
      subst g1
      have g2 : bS y (fun i => anyB (fun a => S a && tE V A p q a i) a) := g2
      obtain ⟨⟨x, s2⟩, e2, b2, t2⟩ := c_p31 ok hp hq hs g2 g3 ha
      refine ⟨(x, nI (a + 1), s2), ?_, rfl, b2, t2⟩
      show X8_pooledFrom_b21 t x1 (nI (tRe A p + tRe A q)) y (nI a) s1 = _
      unfold X8_pooledFrom_b21
      rw [if_neg (gl_le (x := 8) (m := 8) rfl ha (by omega)), ob e2, nI_1]
    · intro v hv
      obtain ⟨y, z, s1⟩ := v
      obtain ⟨g1, g2, g3⟩ := hv
      have g1 : z = nI 8 := g1
      subst g1
      refine ⟨(y, s1), ?_, g2, g3⟩
      show X8_pooledFrom_b21 t x1 (nI (tRe A p + tRe A q)) y (nI 8) s1 = _
      unfold X8_pooledFrom_b21
      rw [if_pos (show (8 : Int32) ≤ nI 8 from by decide)]
  obtain ⟨⟨x, s'⟩, e, b, g⟩ := key
  have e' : X8_pooledFrom_l21 t x1 (nI (aReach (A.kd p) (A.nu p) (A.yd p) (A.wt p) + aReach (A.kd q) (A.nu q) (A.yd q) (A.wt q))) (0, 0, s) = some (x, s') := e
  rw [ob e']
  exact ⟨x, s', rfl, b, g⟩
end
def oI (o : Option Nat) : Int32 := match o with
  | none => -1
  | some d => nI d
theorem c_l87t {t : mTX} {tc : Nat} {V : mVT} {A : Ab} {p q to : Nat} {s : mSG} (ok : AbOK A tc) (hp : p < A.pp) (hq : q < A.pp) (ht : to < 8) (h : TG t tc V A p q (A.wt p) (A.wt q) s) : ∃ e, X8_together_l87 t (nI to) (1 <<< (nI (A.st p) &&& 31), 0, s) = some e ∧ ∃ s', Sum.elim (fun e0 : Int32 × mSG => some (e0.1, e0.2)) (fun e1 => some ((-1 : Int32), e1)) e = some (oI (tL (tE V A p q) (A.st p) 7 to), s') := by
  have hst := ok.st p hp
  unfold X8_together_l87
  refine lpE (fun d (v : Int32 × Int32 × mSG) => v.2.1 = nI d ∧ bS v.1 (tR (tE V A p q) (A.st p) d) ∧ (∀ k, k < d → tR (tE V A p q) (A.st p) k to = false) ∧ TG t tc V A p q (A.wt p) (A.wt q) v.2.2) (fun e => ∃ s', Sum.elim (fun e0 : Int32 × mSG => some (e0.1, e0.2)) (fun e1 => some ((-1 : Int32), e1)) e = some (oI (tL (tE V A p q) (A.st p) 7 to), s')) 8 (by unfold mFU; omega) ?_ ?_ (k := 0) (by omega) (x := (1 <<< (nI (A.st p) &&& 31), 0, s)) ⟨rfl, bS_one (by omega), fun k hk => absurd hk (Nat.not_lt_zero k), h⟩
  · intro d v hd hv
    obtain ⟨y, z, s1⟩ := v
    obtain ⟨g1, g2, g3, g4⟩ := hv
    have g1 : z = nI d := g1
    subst g1
    have g2 : bS y (tR (tE V A p q) (A.st p) d) := g2
    cases hr : tR (tE V A p q) (A.st p) d to with
    | false =>
      obtain ⟨x, s2, e2, b2, t2⟩ := c_pooled ok hp hq g2 g4
      refine Or.inl ⟨(y ||| x, nI (d + 1), s2), ?_, rfl, bS_or g2 b2, fun k hk => ?_, t2⟩
      · show X8_together_b87 t (nI to) y (nI d) s1 = _
        unfold X8_together_b87
        rw [if_neg (gl_le (x := 8) (m := 8) rfl hd (by omega)), if_pos ((bS_get g2 ht).mpr hr), ob e2, nI_1]
      · by_cases g : k = d
        · subst g; exact hr
        · exact g3 k (by omega)
    | true =>
      refine Or.inr ⟨.inl (nI d, s1), ?_, s1, ?_⟩
      · show X8_together_b87 t (nI to) y (nI d) s1 = _
        unfold X8_together_b87
        rw [if_neg (gl_le (x := 8) (m := 8) rfl hd (by omega)), if_neg (fun g => by have := (bS_get g2 ht).mp g; rw [hr] at this; cases this)]
      · have : tL (tE V A p q) (A.st p) 7 to = some d := by
          obtain ⟨e, he⟩ := tL_of (tR_mono (d := 7) (by omega) hr)
          obtain ⟨w1, w2, w3⟩ := tL_some he
          by_cases g : e = d
          · rw [he, g]
          · exfalso
            by_cases g' : e < d
            · have := g3 e g'
              rw [w2] at this
              cases this
            · have := w3 d (by omega)
              rw [hr] at this
              cases this
        rw [this]
        rfl
  · intro v hv
    obtain ⟨y, z, s1⟩ := v
    obtain ⟨g1, g2, g3, g4⟩ := hv
    have g1 : z = nI 8 := g1
    subst g1
    refine ⟨.inr s1, ?_, s1, ?_⟩
    · show X8_together_b87 t (nI to) y (nI 8) s1 = _
      unfold X8_together_b87
      rw [if_pos (show (8 : Int32) ≤ nI 8 from by decide)]
    · cases hl : tL (tE V A p q) (A.st p) 7 to with
      | none => rfl
      | some e =>
        obtain ⟨w1, w2, w3⟩ := tL_some hl
        have := g3 e (by omega)
        rw [w2] at this
        cases this
/-- the model's row of ways, within a round -/
def WY (f : Nat → Option Nat) (s : mSG) : Prop := ∀ i, i < 8 → s.1 72 i = oI (f i)
def tM (E : Nat → Nat → Bool) (st d : Nat) (P : Nat → Bool) (i : Nat) : Option Nat := match tL E st d i with
  | some e => some e
  | none => if P i = true then some (d + 1) else none
theorem tM_d {E : Nat → Nat → Bool} {st d : Nat} {P : Nat → Bool} {i : Nat} : tM E st d P i = some d ↔ tL E st d i = some d := by
  unfold tM
  cases hl : tL E st d i with
  | some e => exact Iff.rfl
  | none =>
    refine ⟨fun h => ?_, fun h => by cases h⟩
    have h : (if P i = true then some (d + 1) else none) = some d := h
    by_cases q : P i = true
    · rw [if_pos q] at h
      have := Option.some.inj h
      omega
    · rw [if_neg q] at h
      cases h
theorem oI_some {o : Option Nat} {d : Nat} (hd : d < 1000) (ho : ∀ e, o = some e → e < 1000) : (oI o = nI d) = (o = some d) := by
  cases o with
  | none => exact propext ⟨fun h => absurd h.symm (show ¬ nI d = -1 from gl_neN (b := 1) rfl (by omega) (by omega) (by omega)), fun h => by cases h⟩
  | some e =>
    have he := ho e rfl
    show (nI e = nI d) = _
    rw [nl_eq (by omega) (by omega)]
    exact propext ⟨fun h => by rw [h], fun h => Option.some.inj h⟩
theorem oI_none {o : Option Nat} (ho : ∀ e, o = some e → e < 1000) : (oI o = -1) = (o = none) := by
  cases o with
  | none => exact propext ⟨fun _ => rfl, fun _ => rfl⟩
  | some e =>
    have he := ho e rfl
    exact propext ⟨fun h => absurd h (show ¬ nI e = -1 from gl_neN (b := 1) rfl (by omega) (by omega) (by omega)), fun h => by cases h⟩
theorem tM_lt {E : Nat → Nat → Bool} {st d : Nat} {P : Nat → Bool} {i : Nat} (hd : d < 100) : ∀ e, tM E st d P i = some e → e < 1000 := by
  intro e h
  unfold tM at h
  cases hl : tL E st d i with
  | some e' =>
    rw [hl] at h
    have h : some e' = some e := h
    have := (tL_some hl).1
    cases h
    omega
  | none =>
    rw [hl] at h
    have h : (if P i = true then some (d + 1) else none) = some e := h
    by_cases q : P i = true
    · rw [if_pos q] at h; cases h; omega
    · rw [if_neg q] at h; cases h
def MG (t : mTX) (tc : Nat) (V : mVT) (A : Ab) (s : mSG) : Prop := CT t tc V s ∧ MT tc V s ∧ RM A s
theorem MG_fr {t : mTX} {tc : Nat} {V : mVT} {A : Ab} {s s' : mSG} {W : List (Nat × Option Nat)} (h : MG t tc V A s) (f : Fr W s s') (hw : wTx W = true) (h57 : ∀ k, mW W 57 k = false) (h58 : ∀ k, mW W 58 k = false) (h0 : ∀ k, mW W 60 k = false) (h1 : ∀ k, mW W 61 k = false) (h2 : ∀ k, mW W 62 k = false) (h3 : ∀ k, mW W 63 k = false) (h4 : ∀ k, mW W 64 k = false) (h5 : ∀ k, mW W 65 k = false) (h6 : ∀ k, mW W 66 k = false) (h7 : ∀ k, mW W 67 k = false) (h8 : ∀ k, mW W 68 k = false) (hp : mW W 56 15 = false) (hh : mW W 56 16 = false) (hr : mW W 56 4 = false) : MG t tc V A s' :=
  ⟨CT_fr h.1 f hw, MT_fr h.2.1 f h57 h58, RM_fr h.2.2 f h0 h1 h2 h3 h4 h5 h6 h7 h8 hp hh hr⟩
theorem MG_sI {t : mTX} {tc : Nat} {V : mVT} {A : Ab} {s : mSG} {k : Nat} {v : Int32} {a : Nat} (h : MG t tc V A s) (ha : 69 ≤ a) (hb : a < 84) : MG t tc V A (sI s a k v) := by
  have n : ∀ b, b < 69 → (sI s a k v).1 b = s.1 b := fun b hb => by
    funext j
    rw [sI_adr (by omega)]
  obtain ⟨c, m, r⟩ := h
  refine ⟨fun j hj => ?_, fun j hj s2 g1 g2 => m j hj s2 (fun i h1 h2 => (g1 i h1 h2).trans (by rw [n 57 (by omega)])) (g2.trans (by rw [n 58 (by omega)])), ?_⟩
  · have e1 : ∀ x, (sI s a k v).1 (txO j + 1) x = s.1 (txO j + 1) x := fun x => by
      rw [sI_adr (by unfold txO; split <;> omega)]
    have e2 : ∀ x, (sI s a k v).1 (txO j + 2) x = s.1 (txO j + 2) x := fun x => by
      rw [sI_adr (by unfold txO; split <;> omega)]
    obtain ⟨h1, h2, L, h3, h4, h5, h6, h7, h8⟩ := c j hj
    refine ⟨h1, h2, L, h3, ?_, h5, ?_, ?_, ?_⟩
    · rw [e2, e2, e2]; exact h4
    · intro x hx; rw [e1]; exact h6 x hx
    · intro x hx; rw [e1]; exact h7 x hx
    · intro x hx; rw [e1]; exact h8 x hx
  · obtain ⟨k1, k2, k3, k4, k5, k6, k7, k8, k9, k10, k11, k12⟩ := r
    refine ⟨?_, ?_, ?_, ?_, ?_, ?_, ?_, ?_, ?_, ?_, ?_, ?_⟩
    · rw [n 60 (by omega)]; exact k1
    · rw [n 61 (by omega)]; exact k2
    · rw [n 62 (by omega)]; exact k3
    · rw [n 63 (by omega)]; exact k4
    · rw [n 64 (by omega)]; exact k5
    · rw [n 65 (by omega)]; exact k6
    · rw [n 66 (by omega)]; exact k7
    · rw [n 67 (by omega)]; exact k8
    · rw [n 68 (by omega)]; exact k9
    · rw [n 56 (by omega)]; exact k10
    · rw [n 56 (by omega)]; exact k11
    · rw [n 56 (by omega)]; exact k12
section
variable {t : mTX} {tc : Nat} {V : mVT} {A : Ab} {p q : Nat}
theorem m_pool {s : mSG} {P : Nat → Bool} {z : Int32} {d a b : Nat} (ok : AbOK A tc) (hp : p < A.pp) (hq : q < A.pp) (hd : d < 8) (ha : a < 8) (hb : b < 8) (h : MG t tc V A s) (hw : WY (tM (tE V A p q) (A.st p) d P) s) : (tL (tE V A p q) (A.st p) d a = some d → ∃ s', X9_together_b143 (nI p) (nI q) z (nI (tRn A)) (nI (tRe A p + tRe A q)) (nI d) (nI a) (nI b) s = some (.inl (nI (b + 1), s')) ∧ MG t tc V A s' ∧ WY (tM (tE V A p q) (A.st p) d (fun i => P i || (decide (i = b) && tE V A p q a b))) s') ∧ (¬ tL (tE V A p q) (A.st p) d a = some d → X9_together_b143 (nI p) (nI q) z (nI (tRn A)) (nI (tRe A p + tRe A q)) (nI d) (nI a) (nI b) s = some (.inr s)) := by
  have h5 := ok.pp
  have hm := ok.mud (a * 8 + b)
  have r1 := tRe_le ok hp
  have r2 := tRe_le ok hq
  have ea : (s.1 72 a = nI d) = (tL (tE V A p q) (A.st p) d a = some d) := by
    rw [hw a ha, oI_some (by omega) (tM_lt (by omega)), tM_d]
  have same : tE V A p q a b = false → WY (tM (tE V A p q) (A.st p) d (fun i => P i || (decide (i = b) && tE V A p q a b))) s := fun e i hi => by
    rw [hw i hi]
    unfold tM
    rw [e]
    simp
  have head : tL (tE V A p q) (A.st p) d a = some d → X9_together_b143 (nI p) (nI q) z (nI (tRn A)) (nI (tRe A p + tRe A q)) (nI d) (nI a) (nI b) s = (if nI a = nI b then some (.inl (nI (b + 1), s)) else if nI (A.mud (a * 8 + b)) ≤ 0 then some (.inl (nI (b + 1), s)) else if s.1 72 b = -1 then (X9_says 0 (nI p) (nI (A.wt p)) (nI (tRn A)) (nI a) (nI b) s).bind (fun r22 => (X9_says 0 (nI q) (r22.2.1 66 q) (nI (tRn A)) (nI a) (nI b) r22.2).bind (fun r24 => if nI (tRe A p + tRe A q) < nI (A.mud (a * 8 + b)) + r22.1 + r24.1 then some (.inl (nI (b + 1), r24.2)) else some (.inl (nI (b + 1), sI r24.2 72 b (nI (d + 1)))))) else some (.inl (nI (b + 1), s))) := fun hl => by
    unfold X9_together_b143 X9_together_j260_143
    rw [if_neg (gl_le (x := 8) (m := 8) rfl hb (by omega)), if_pos (gl_inb ha (by omega)), nl_cl (show a < 2147483648 by omega), if_pos (ea.mpr hl), e8m, if_pos (gl_inb (show a * 8 + b < 64 by omega) (by omega)), nl_cl (show a * 8 + b < 2147483648 by omega), h.2.2.mud _ (by omega), if_pos (gl_inb hb (by omega)), nl_cl (show b < 2147483648 by omega), if_pos (gl_inb (show p < 5 by omega) (by omega)), nl_cl (show p < 2147483648 by omega), h.2.2.wt p hp, nI_1, nI_1]
    simp only [gl_inb (show q < 5 by omega) (show q < 2147483648 by omega), if_true, nl_cl (show q < 2147483648 by omega)]
  refine ⟨fun hl => ?_, fun hl => ?_⟩
  · rw [head hl]
    by_cases q1 : a = b
    · subst q1
      rw [if_pos rfl]
      exact ⟨s, rfl, h, same (decide_eq_false (fun g => g.1 (ok.dia a ha)))⟩
    · rw [if_neg (show ¬ nI a = nI b from by rw [nl_eq (by omega) (by omega)]; exact q1)]
      by_cases q2 : A.mud (a * 8 + b) = 0
      · rw [q2, if_pos (by decide)]
        exact ⟨s, rfl, h, same (decide_eq_false (fun g => g.1 q2))⟩
      · rw [if_neg (nI_nle (by omega) (by omega))]
        have eb : (s.1 72 b = -1) = (tM (tE V A p q) (A.st p) d P b = none) := by
          rw [hw b hb, oI_none (tM_lt (by omega))]
        by_cases q3 : tM (tE V A p q) (A.st p) d P b = none
        · rw [if_pos (eb.mpr q3)]
          obtain ⟨s1, e1⟩ := m_says h.1 h.2.1 h.2.2 ok (pt := 0) hp (by omega) (A.wt p) (tRn A) (show a ≤ 7 by omega) (show b ≤ 7 by omega)
          rw [if_neg (by decide)] at e1
          have f1 := FR_X9_says _ _ _ _ _ _ _ _ e1
          have h1 := MG_fr h f1 rfl (fun _ => rfl) (fun _ => rfl) (fun _ => rfl) (fun _ => rfl) (fun _ => rfl) (fun _ => rfl) (fun _ => rfl) (fun _ => rfl) (fun _ => rfl) (fun _ => rfl) (fun _ => rfl) rfl rfl rfl
          obtain ⟨s2, e2⟩ := m_says h1.1 h1.2.1 h1.2.2 ok (pt := 0) hq (by omega) (A.wt q) (tRn A) (show a ≤ 7 by omega) (show b ≤ 7 by omega)
          rw [if_neg (by decide)] at e2
          have f2 := FR_X9_says _ _ _ _ _ _ _ _ e2
          have h2 := MG_fr h1 f2 rfl (fun _ => rfl) (fun _ => rfl) (fun _ => rfl) (fun _ => rfl) (fun _ => rfl) (fun _ => rfl) (fun _ => rfl) (fun _ => rfl) (fun _ => rfl) (fun _ => rfl) (fun _ => rfl) rfl rfl rfl
          rw [ob (show X9_says 0 (nI p) (nI (A.wt p)) (nI (tRn A)) (nI a) (nI b) s = _ from e1)]
          show ∃ s', ((X9_says 0 (nI q) (s1.1 66 q) (nI (tRn A)) (nI a) (nI b) s1).bind (fun r24 => if nI (tRe A p + tRe A q) < nI (A.mud (a * 8 + b)) + nI (tSay V A p a b) + r24.1 then some (Sum.inl (nI (b + 1), r24.2)) else some (.inl (nI (b + 1), sI r24.2 72 b (nI (d + 1)))))) = _ ∧ _
          rw [h1.2.2.wt q hq, ob (show X9_says 0 (nI q) (nI (A.wt q)) (nI (tRn A)) (nI a) (nI b) s1 = some (nI (tSay V A q a b), s2) from e2)]
          have w1 : tSay V A p a b ≤ 99 := aSay_le
          have w2 : tSay V A q a b ≤ 99 := aSay_le
          dsimp only
          rw [nI_add, nI_add]
          have hw2 : WY (tM (tE V A p q) (A.st p) d P) s2 := fun i hi => by
            rw [(f2 72 i rfl).1, (f1 72 i rfl).1]
            exact hw i hi
          by_cases q4 : A.mud (a * 8 + b) + tSay V A p a b + tSay V A q a b ≤ tRe A p + tRe A q
          · rw [if_neg (nI_nlt q4 (by omega))]
            refine ⟨_, rfl, MG_sI h2 (by omega) (by omega), fun i hi => ?_⟩
            have te : tE V A p q a b = true := decide_eq_true ⟨q2, q4⟩
            by_cases qi : i = b
            · subst qi
              rw [sI_same]
              unfold tM at q3 ⊢
              cases hl' : tL (tE V A p q) (A.st p) d i with
              | some e => rw [hl'] at q3; cases q3
              | none =>
                rw [te]
                simp [oI]
            · rw [sI_oth qi, hw2 i hi]
              unfold tM
              simp [qi]
          · rw [if_pos (nI_lt (by omega) (by omega))]
            refine ⟨s2, rfl, h2, fun i hi => ?_⟩
            rw [(f2 72 i rfl).1, (f1 72 i rfl).1]
            exact same (decide_eq_false (fun g => q4 g.2)) i hi
        · rw [if_neg (fun g => q3 (eb.mp g))]
          refine ⟨s, rfl, h, fun i hi => ?_⟩
          rw [hw i hi]
          by_cases qi : i = b
          · subst qi
            unfold tM at q3 ⊢
            cases hl' : tL (tE V A p q) (A.st p) d i with
            | some e => rfl
            | none =>
              rw [hl'] at q3
              by_cases qp : P i = true
              · simp [qp]
              · exact absurd (if_neg qp) q3
          · unfold tM
            simp [qi]
  · unfold X9_together_b143
    rw [if_neg (gl_le (x := 8) (m := 8) rfl hb (by omega)), if_pos (gl_inb ha (by omega)), nl_cl (show a < 2147483648 by omega), if_neg (fun g => hl (ea.mp g))]
theorem m_l143 {s : mSG} {P : Nat → Bool} {z : Int32} {d a : Nat} (ok : AbOK A tc) (hp : p < A.pp) (hq : q < A.pp) (hd : d < 8) (ha : a < 8) (h : MG t tc V A s) (hw : WY (tM (tE V A p q) (A.st p) d P) s) : ∃ s', X9_together_l143 (nI p) (nI q) z (nI (tRn A)) (nI (tRe A p + tRe A q)) (nI d) (nI a) (0, s) = some s' ∧ (MG t tc V A s' ∧ WY (tM (tE V A p q) (A.st p) d (fun i => P i || (decide (tL (tE V A p q) (A.st p) d a = some d) && tE V A p q a i))) s') := by
  unfold X9_together_l143
  by_cases hl : tL (tE V A p q) (A.st p) d a = some d
  · refine lpN (fun b (v : Int32 × mSG) => v.1 = nI b ∧ MG t tc V A v.2 ∧ WY (tM (tE V A p q) (A.st p) d (fun i => P i || (decide (i < b) && tE V A p q a i))) v.2) _ 8 (by unfold mFU; omega) ?_ ?_ (k := 0) (by omega) (x := (0, s)) ⟨rfl, h, fun i hi => by rw [hw i hi]; unfold tM; simp⟩
    · intro b v hb hv
      obtain ⟨y, s1⟩ := v
      obtain ⟨g1, g2, g3⟩ := hv
      have g1 : y = nI b := g1
      subst g1
      obtain ⟨s2, e2, m2, w2⟩ := (m_pool (z := z) ok hp hq hd ha hb g2 g3).1 hl
      refine ⟨(nI (b + 1), s2), e2, rfl, m2, fun i hi => ?_⟩
      rw [w2 i hi]
      unfold tM
      by_cases q1 : i = b
      · subst q1
        simp
      · by_cases q2 : i < b
        · simp [q1, q2, show i < b + 1 by omega]
        · simp [q1, q2, show ¬ i < b + 1 by omega]
    · intro v hv
      obtain ⟨y, s1⟩ := v
      obtain ⟨g1, g2, g3⟩ := hv
      have g1 : y = nI 8 := g1
      subst g1
      refine ⟨s1, ?_, g2, fun i hi => ?_⟩
      · show X9_together_b143 (nI p) (nI q) z (nI (tRn A)) (nI (tRe A p + tRe A q)) (nI d) (nI a) (nI 8) s1 = _
        unfold X9_together_b143
        rw [if_pos (show (8 : Int32) ≤ nI 8 from by decide)]
      · rw [show s1.1 72 i = _ from g3 i hi]
        unfold tM
        simp [hi, hl]
  · refine ⟨s, it_r (by unfold mFU; omega) ((m_pool (z := z) (b := 0) ok hp hq hd ha (by omega) h hw).2 hl), h, fun i hi => ?_⟩
    rw [hw i hi]
    unfold tM
    simp [hl]
theorem m_l133 {s : mSG} {z : Int32} {d : Nat} (ok : AbOK A tc) (hp : p < A.pp) (hq : q < A.pp) (hd : d < 8) (h : MG t tc V A s) (hw : WY (tL (tE V A p q) (A.st p) d) s) : ∃ s', X9_together_l133 (nI p) (nI q) z (nI (tRn A)) (nI (tRe A p + tRe A q)) (nI d) (0, s) = some s' ∧ (MG t tc V A s' ∧ WY (tL (tE V A p q) (A.st p) (d + 1)) s') := by
  unfold X9_together_l133
  refine lpN (fun a (v : Int32 × mSG) => v.1 = nI a ∧ MG t tc V A v.2 ∧ WY (tM (tE V A p q) (A.st p) d (fun i => anyB (fun a => decide (tL (tE V A p q) (A.st p) d a = some d) && tE V A p q a i) a)) v.2) _ 8 (by unfold mFU; omega) ?_ ?_ (k := 0) (by omega) (x := (0, s)) ⟨rfl, h, fun i hi => by rw [hw i hi]; unfold tM anyB; cases tL (tE V A p q) (A.st p) d i <;> simp⟩
  · intro a v ha hv
    obtain ⟨y, s1⟩ := v
    obtain ⟨g1, g2, g3⟩ := hv
    have g1 : y = nI a := g1
    subst g1
    obtain ⟨s2, e2, m2, w2⟩ := m_l143 (z := z) ok hp hq hd ha g2 g3
    refine ⟨(nI (a + 1), s2), ?_, rfl, m2, w2⟩
    show X9_together_b133 (nI p) (nI q) z (nI (tRn A)) (nI (tRe A p + tRe A q)) (nI d) (nI a) s1 = _
    unfold X9_together_b133 X9_together_j266_133
    rw [if_neg (gl_le (x := 8) (m := 8) rfl ha (by omega)), ob e2, nI_1]
  · intro v hv
    obtain ⟨y, s1⟩ := v
    obtain ⟨g1, g2, g3⟩ := hv
    have g1 : y = nI 8 := g1
    subst g1
    refine ⟨s1, ?_, g2, fun i hi => ?_⟩
    · show X9_together_b133 (nI p) (nI q) z (nI (tRn A)) (nI (tRe A p + tRe A q)) (nI d) (nI 8) s1 = _
      unfold X9_together_b133
      rw [if_pos (show (8 : Int32) ≤ nI 8 from by decide)]
    · rw [show s1.1 72 i = _ from g3 i hi, tL_s]
      unfold tM
      cases hl : tL (tE V A p q) (A.st p) d i with
      | some e => rfl
      | none =>
        show oI (if _ then _ else _) = oI (if _ then _ else _)
        rw [tL_front hl]
end
