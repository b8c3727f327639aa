/-! SETS OF STONES AS BITS -/
theorem sm8 {i : Nat} (hi : i < 8) : ((nI i &&& 31).toBitVec.smod 32).toNat = i := by
  have hc : i = 0 ∨ i = 1 ∨ i = 2 ∨ i = 3 ∨ i = 4 ∨ i = 5 ∨ i = 6 ∨ i = 7 := by omega
  rcases hc with rfl | rfl | rfl | rfl | rfl | rfl | rfl | rfl <;> decide
theorem p28 {i : Nat} (hi : i < 8) : 2 ^ i < 256 := by
  have hc : i = 0 ∨ i = 1 ∨ i = 2 ∨ i = 3 ∨ i = 4 ∨ i = 5 ∨ i = 6 ∨ i = 7 := by omega
  rcases hc with rfl | rfl | rfl | rfl | rfl | rfl | rfl | rfl <;> decide
theorem or_nI {m k : Nat} (hm : m < 256) (hk : k < 256) : nI m ||| nI k = nI (m ||| k) := by
  have h : m ||| k < 256 := Nat.or_lt_two_pow (n := 8) hm hk
  apply Int32.toBitVec_inj.mp
  apply BitVec.eq_of_toNat_eq
  rw [Int32.toBitVec_or, BitVec.toNat_or, pk_tn (by omega), pk_tn (by omega), pk_tn (by omega)]
def bS (x : Int32) (S : Nat → Bool) : Prop := ∃ m, m < 256 ∧ x = nI m ∧ ∀ i, i < 8 → m.testBit i = S i
theorem bS_get {x : Int32} {S : Nat → Bool} (h : bS x S) {i : Nat} (hi : i < 8) : (((x >>> (nI i &&& 31)) &&& 1) = 0) = (S i = false) := by
  obtain ⟨m, hm, rfl, ht⟩ := h
  rw [pk_shrN (by omega) _ i (sm8 hi)]
  have hd : m / 2 ^ i ≤ m := Nat.div_le_self _ _
  have ht' := ht i hi
  rw [Nat.testBit_eq_decide_div_mod_eq] at ht'
  generalize m / 2 ^ i = q at hd ht'
  rw [pk_andN (by omega) 1 (by decide), ← ht']
  show (nI (q % 2) = nI 0) = _
  rw [nl_eq (by omega) (by omega)]
  refine propext ⟨fun g => decide_eq_false (by omega), fun g => ?_⟩
  have := of_decide_eq_false g
  omega
theorem bS_cg {x : Int32} {S T : Nat → Bool} (h : bS x S) (e : ∀ i, i < 8 → S i = T i) : bS x T := by
  obtain ⟨m, hm, rfl, ht⟩ := h
  exact ⟨m, hm, rfl, fun i hi => (ht i hi).trans (e i hi)⟩
theorem bS_or {x y : Int32} {S T : Nat → Bool} (h : bS x S) (h' : bS y T) : bS (x ||| y) (fun i => S i || T i) := by
  obtain ⟨m, hm, rfl, ht⟩ := h
  obtain ⟨k, hk, rfl, hu⟩ := h'
  exact ⟨m ||| k, Nat.or_lt_two_pow (n := 8) hm hk, or_nI hm hk, fun i hi => by rw [Nat.testBit_or, ht i hi, hu i hi]⟩
theorem bS_one {b : Nat} (hb : b < 8) : bS (1 <<< (nI b &&& 31)) (fun i => decide (i = b)) := by
  refine ⟨2 ^ b, p28 hb, ?_, fun i hi => ?_⟩
  · have h := p28 hb
    have e := pk_shlN (n := 1) (nI b &&& 31) b (sm8 hb) (by omega)
    rw [Nat.one_mul] at e
    exact e
  · rw [Nat.testBit_two_pow]
    exact decide_eq_decide.mpr eq_comm
theorem bS_0 : bS 0 (fun _ => false) := ⟨0, by omega, rfl, fun i _ => Nat.zero_testBit i⟩
theorem bS_m1 {x : Int32} {S : Nat → Bool} (h : bS x S) : ¬ x = -1 := by
  obtain ⟨m, hm, rfl, ht⟩ := h
  exact gl_neN (b := 1) rfl (by omega) (by omega) (by omega)
def anyB (f : Nat → Bool) : Nat → Bool
  | 0 => false
  | n + 1 => anyB f n || f n
theorem anyB_iff {f : Nat → Bool} : ∀ n, anyB f n = true ↔ ∃ a, a < n ∧ f a = true
  | 0 => ⟨fun h => (by cases h), fun ⟨a, h, _⟩ => absurd h (Nat.not_lt_zero a)⟩
  | n + 1 => by
    show (anyB f n || f n) = true ↔ _
    rw [Bool.or_eq_true, anyB_iff n]
    constructor
    · rintro (⟨a, h1, h2⟩ | h)
      · exact ⟨a, by omega, h2⟩
      · exact ⟨n, by omega, h⟩
    · rintro ⟨a, h1, h2⟩
      by_cases q : a = n
      · subst q; exact Or.inr h2
      · exact Or.inl ⟨a, by omega, h2⟩
theorem anyB_cg {f g : Nat → Bool} : ∀ n, (∀ a, a < n → f a = g a) → anyB f n = anyB g n
  | 0, _ => rfl
  | n + 1, h => by
    show (anyB f n || f n) = (anyB g n || g n)
    rw [anyB_cg n (fun a ha => h a (by omega)), h n (by omega)]
/-! WAVES -/
def tR (E : Nat → Nat → Bool) (st : Nat) : Nat → Nat → Bool
  | 0, i => decide (i = st)
  | d + 1, i => tR E st d i || anyB (fun a => tR E st d a && E a i) 8
def tL (E : Nat → Nat → Bool) (st : Nat) : Nat → Nat → Option Nat
  | 0, i => if i = st then some 0 else none
  | d + 1, i => match tL E st d i with
    | some e => some e
    | none => if tR E st (d + 1) i = true then some (d + 1) else none
section
variable {E : Nat → Nat → Bool} {st : Nat}
theorem tR_s (d i : Nat) (h : tR E st d i = true) : tR E st (d + 1) i = true := by
  show (tR E st d i || anyB (fun a => tR E st d a && E a i) 8) = true
  rw [h]
  rfl
theorem tR_mono {e d i : Nat} (hd : e ≤ d) (h : tR E st e i = true) : tR E st d i = true := by
  induction d with
  | zero => rw [show e = 0 by omega] at h; exact h
  | succ d ih =>
    by_cases q : e = d + 1
    · rw [← q]; exact h
    · exact tR_s d i (ih (by omega))
theorem tL_s (d i : Nat) : tL E st (d + 1) i = match tL E st d i with
    | some e => some e
    | none => if tR E st (d + 1) i = true then some (d + 1) else none := rfl
theorem tL_none' {d i : Nat} (h : tL E st d i = none) : tR E st d i = false := by
  cases hr : tR E st d i with
  | false => rfl
  | true =>
    exfalso
    induction d with
    | zero =>
      have h : (if i = st then some 0 else none) = none := h
      have hr : decide (i = st) = true := hr
      rw [if_pos (of_decide_eq_true hr)] at h
      cases h
    | succ d ih =>
      rw [tL_s] at h
      cases hl : tL E st d i with
      | some e' => rw [hl] at h; cases h
      | none =>
        rw [hl] at h
        have h : (if tR E st (d + 1) i = true then some (d + 1) else none) = none := h
        rw [if_pos hr] at h
        cases h
theorem tL_some {i : Nat} : ∀ {d e : Nat}, tL E st d i = some e → e ≤ d ∧ tR E st e i = true ∧ ∀ k, k < e → tR E st k i = false
  | 0, e, h => by
    have h : (if i = st then some 0 else none) = some e := h
    by_cases q : i = st
    · rw [if_pos q] at h
      cases h
      exact ⟨Nat.le_refl _, decide_eq_true q, fun k hk => absurd hk (Nat.not_lt_zero k)⟩
    · rw [if_neg q] at h
      cases h
  | d + 1, e, h => by
    rw [tL_s] at h
    cases hl : tL E st d i with
    | some e' =>
      rw [hl] at h
      have h : some e' = some e := h
      cases h
      obtain ⟨h1, h2⟩ := tL_some hl
      exact ⟨by omega, h2⟩
    | none =>
      rw [hl] at h
      have h : (if tR E st (d + 1) i = true then some (d + 1) else none) = some e := h
      by_cases q : tR E st (d + 1) i = true
      · rw [if_pos q] at h
        cases h
        refine ⟨Nat.le_refl _, q, fun k hk => ?_⟩
        cases hk' : tR E st k i with
        | false => rfl
        | true =>
          exfalso
          have : tR E st d i = true := tR_mono (by omega) hk'
          have h0 := tL_none' hl
          rw [this] at h0
          cases h0
      · rw [if_neg q] at h
        cases h
theorem tL_of {d i : Nat} (h : tR E st d i = true) : ∃ e, tL E st d i = some e := by
  cases hl : tL E st d i with
  | some e => exact ⟨e, rfl⟩
  | none => rw [tL_none' hl] at h; cases h
/-- a new stone is next to one that was new just before -/
theorem tL_front {d i : Nat} (h : tL E st d i = none) : tR E st (d + 1) i = anyB (fun a => decide (tL E st d a = some d) && E a i) 8 := by
  have h0 := tL_none' h
  have e1 : tR E st (d + 1) i = anyB (fun a => tR E st d a && E a i) 8 := by
    show (tR E st d i || anyB (fun a => tR E st d a && E a i) 8) = _
    rw [h0]
    rfl
  rw [e1]
  refine anyB_cg 8 (fun a ha => ?_)
  cases hE : E a i with
  | false => rw [Bool.and_false, Bool.and_false]
  | true =>
    rw [Bool.and_true, Bool.and_true]
    cases hr : tR E st d a with
    | false =>
      refine (decide_eq_false (fun q => ?_)).symm
      have := (tL_some q).2.1
      rw [hr] at this
      cases this
    | true =>
      obtain ⟨e, he⟩ := tL_of hr
      obtain ⟨g1, g2, g3⟩ := tL_some he
      refine (decide_eq_true ?_).symm
      by_cases q : e = d
      · rw [he, q]
      · exfalso
        have : tR E st (e + 1) i = true := by
          show (tR E st e i || anyB (fun a => tR E st e a && E a i) 8) = true
          rw [Bool.or_eq_true]
          refine Or.inr ((anyB_iff 8).mpr ⟨a, ha, ?_⟩)
          rw [g2, hE]
          rfl
        have := tR_mono (d := d) (by omega) this
        rw [h0] at this
        cases this
/-- how many -/
def bN (S : Nat → Bool) (i : Nat) : Nat := if S i = true then 1 else 0
theorem bN_le (S : Nat → Bool) (i : Nat) : bN S i ≤ 1 := by
  unfold bN
  split <;> omega
theorem aSum_mono {f g : Nat → Nat} : ∀ n, (∀ i, i < n → f i ≤ g i) → aSum f n ≤ aSum g n
  | 0, _ => Nat.le_refl _
  | n + 1, h => by
    have h1 := aSum_mono n (fun i hi => h i (by omega))
    have h2 := h n (by omega)
    show aSum f n + f n ≤ aSum g n + g n
    omega
theorem aSum_lt {f g : Nat → Nat} : ∀ n, (∀ i, i < n → f i ≤ g i) → (∃ i, i < n ∧ f i < g i) → aSum f n < aSum g n
  | 0, _, ⟨i, hi, _⟩ => absurd hi (Nat.not_lt_zero i)
  | n + 1, h, ⟨i, hi, hl⟩ => by
    have h1 := aSum_mono n (fun i hi => h i (by omega))
    have h2 := h n (by omega)
    show aSum f n + f n < aSum g n + g n
    by_cases q : i = n
    · subst q; omega
    · have := aSum_lt n (fun i hi => h i (by omega)) ⟨i, by omega, hl⟩
      omega
theorem tR_still {d : Nat} (h : ∀ i, i < 8 → tR E st (d + 1) i = tR E st d i) : ∀ k i, i < 8 → tR E st (d + k) i = tR E st d i
  | 0, i, _ => rfl
  | k + 1, i, hi => by
    show (tR E st (d + k) i || anyB (fun a => tR E st (d + k) a && E a i) 8) = _
    rw [tR_still h k i hi, anyB_cg (g := fun a => tR E st d a && E a i) 8 (fun a ha => by rw [tR_still h k a ha])]
    exact h i hi
/-- eight stones: no way needs eight -/
theorem tL_8 (hst : st < 8) {i : Nat} (hi : i < 8) : tL E st 8 i = tL E st 7 i := by
  rw [tL_s]
  cases hl : tL E st 7 i with
  | some e => rfl
  | none =>
    show (if tR E st 8 i = true then some 8 else none) = none
    by_cases q : tR E st 8 i = true
    · exfalso
      have h7 := tL_none' hl
      have hg : ∀ d, d < 8 → ∃ j, j < 8 ∧ tR E st d j = false ∧ tR E st (d + 1) j = true := by
        intro d hd
        refine Classical.byContradiction (fun hn => ?_)
        have hs : ∀ j, j < 8 → tR E st (d + 1) j = tR E st d j := by
          intro j hj
          cases h1 : tR E st d j with
          | true => exact tR_s d j h1
          | false =>
            cases h2 : tR E st (d + 1) j with
            | false => rfl
            | true => exact absurd ⟨j, hj, h1, h2⟩ hn
        have e8 := tR_still hs (8 - d) i hi
        have e7 := tR_still hs (7 - d) i hi
        rw [show d + (8 - d) = 8 by omega] at e8
        rw [show d + (7 - d) = 7 by omega] at e7
        rw [← e7, h7, q] at e8
        cases e8
      have h0 := aSum_lt (f := bN (fun _ => false)) (g := bN (tR E st 0)) 8 (fun i _ => by unfold bN; rw [if_neg (show ¬ false = true by decide)]; exact Nat.zero_le _) ⟨st, hst, by unfold bN; rw [if_neg (show ¬ false = true by decide), if_pos (show tR E st 0 st = true from decide_eq_true rfl)]; omega⟩
      have h9 : ∀ k, (∀ d, d < k → ∃ i, i < 8 ∧ tR E st d i = false ∧ tR E st (d + 1) i = true) → k + aSum (bN (tR E st 0)) 8 ≤ aSum (bN (tR E st k)) 8 := by
        intro k
        induction k with
        | zero => intro _; omega
        | succ k ih =>
          intro hk
          have h1 := ih (fun d hd => hk d (by omega))
          obtain ⟨i, hi, n1, n2⟩ := hk k (by omega)
          have := aSum_lt (f := bN (tR E st k)) (g := bN (tR E st (k + 1))) 8 (fun i _ => by
            unfold bN
            by_cases q : tR E st k i = true
            · rw [if_pos q, if_pos (tR_s k i q)]; exact Nat.le_refl _
            · rw [if_neg q]; exact Nat.zero_le _) ⟨i, hi, by unfold bN; rw [n1, n2, if_neg (by decide), if_pos rfl]; omega⟩
          omega
      have h10 := h9 8 hg
      have h11 := aSum_le (bN_le (tR E st 8)) 8
      omega
    · rw [if_neg q]
end
