/-! THE PROGRAM SEEKS: tables of hours -/
theorem sm10 {i : Nat} (hi : i < 10) : ((nI i &&& 31).toBitVec.smod 32).toNat = i := by
  have hc : i = 0 ∨ i = 1 ∨ i = 2 ∨ i = 3 ∨ i = 4 ∨ i = 5 ∨ i = 6 ∨ i = 7 ∨ i = 8 ∨ i = 9 := by omega
  rcases hc with rfl | rfl | rfl | rfl | rfl | rfl | rfl | rfl | rfl | rfl <;> decide
theorem p10 {i : Nat} (hi : i < 10) : 2 ^ i < 1024 := by
  have hc : i = 0 ∨ i = 1 ∨ i = 2 ∨ i = 3 ∨ i = 4 ∨ i = 5 ∨ i = 6 ∨ i = 7 ∨ i = 8 ∨ i = 9 := by omega
  rcases hc with rfl | rfl | rfl | rfl | rfl | rfl | rfl | rfl | rfl | rfl <;> decide
def bT (x : Int32) (S : Nat → Bool) : Prop := ∃ m, m < 1024 ∧ x = nI m ∧ ∀ i, i < 10 → m.testBit i = S i
theorem bT_get {x : Int32} {S : Nat → Bool} (h : bT x S) {i : Nat} (hi : i < 10) : (((x >>> (nI i &&& 31)) &&& 1) = 0) = (S i = false) := by
  obtain ⟨m, hm, rfl, ht⟩ := h
  rw [pk_shrN (by omega) _ i (sm10 hi)]
  have hd : m / 2 ^ i ≤ m := Nat.div_le_self _ _
  have ht' := ht i hi
  rw [Nat.testBit_eq_decide_div_mod_eq] at ht'
  generalize m / 2 ^ i = q at hd ht'
  rw [pk_andN (by omega) 1 (by decide), ← ht']
  show (nI (q % 2) = nI 0) = _
  rw [nl_eq (by omega) (by omega)]
  refine propext ⟨fun g => decide_eq_false (by omega), fun g => ?_⟩
  have := of_decide_eq_false g
  omega
theorem bT_set {x : Int32} {S : Nat → Bool} (h : bT x S) {b : Nat} (hb : b < 10) : bT (x ||| (1 <<< (nI b &&& 31))) (fun i => S i || decide (i = b)) := by
  obtain ⟨m, hm, rfl, ht⟩ := h
  have h2 := p10 hb
  have e := pk_shlN (n := 1) (nI b &&& 31) b (sm10 hb) (by omega)
  rw [Nat.one_mul] at e
  have e : (1 : Int32) <<< (nI b &&& 31) = nI (2 ^ b) := e
  have h3 : m ||| 2 ^ b < 1024 := Nat.or_lt_two_pow (n := 10) hm h2
  refine ⟨m ||| 2 ^ b, h3, ?_, fun i hi => ?_⟩
  · rw [e]
    apply Int32.toBitVec_inj.mp
    apply BitVec.eq_of_toNat_eq
    rw [Int32.toBitVec_or, BitVec.toNat_or, pk_tn (by omega), pk_tn (by omega), pk_tn (by omega)]
  · rw [Nat.testBit_or, ht i hi, Nat.testBit_two_pow]
    congr 1
    exact decide_eq_decide.mpr eq_comm
theorem bT_0 : bT 0 (fun _ => false) := ⟨0, by omega, rfl, fun i _ => Nat.zero_testBit i⟩
theorem aHrs_le {V : mVT} {ru kd nu yd ld wt rn a b mud : Nat} (hn : nu ≤ 9) (hl : ld ≤ 9) (hm : mud ≤ 99) : aHrs V ru kd nu yd ld wt rn a b mud ≤ 315 := by
  unfold aHrs
  have h1 := (aLast_le (k := kd) hn hm hl).1
  have h2 := aSay_le (V := V) (ru := ru) (pt := 1) (mud := mud) (wt := wt) (ld := ld) (rn := rn) (a := a) (b := b)
  split
  · omega
  · split <;> omega
/-- hours of a way, as wet; the same over a plank -/
def hbB (V : mVT) (A : Ab) (p rn w a b : Nat) : Nat := aHrs V A.ru (A.kd p) (A.nu p) (A.yd p) (A.ld p) w rn a b (A.mud (a * 8 + b))
def hbP (V : mVT) (A : Ab) (p rn w a b : Nat) : Nat := aHrs V A.ru (A.kd p) (A.nu p) (A.yd p) (A.ld p) w rn a b (if a = b then 0 else 1)
/-- a table of hours: r its mask, q its row -/
def KNw (q : Nat) (hb : Nat → Nat → Nat → Nat) (w : Nat) (s : mSG) : Prop := ∀ a b, a < 8 → b < 8 → s.1 q (w * 64 + (a * 8 + b)) = nI (hb w a b)
def KN (r q : Nat) (hb : Nat → Nat → Nat → Nat) (s : mSG) : Prop := ∃ S, bT (s.1 r 1) S ∧ ∀ w, w < 10 → S w = true → KNw q hb w s
theorem KN_fr {W : List (Nat × Option Nat)} {r q : Nat} {hb : Nat → Nat → Nat → Nat} {s s' : mSG} (h : KN r q hb s) (f : Fr W s s') (h1 : mW W r 1 = false) (h2 : ∀ k, mW W q k = false) : KN r q hb s' := by
  obtain ⟨S, b, k⟩ := h
  exact ⟨S, by rw [(f _ _ h1).1]; exact b, fun w hw hS a b ha hb' => by rw [(f _ _ (h2 _)).1]; exact k w hw hS a b ha hb'⟩
theorem KNw_fr {W : List (Nat × Option Nat)} {q w : Nat} {hb : Nat → Nat → Nat → Nat} {s s' : mSG} (h : KNw q hb w s) (f : Fr W s s') (h2 : ∀ k, mW W q k = false) : KNw q hb w s' := fun a b ha hb' => by
  rw [(f _ _ (h2 _)).1]
  exact h a b ha hb'
/-- the goer, as wet -/
def GG (t : mTX) (tc : Nat) (V : mVT) (A : Ab) (p rn w : Nat) (s : mSG) : Prop := CT t tc V s ∧ RS 7 8 9 10 11 A s ∧ GO_28 A.ru (A.kd p) (A.nu p) (A.yd p) (A.ld p) w rn s
theorem GG_fr {W : List (Nat × Option Nat)} {t : mTX} {tc : Nat} {V : mVT} {A : Ab} {p rn w : Nat} {s s' : mSG} (h : GG t tc V A p rn w s) (f : Fr W s s') (hw : wTx W = true) (h7 : ∀ k, mW W 7 k = false) (h8 : ∀ k, mW W 8 k = false) (h9 : ∀ k, mW W 9 k = false) (h10 : ∀ k, mW W 10 k = false) (h11 : ∀ k, mW W 11 k = false) (h28 : ∀ k, mW W 28 k = false) : GG t tc V A p rn w s' :=
  ⟨CT_fr h.1 f hw, RS_fr h.2.1 f h7 h8 h9 h10 h11, GO_fr_28 h.2.2 f h28⟩
theorem GG_sI {t : mTX} {tc : Nat} {V : mVT} {A : Ab} {p rn w : Nat} {s : mSG} {a k : Nat} {v : Int32} (h : GG t tc V A p rn w s) (h1 : 35 ≤ a) (h2 : a ≤ 44) : GG t tc V A p rn w (sI s a k v) := by
  have f : Fr [(a, none)] s (sI s a k v) := Fr.rf.wI (by unfold mW; simp)
  have g : ∀ b, b < 35 → ∀ j, mW [(a, none)] b j = false := fun b hb j => by
    unfold mW
    have : Nat.beq a b = false := by
      cases hh : Nat.beq a b with
      | false => rfl
      | true => have := Nat.eq_of_beq_eq_true hh; omega
    simp [this]
  refine GG_fr h f ?_ (g 7 (by omega)) (g 8 (by omega)) (g 9 (by omega)) (g 10 (by omega)) (g 11 (by omega)) (g 28 (by omega))
  have hc : a = 35 ∨ a = 36 ∨ a = 37 ∨ a = 38 ∨ a = 39 ∨ a = 40 ∨ a = 41 ∨ a = 42 ∨ a = 43 ∨ a = 44 := by omega
  rcases hc with rfl | rfl | rfl | rfl | rfl | rfl | rfl | rfl | rfl | rfl <;> rfl
theorem c_fill_39 (v : Int32) (s0 : mSG) : ∃ s', J7_fill_39 v s0 = some s' ∧ (∀ i, i < 8 → s'.1 39 i = v) ∧ (∀ b, b ≠ 39 → s'.1 b = s0.1 b) := by
  have key : ∃ e, J7_fill_39_l5 v (Int32.ofNat 8) (0, s0) = some e ∧ ((∀ i, i < 8 → e.1 39 i = v) ∧ (∀ b, b ≠ 39 → e.1 b = s0.1 b)) := by
    unfold J7_fill_39_l5
    refine lpN (fun i (x : Int32 × mSG) => x.1 = nI i ∧ (∀ j, j < i → x.2.1 39 j = v) ∧ (∀ b, b ≠ 39 → x.2.1 b = s0.1 b)) (fun e : mSG => (∀ i, i < 8 → e.1 39 i = v) ∧ (∀ b, b ≠ 39 → e.1 b = s0.1 b)) 8 (by unfold mFU; omega) ?_ ?_ (k := 0) (by omega) (x := (0, s0)) ⟨rfl, fun j hj => absurd hj (Nat.not_lt_zero j), fun _ _ => rfl⟩
    · intro i x hi hx
      obtain ⟨y, s⟩ := x
      obtain ⟨e, r, g⟩ := hx
      have e : y = nI i := e
      subst e
      have r : ∀ j, j < i → s.1 39 j = v := r
      have g : ∀ b, b ≠ 39 → s.1 b = s0.1 b := g
      refine ⟨(nI (i + 1), sI s 39 i v), ?_, rfl, fun j hj => ?_, fun b hb => ?_⟩
      · show J7_fill_39_b5 v (nI 8) (nI i) s = _
        unfold J7_fill_39_b5
        rw [if_neg (nI_ge hi (by omega)), if_pos (gl_inb hi (by omega)), nl_cl (by omega), nI_1]
      · show (sI s 39 i v).1 39 j = v
        by_cases q : j = i
        · subst q; rw [sI_same]
        · rw [sI_oth q]; exact r j (by omega)
      · rw [← g b hb]
        funext c
        show (sI s 39 i v).1 b c = s.1 b c
        rw [sI_adr hb]
    · intro x hx
      obtain ⟨y, s⟩ := x
      obtain ⟨e, r, g⟩ := hx
      have e : y = nI 8 := e
      subst e
      refine ⟨s, ?_, r, g⟩
      show J7_fill_39_b5 v (nI 8) (nI 8) s = _
      unfold J7_fill_39_b5
      rw [if_pos (nI_le (Nat.le_refl _) (by omega))]
  obtain ⟨e, he, hq⟩ := key
  refine ⟨e, ?_, hq⟩
  unfold J7_fill_39
  rw [ob he]
theorem c_fill_40 (v : Int32) (s0 : mSG) : ∃ s', J7_fill_40 v s0 = some s' ∧ (∀ i, i < 8 → s'.1 40 i = v) ∧ (∀ b, b ≠ 40 → s'.1 b = s0.1 b) := by
  have key : ∃ e, J7_fill_40_l5 v (Int32.ofNat 8) (0, s0) = some e ∧ ((∀ i, i < 8 → e.1 40 i = v) ∧ (∀ b, b ≠ 40 → e.1 b = s0.1 b)) := by
    unfold J7_fill_40_l5
    refine lpN (fun i (x : Int32 × mSG) => x.1 = nI i ∧ (∀ j, j < i → x.2.1 40 j = v) ∧ (∀ b, b ≠ 40 → x.2.1 b = s0.1 b)) (fun e : mSG => (∀ i, i < 8 → e.1 40 i = v) ∧ (∀ b, b ≠ 40 → e.1 b = s0.1 b)) 8 (by unfold mFU; omega) ?_ ?_ (k := 0) (by omega) (x := (0, s0)) ⟨rfl, fun j hj => absurd hj (Nat.not_lt_zero j), fun _ _ => rfl⟩
    · intro i x hi hx
      obtain ⟨y, s⟩ := x
      obtain ⟨e, r, g⟩ := hx
      have e : y = nI i := e
      subst e
      have r : ∀ j, j < i → s.1 40 j = v := r
      have g : ∀ b, b ≠ 40 → s.1 b = s0.1 b := g
      refine ⟨(nI (i + 1), sI s 40 i v), ?_, rfl, fun j hj => ?_, fun b hb => ?_⟩
      · show J7_fill_40_b5 v (nI 8) (nI i) s = _
        unfold J7_fill_40_b5
        rw [if_neg (nI_ge hi (by omega)), if_pos (gl_inb hi (by omega)), nl_cl (by omega), nI_1]
      · show (sI s 40 i v).1 40 j = v
        by_cases q : j = i
        · subst q; rw [sI_same]
        · rw [sI_oth q]; exact r j (by omega)
      · rw [← g b hb]
        funext c
        show (sI s 40 i v).1 b c = s.1 b c
        rw [sI_adr hb]
    · intro x hx
      obtain ⟨y, s⟩ := x
      obtain ⟨e, r, g⟩ := hx
      have e : y = nI 8 := e
      subst e
      refine ⟨s, ?_, r, g⟩
      show J7_fill_40_b5 v (nI 8) (nI 8) s = _
      unfold J7_fill_40_b5
      rw [if_pos (nI_le (Nat.le_refl _) (by omega))]
  obtain ⟨e, he, hq⟩ := key
  refine ⟨e, ?_, hq⟩
  unfold J7_fill_40
  rw [ob he]
theorem c_fill_41 (v : Int32) (s0 : mSG) : ∃ s', J7_fill_41 v s0 = some s' ∧ (∀ i, i < 8 → s'.1 41 i = v) ∧ (∀ b, b ≠ 41 → s'.1 b = s0.1 b) := by
  have key : ∃ e, J7_fill_41_l5 v (Int32.ofNat 8) (0, s0) = some e ∧ ((∀ i, i < 8 → e.1 41 i = v) ∧ (∀ b, b ≠ 41 → e.1 b = s0.1 b)) := by
    unfold J7_fill_41_l5
    refine lpN (fun i (x : Int32 × mSG) => x.1 = nI i ∧ (∀ j, j < i → x.2.1 41 j = v) ∧ (∀ b, b ≠ 41 → x.2.1 b = s0.1 b)) (fun e : mSG => (∀ i, i < 8 → e.1 41 i = v) ∧ (∀ b, b ≠ 41 → e.1 b = s0.1 b)) 8 (by unfold mFU; omega) ?_ ?_ (k := 0) (by omega) (x := (0, s0)) ⟨rfl, fun j hj => absurd hj (Nat.not_lt_zero j), fun _ _ => rfl⟩
    · intro i x hi hx
      obtain ⟨y, s⟩ := x
      obtain ⟨e, r, g⟩ := hx
      have e : y = nI i := e
      subst e
      have r : ∀ j, j < i → s.1 41 j = v := r
      have g : ∀ b, b ≠ 41 → s.1 b = s0.1 b := g
      refine ⟨(nI (i + 1), sI s 41 i v), ?_, rfl, fun j hj => ?_, fun b hb => ?_⟩
      · show J7_fill_41_b5 v (nI 8) (nI i) s = _
        unfold J7_fill_41_b5
        rw [if_neg (nI_ge hi (by omega)), if_pos (gl_inb hi (by omega)), nl_cl (by omega), nI_1]
      · show (sI s 41 i v).1 41 j = v
        by_cases q : j = i
        · subst q; rw [sI_same]
        · rw [sI_oth q]; exact r j (by omega)
      · rw [← g b hb]
        funext c
        show (sI s 41 i v).1 b c = s.1 b c
        rw [sI_adr hb]
    · intro x hx
      obtain ⟨y, s⟩ := x
      obtain ⟨e, r, g⟩ := hx
      have e : y = nI 8 := e
      subst e
      refine ⟨s, ?_, r, g⟩
      show J7_fill_41_b5 v (nI 8) (nI 8) s = _
      unfold J7_fill_41_b5
      rw [if_pos (nI_le (Nat.le_refl _) (by omega))]
  obtain ⟨e, he, hq⟩ := key
  refine ⟨e, ?_, hq⟩
  unfold J7_fill_41
  rw [ob he]
theorem c_fill_42 (v : Int32) (s0 : mSG) : ∃ s', J7_fill_42 v s0 = some s' ∧ (∀ i, i < 8 → s'.1 42 i = v) ∧ (∀ b, b ≠ 42 → s'.1 b = s0.1 b) := by
  have key : ∃ e, J7_fill_42_l5 v (Int32.ofNat 8) (0, s0) = some e ∧ ((∀ i, i < 8 → e.1 42 i = v) ∧ (∀ b, b ≠ 42 → e.1 b = s0.1 b)) := by
    unfold J7_fill_42_l5
    refine lpN (fun i (x : Int32 × mSG) => x.1 = nI i ∧ (∀ j, j < i → x.2.1 42 j = v) ∧ (∀ b, b ≠ 42 → x.2.1 b = s0.1 b)) (fun e : mSG => (∀ i, i < 8 → e.1 42 i = v) ∧ (∀ b, b ≠ 42 → e.1 b = s0.1 b)) 8 (by unfold mFU; omega) ?_ ?_ (k := 0) (by omega) (x := (0, s0)) ⟨rfl, fun j hj => absurd hj (Nat.not_lt_zero j), fun _ _ => rfl⟩
    · intro i x hi hx
      obtain ⟨y, s⟩ := x
      obtain ⟨e, r, g⟩ := hx
      have e : y = nI i := e
      subst e
      have r : ∀ j, j < i → s.1 42 j = v := r
      have g : ∀ b, b ≠ 42 → s.1 b = s0.1 b := g
      refine ⟨(nI (i + 1), sI s 42 i v), ?_, rfl, fun j hj => ?_, fun b hb => ?_⟩
      · show J7_fill_42_b5 v (nI 8) (nI i) s = _
        unfold J7_fill_42_b5
        rw [if_neg (nI_ge hi (by omega)), if_pos (gl_inb hi (by omega)), nl_cl (by omega), nI_1]
      · show (sI s 42 i v).1 42 j = v
        by_cases q : j = i
        · subst q; rw [sI_same]
        · rw [sI_oth q]; exact r j (by omega)
      · rw [← g b hb]
        funext c
        show (sI s 42 i v).1 b c = s.1 b c
        rw [sI_adr hb]
    · intro x hx
      obtain ⟨y, s⟩ := x
      obtain ⟨e, r, g⟩ := hx
      have e : y = nI 8 := e
      subst e
      refine ⟨s, ?_, r, g⟩
      show J7_fill_42_b5 v (nI 8) (nI 8) s = _
      unfold J7_fill_42_b5
      rw [if_pos (nI_le (Nat.le_refl _) (by omega))]
  obtain ⟨e, he, hq⟩ := key
  refine ⟨e, ?_, hq⟩
  unfold J7_fill_42
  rw [ob he]
theorem c_fill_43 (v : Int32) (s0 : mSG) : ∃ s', J7_fill_43 v s0 = some s' ∧ (∀ i, i < 64 → s'.1 43 i = v) ∧ (∀ b, b ≠ 43 → s'.1 b = s0.1 b) := by
  have key : ∃ e, J7_fill_43_l5 v (Int32.ofNat 64) (0, s0) = some e ∧ ((∀ i, i < 64 → e.1 43 i = v) ∧ (∀ b, b ≠ 43 → e.1 b = s0.1 b)) := by
    unfold J7_fill_43_l5
    refine lpN (fun i (x : Int32 × mSG) => x.1 = nI i ∧ (∀ j, j < i → x.2.1 43 j = v) ∧ (∀ b, b ≠ 43 → x.2.1 b = s0.1 b)) (fun e : mSG => (∀ i, i < 64 → e.1 43 i = v) ∧ (∀ b, b ≠ 43 → e.1 b = s0.1 b)) 64 (by unfold mFU; omega) ?_ ?_ (k := 0) (by omega) (x := (0, s0)) ⟨rfl, fun j hj => absurd hj (Nat.not_lt_zero j), fun _ _ => rfl⟩
    · intro i x hi hx
      obtain ⟨y, s⟩ := x
      obtain ⟨e, r, g⟩ := hx
      have e : y = nI i := e
      subst e
      have r : ∀ j, j < i → s.1 43 j = v := r
      have g : ∀ b, b ≠ 43 → s.1 b = s0.1 b := g
      refine ⟨(nI (i + 1), sI s 43 i v), ?_, rfl, fun j hj => ?_, fun b hb => ?_⟩
      · show J7_fill_43_b5 v (nI 64) (nI i) s = _
        unfold J7_fill_43_b5
        rw [if_neg (nI_ge hi (by omega)), if_pos (gl_inb hi (by omega)), nl_cl (by omega), nI_1]
      · show (sI s 43 i v).1 43 j = v
        by_cases q : j = i
        · subst q; rw [sI_same]
        · rw [sI_oth q]; exact r j (by omega)
      · rw [← g b hb]
        funext c
        show (sI s 43 i v).1 b c = s.1 b c
        rw [sI_adr hb]
    · intro x hx
      obtain ⟨y, s⟩ := x
      obtain ⟨e, r, g⟩ := hx
      have e : y = nI 64 := e
      subst e
      refine ⟨s, ?_, r, g⟩
      show J7_fill_43_b5 v (nI 64) (nI 64) s = _
      unfold J7_fill_43_b5
      rw [if_pos (nI_le (Nat.le_refl _) (by omega))]
  obtain ⟨e, he, hq⟩ := key
  refine ⟨e, ?_, hq⟩
  unfold J7_fill_43
  rw [ob he]
theorem c_fill_44 (v : Int32) (s0 : mSG) : ∃ s', J7_fill_44 v s0 = some s' ∧ (∀ i, i < 64 → s'.1 44 i = v) ∧ (∀ b, b ≠ 44 → s'.1 b = s0.1 b) := by
  have key : ∃ e, J7_fill_44_l5 v (Int32.ofNat 64) (0, s0) = some e ∧ ((∀ i, i < 64 → e.1 44 i = v) ∧ (∀ b, b ≠ 44 → e.1 b = s0.1 b)) := by
    unfold J7_fill_44_l5
    refine lpN (fun i (x : Int32 × mSG) => x.1 = nI i ∧ (∀ j, j < i → x.2.1 44 j = v) ∧ (∀ b, b ≠ 44 → x.2.1 b = s0.1 b)) (fun e : mSG => (∀ i, i < 64 → e.1 44 i = v) ∧ (∀ b, b ≠ 44 → e.1 b = s0.1 b)) 64 (by unfold mFU; omega) ?_ ?_ (k := 0) (by omega) (x := (0, s0)) ⟨rfl, fun j hj => absurd hj (Nat.not_lt_zero j), fun _ _ => rfl⟩
    · intro i x hi hx
      obtain ⟨y, s⟩ := x
      obtain ⟨e, r, g⟩ := hx
      have e : y = nI i := e
      subst e
      have r : ∀ j, j < i → s.1 44 j = v := r
      have g : ∀ b, b ≠ 44 → s.1 b = s0.1 b := g
      refine ⟨(nI (i + 1), sI s 44 i v), ?_, rfl, fun j hj => ?_, fun b hb => ?_⟩
      · show J7_fill_44_b5 v (nI 64) (nI i) s = _
        unfold J7_fill_44_b5
        rw [if_neg (nI_ge hi (by omega)), if_pos (gl_inb hi (by omega)), nl_cl (by omega), nI_1]
      · show (sI s 44 i v).1 44 j = v
        by_cases q : j = i
        · subst q; rw [sI_same]
        · rw [sI_oth q]; exact r j (by omega)
      · rw [← g b hb]
        funext c
        show (sI s 44 i v).1 b c = s.1 b c
        rw [sI_adr hb]
    · intro x hx
      obtain ⟨y, s⟩ := x
      obtain ⟨e, r, g⟩ := hx
      have e : y = nI 64 := e
      subst e
      refine ⟨s, ?_, r, g⟩
      show J7_fill_44_b5 v (nI 64) (nI 64) s = _
      unfold J7_fill_44_b5
      rw [if_pos (nI_le (Nat.le_refl _) (by omega))]
  obtain ⟨e, he, hq⟩ := key
  refine ⟨e, ?_, hq⟩
  unfold J7_fill_44
  rw [ob he]
theorem c_learnI_35 {t : mTX} {tc : Nat} {V : mVT} {A : Ab} {p rn w a : Nat} {s0 s : mSG} (ok : AbOK A tc) (hp : p < A.pp) (hw : w ≤ 9) (ha : a < 8) (h : GG t tc V A p rn w s) (hl : (∀ j, j < a * 8 → s.1 36 (w * 64 + j) = nI (hbB V A p rn w (j / 8) (j % 8))) ∧ (∀ j, j < w * 64 ∨ w * 64 + 64 ≤ j → s.1 36 j = s0.1 36 j) ∧ s.1 35 = s0.1 35) : ∃ e, X7_learn_35_28_7_l65 t 0 (nI a) (nI (w * 64 + a * 8), 0, s) = some e ∧ (e.1 = nI (w * 64 + (a + 1) * 8) ∧ GG t tc V A p rn w e.2 ∧ ((∀ j, j < (a + 1) * 8 → e.2.1 36 (w * 64 + j) = nI (hbB V A p rn w (j / 8) (j % 8))) ∧ (∀ j, j < w * 64 ∨ w * 64 + 64 ≤ j → e.2.1 36 j = s0.1 36 j) ∧ e.2.1 35 = s0.1 35)) := by
  unfold X7_learn_35_28_7_l65
  refine lpN (fun b (v : Int32 × Int32 × mSG) => v.1 = nI (w * 64 + (a * 8 + b)) ∧ v.2.1 = nI b ∧ GG t tc V A p rn w v.2.2 ∧ ((∀ j, j < a * 8 + b → v.2.2.1 36 (w * 64 + j) = nI (hbB V A p rn w (j / 8) (j % 8))) ∧ (∀ j, j < w * 64 ∨ w * 64 + 64 ≤ j → v.2.2.1 36 j = s0.1 36 j) ∧ v.2.2.1 35 = s0.1 35)) (fun e : Int32 × mSG => e.1 = nI (w * 64 + (a + 1) * 8) ∧ GG t tc V A p rn w e.2 ∧ ((∀ j, j < (a + 1) * 8 → e.2.1 36 (w * 64 + j) = nI (hbB V A p rn w (j / 8) (j % 8))) ∧ (∀ j, j < w * 64 ∨ w * 64 + 64 ≤ j → e.2.1 36 j = s0.1 36 j) ∧ e.2.1 35 = s0.1 35)) 8 (by unfold mFU; omega) ?_ ?_ (k := 0) (by omega) (x := (nI (w * 64 + a * 8), 0, s)) ⟨rfl, rfl, h, hl⟩
  · intro b v hb hv
    obtain ⟨y, z, s1⟩ := v
    obtain ⟨g1, g2, g3, g4, g5, g6⟩ := hv
    have g1 : y = nI (w * 64 + (a * 8 + b)) := g1
    have g2 : z = nI b := g2
    subst g1 g2
    have g3 : GG t tc V A p rn w s1 := g3
    have g4 : ∀ j, j < a * 8 + b → s1.1 36 (w * 64 + j) = nI (hbB V A p rn w (j / 8) (j % 8)) := g4
    have g5 : ∀ j, j < w * 64 ∨ w * 64 + 64 ≤ j → s1.1 36 j = s0.1 36 j := g5
    have g6 : s1.1 35 = s0.1 35 := g6
    obtain ⟨s2, e2⟩ := c_hours_28 g3.1 g3.2.2 ok.ru (ok.kd p hp) (ok.nu p hp) (ok.yd p hp) hw (ok.ld p hp) a b (ok.mud (a * 8 + b))
    have f2 := FR_X0_hours_28 _ _ _ _ _ _ e2
    have gg2 := GG_fr g3 f2 rfl (fun _ => rfl) (fun _ => rfl) (fun _ => rfl) (fun _ => rfl) (fun _ => rfl) (fun _ => rfl)
    refine ⟨(nI (w * 64 + (a * 8 + (b + 1))), nI (b + 1), sI s2 36 (w * 64 + (a * 8 + b)) (nI (hbB V A p rn w a b))), ?_, rfl, rfl, GG_sI gg2 (by omega) (by omega), fun j hj => ?_, fun j hj => ?_, ?_⟩
    · show X7_learn_35_28_7_b65 t 0 (nI a) (nI (w * 64 + (a * 8 + b))) (nI b) s1 = _
      unfold X7_learn_35_28_7_b65 X7_learn_35_28_7_j87_65 X7_learn_35_28_7_j95_65
      rw [if_neg (gl_le (x := 8) (m := 8) rfl hb (by omega)), if_pos rfl, ob (c_mudB_7 g3.2.1 ok (by omega) (by omega)), ob e2, if_pos (gl_inb (show w * 64 + (a * 8 + b) < 640 by omega) (by omega)), nl_cl (by omega), nI_1, nI_1]
      rfl
    · show (sI s2 36 (w * 64 + (a * 8 + b)) (nI (hbB V A p rn w a b))).1 36 (w * 64 + j) = _
      by_cases q : j = a * 8 + b
      · rw [q, sI_same, show (a * 8 + b) / 8 = a by omega, show (a * 8 + b) % 8 = b by omega]
      · rw [sI_oth (by omega), (f2 36 _ rfl).1]
        exact g4 j (by omega)
    · show (sI s2 36 (w * 64 + (a * 8 + b)) (nI (hbB V A p rn w a b))).1 36 j = _
      rw [sI_oth (by omega), (f2 36 _ rfl).1]
      exact g5 j hj
    · rw [← g6]
      funext j
      show (sI s2 36 (w * 64 + (a * 8 + b)) (nI (hbB V A p rn w a b))).1 35 j = _
      rw [sI_adr (by decide), (f2 35 _ rfl).1]
  · intro v hv
    obtain ⟨y, z, s1⟩ := v
    obtain ⟨g1, g2, g3⟩ := hv
    have g2 : z = nI 8 := g2
    subst g2
    rw [show a * 8 + 8 = (a + 1) * 8 by omega] at g1 g3
    refine ⟨(y, s1), ?_, g1, g3⟩
    show X7_learn_35_28_7_b65 t 0 (nI a) y (nI 8) s1 = _
    unfold X7_learn_35_28_7_b65
    rw [if_pos (show (8 : Int32) ≤ nI 8 from by decide)]
theorem c_learnO_35 {t : mTX} {tc : Nat} {V : mVT} {A : Ab} {p rn w : Nat} {s0 : mSG} (ok : AbOK A tc) (hp : p < A.pp) (hw : w ≤ 9) (h : GG t tc V A p rn w s0) : ∃ e, X7_learn_35_28_7_l55 t 0 (nI (w * 64), 0, s0) = some e ∧ ((∀ j, j < 64 → e.1 36 (w * 64 + j) = nI (hbB V A p rn w (j / 8) (j % 8))) ∧ (∀ j, j < w * 64 ∨ w * 64 + 64 ≤ j → e.1 36 j = s0.1 36 j) ∧ e.1 35 = s0.1 35) := by
  unfold X7_learn_35_28_7_l55
  refine lpN (fun a (v : Int32 × Int32 × mSG) => v.1 = nI (w * 64 + a * 8) ∧ v.2.1 = nI a ∧ GG t tc V A p rn w v.2.2 ∧ ((∀ j, j < a * 8 → v.2.2.1 36 (w * 64 + j) = nI (hbB V A p rn w (j / 8) (j % 8))) ∧ (∀ j, j < w * 64 ∨ w * 64 + 64 ≤ j → v.2.2.1 36 j = s0.1 36 j) ∧ v.2.2.1 35 = s0.1 35)) (fun e : mSG => (∀ j, j < 64 → e.1 36 (w * 64 + j) = nI (hbB V A p rn w (j / 8) (j % 8))) ∧ (∀ j, j < w * 64 ∨ w * 64 + 64 ≤ j → e.1 36 j = s0.1 36 j) ∧ e.1 35 = s0.1 35) 8 (by unfold mFU; omega) ?_ ?_ (k := 0) (by omega) (x := (nI (w * 64), 0, s0)) ⟨rfl, rfl, h, fun j hj => by omega, fun _ _ => rfl, rfl⟩
  · intro a v ha hv
    obtain ⟨y, z, s1⟩ := v
    obtain ⟨g1, g2, g3, g4⟩ := hv
    have g1 : y = nI (w * 64 + a * 8) := g1
    have g2 : z = nI a := g2
    subst g1 g2
    obtain ⟨⟨y2, s2⟩, e2, w2, gg2, l2⟩ := c_learnI_35 (s0 := s0) ok hp hw ha g3 g4
    have w2 : y2 = _ := w2
    subst w2
    refine ⟨(nI (w * 64 + (a + 1) * 8), nI (a + 1), s2), ?_, rfl, rfl, gg2, l2⟩
    show X7_learn_35_28_7_b55 t 0 (nI (w * 64 + a * 8)) (nI a) s1 = _
    unfold X7_learn_35_28_7_b55
    rw [if_neg (gl_le (x := 8) (m := 8) rfl ha (by omega)), ob e2, nI_1]
  · intro v hv
    obtain ⟨y, z, s1⟩ := v
    obtain ⟨g1, g2, g3, g4⟩ := hv
    have g2 : z = nI 8 := g2
    subst g2
    refine ⟨s1, ?_, g4⟩
    show X7_learn_35_28_7_b55 t 0 y (nI 8) s1 = _
    unfold X7_learn_35_28_7_b55
    rw [if_pos (show (8 : Int32) ≤ nI 8 from by decide)]
theorem c_learn_35 {t : mTX} {tc : Nat} {V : mVT} {A : Ab} {p rn w : Nat} {s : mSG} (ok : AbOK A tc) (hp : p < A.pp) (hw : w ≤ 9) (h : GG t tc V A p rn w s) (k : KN 35 36 (hbB V A p rn) s) : ∃ s', X7_learn_35_28_7 t 0 s = some s' ∧ KN 35 36 (hbB V A p rn) s' ∧ KNw 36 (hbB V A p rn) w s' := by
  obtain ⟨S, hS, kk⟩ := k
  unfold X7_learn_35_28_7
  rw [h.2.2.2.2.2.2.2.1, show X8_isWithin (nI w) 9 = _ from c_within (nI w) 9, decide_eq_true ((inR_nI (show w < 2147483648 by omega) (show 9 < 2147483648 by omega)).mpr hw), if_pos rfl]
  cases hq : S w with
  | true =>
    rw [if_neg (fun g => by have := (bT_get hS (show w < 10 by omega)).mp g; rw [hq] at this; cases this)]
    exact ⟨s, rfl, ⟨S, hS, kk⟩, kk w (by omega) hq⟩
  | false =>
    rw [if_pos ((bT_get hS (show w < 10 by omega)).mpr hq)]
    have hg : GG t tc V A p rn w (sI s 35 1 (s.1 35 1 ||| (1 <<< (nI w &&& 31)))) := GG_sI h (by omega) (by omega)
    obtain ⟨e, he, l1, l2, l3⟩ := c_learnO_35 ok hp hw hg
    rw [show nI w * 8 * 8 = nI (w * 64) from by rw [show nI w * 8 = nI (w * 8) from pk_mul w 8, show nI (w * 8) * 8 = nI (w * 8 * 8) from pk_mul (w * 8) 8, Nat.mul_assoc], ob he]
    have kw : KNw 36 (hbB V A p rn) w e := fun a b ha hb => by
      rw [l1 (a * 8 + b) (by omega), show (a * 8 + b) / 8 = a by omega, show (a * 8 + b) % 8 = b by omega]
    refine ⟨e, rfl, ⟨fun i => S i || decide (i = w), ?_, fun w' hw' hS' => ?_⟩, kw⟩
    · rw [l3, sI_same]
      exact bT_set hS (by omega)
    · by_cases qw : w' = w
      · rw [qw]; exact kw
      · have : S w' = true := by
          have hS' : (S w' || decide (w' = w)) = true := hS'
          rw [decide_eq_false qw, Bool.or_false] at hS'
          exact hS'
        intro a b ha hb
        rw [l2 (w' * 64 + (a * 8 + b)) (by omega), sI_adr (by decide)]
        exact kk w' hw' this a b ha hb
theorem c_learnI_37 {t : mTX} {tc : Nat} {V : mVT} {A : Ab} {p rn w a : Nat} {s0 s : mSG} (ok : AbOK A tc) (hp : p < A.pp) (hw : w ≤ 9) (ha : a < 8) (h : GG t tc V A p rn w s) (hl : (∀ j, j < a * 8 → s.1 38 (w * 64 + j) = nI (hbP V A p rn w (j / 8) (j % 8))) ∧ (∀ j, j < w * 64 ∨ w * 64 + 64 ≤ j → s.1 38 j = s0.1 38 j) ∧ s.1 37 = s0.1 37) : ∃ e, X7_learn_37_28_7_l65 t 1 (nI a) (nI (w * 64 + a * 8), 0, s) = some e ∧ (e.1 = nI (w * 64 + (a + 1) * 8) ∧ GG t tc V A p rn w e.2 ∧ ((∀ j, j < (a + 1) * 8 → e.2.1 38 (w * 64 + j) = nI (hbP V A p rn w (j / 8) (j % 8))) ∧ (∀ j, j < w * 64 ∨ w * 64 + 64 ≤ j → e.2.1 38 j = s0.1 38 j) ∧ e.2.1 37 = s0.1 37)) := by
  unfold X7_learn_37_28_7_l65
  refine lpN (fun b (v : Int32 × Int32 × mSG) => v.1 = nI (w * 64 + (a * 8 + b)) ∧ v.2.1 = nI b ∧ GG t tc V A p rn w v.2.2 ∧ ((∀ j, j < a * 8 + b → v.2.2.1 38 (w * 64 + j) = nI (hbP V A p rn w (j / 8) (j % 8))) ∧ (∀ j, j < w * 64 ∨ w * 64 + 64 ≤ j → v.2.2.1 38 j = s0.1 38 j) ∧ v.2.2.1 37 = s0.1 37)) (fun e : Int32 × mSG => e.1 = nI (w * 64 + (a + 1) * 8) ∧ GG t tc V A p rn w e.2 ∧ ((∀ j, j < (a + 1) * 8 → e.2.1 38 (w * 64 + j) = nI (hbP V A p rn w (j / 8) (j % 8))) ∧ (∀ j, j < w * 64 ∨ w * 64 + 64 ≤ j → e.2.1 38 j = s0.1 38 j) ∧ e.2.1 37 = s0.1 37)) 8 (by unfold mFU; omega) ?_ ?_ (k := 0) (by omega) (x := (nI (w * 64 + a * 8), 0, s)) ⟨rfl, rfl, h, hl⟩
  · intro b v hb hv
    obtain ⟨y, z, s1⟩ := v
    obtain ⟨g1, g2, g3, g4, g5, g6⟩ := hv
    have g1 : y = nI (w * 64 + (a * 8 + b)) := g1
    have g2 : z = nI b := g2
    subst g1 g2
    have g3 : GG t tc V A p rn w s1 := g3
    have g4 : ∀ j, j < a * 8 + b → s1.1 38 (w * 64 + j) = nI (hbP V A p rn w (j / 8) (j % 8)) := g4
    have g5 : ∀ j, j < w * 64 ∨ w * 64 + 64 ≤ j → s1.1 38 j = s0.1 38 j := g5
    have g6 : s1.1 37 = s0.1 37 := g6
    obtain ⟨s2, e2⟩ := c_hours_28 g3.1 g3.2.2 ok.ru (ok.kd p hp) (ok.nu p hp) (ok.yd p hp) hw (ok.ld p hp) a b (mud := if a = b then 0 else 1) (by split <;> omega)
    have f2 := FR_X0_hours_28 _ _ _ _ _ _ e2
    have gg2 := GG_fr g3 f2 rfl (fun _ => rfl) (fun _ => rfl) (fun _ => rfl) (fun _ => rfl) (fun _ => rfl) (fun _ => rfl)
    refine ⟨(nI (w * 64 + (a * 8 + (b + 1))), nI (b + 1), sI s2 38 (w * 64 + (a * 8 + b)) (nI (hbP V A p rn w a b))), ?_, rfl, rfl, GG_sI gg2 (by omega) (by omega), fun j hj => ?_, fun j hj => ?_, ?_⟩
    · show X7_learn_37_28_7_b65 t 1 (nI a) (nI (w * 64 + (a * 8 + b))) (nI b) s1 = _
      unfold X7_learn_37_28_7_b65 X7_learn_37_28_7_j87_65 X7_learn_37_28_7_j95_65
      rw [if_neg (gl_le (x := 8) (m := 8) rfl hb (by omega)), if_neg (by decide)]
      by_cases q : a = b
      · rw [if_pos q] at e2
        subst q
        rw [if_pos rfl, ob (c_mudB_7 g3.2.1 ok (by omega) (by omega)), ok.dia a ha, ob e2, if_pos (gl_inb (show w * 64 + (a * 8 + a) < 640 by omega) (by omega)), nl_cl (by omega), nI_1, nI_1]
        unfold hbP
        rw [if_pos rfl]
        rfl
      · rw [if_neg q] at e2
        rw [if_neg (show ¬ nI a = nI b from by rw [nl_eq (by omega) (by omega)]; exact q), ob (show X0_hours_28 t (nI a) (nI b) 1 s1 = _ from e2), if_pos (gl_inb (show w * 64 + (a * 8 + b) < 640 by omega) (by omega)), nl_cl (by omega), nI_1, nI_1]
        unfold hbP
        rw [if_neg q]
        rfl
    · show (sI s2 38 (w * 64 + (a * 8 + b)) (nI (hbP V A p rn w a b))).1 38 (w * 64 + j) = _
      by_cases q : j = a * 8 + b
      · rw [q, sI_same, show (a * 8 + b) / 8 = a by omega, show (a * 8 + b) % 8 = b by omega]
      · rw [sI_oth (by omega), (f2 38 _ rfl).1]
        exact g4 j (by omega)
    · show (sI s2 38 (w * 64 + (a * 8 + b)) (nI (hbP V A p rn w a b))).1 38 j = _
      rw [sI_oth (by omega), (f2 38 _ rfl).1]
      exact g5 j hj
    · rw [← g6]
      funext j
      show (sI s2 38 (w * 64 + (a * 8 + b)) (nI (hbP V A p rn w a b))).1 37 j = _
      rw [sI_adr (by decide), (f2 37 _ rfl).1]
  · intro v hv
    obtain ⟨y, z, s1⟩ := v
    obtain ⟨g1, g2, g3⟩ := hv
    have g2 : z = nI 8 := g2
    subst g2
    rw [show a * 8 + 8 = (a + 1) * 8 by omega] at g1 g3
    refine ⟨(y, s1), ?_, g1, g3⟩
    show X7_learn_37_28_7_b65 t 1 (nI a) y (nI 8) s1 = _
    unfold X7_learn_37_28_7_b65
    rw [if_pos (show (8 : Int32) ≤ nI 8 from by decide)]
theorem c_learnO_37 {t : mTX} {tc : Nat} {V : mVT} {A : Ab} {p rn w : Nat} {s0 : mSG} (ok : AbOK A tc) (hp : p < A.pp) (hw : w ≤ 9) (h : GG t tc V A p rn w s0) : ∃ e, X7_learn_37_28_7_l55 t 1 (nI (w * 64), 0, s0) = some e ∧ ((∀ j, j < 64 → e.1 38 (w * 64 + j) = nI (hbP V A p rn w (j / 8) (j % 8))) ∧ (∀ j, j < w * 64 ∨ w * 64 + 64 ≤ j → e.1 38 j = s0.1 38 j) ∧ e.1 37 = s0.1 37) := by
  unfold X7_learn_37_28_7_l55
  refine lpN (fun a (v : Int32 × Int32 × mSG) => v.1 = nI (w * 64 + a * 8) ∧ v.2.1 = nI a ∧ GG t tc V A p rn w v.2.2 ∧ ((∀ j, j < a * 8 → v.2.2.1 38 (w * 64 + j) = nI (hbP V A p rn w (j / 8) (j % 8))) ∧ (∀ j, j < w * 64 ∨ w * 64 + 64 ≤ j → v.2.2.1 38 j = s0.1 38 j) ∧ v.2.2.1 37 = s0.1 37)) (fun e : mSG => (∀ j, j < 64 → e.1 38 (w * 64 + j) = nI (hbP V A p rn w (j / 8) (j % 8))) ∧ (∀ j, j < w * 64 ∨ w * 64 + 64 ≤ j → e.1 38 j = s0.1 38 j) ∧ e.1 37 = s0.1 37) 8 (by unfold mFU; omega) ?_ ?_ (k := 0) (by omega) (x := (nI (w * 64), 0, s0)) ⟨rfl, rfl, h, fun j hj => by omega, fun _ _ => rfl, rfl⟩
  · intro a v ha hv
    obtain ⟨y, z, s1⟩ := v
    obtain ⟨g1, g2, g3, g4⟩ := hv
    have g1 : y = nI (w * 64 + a * 8) := g1
    have g2 : z = nI a := g2
    subst g1 g2
    obtain ⟨⟨y2, s2⟩, e2, w2, gg2, l2⟩ := c_learnI_37 (s0 := s0) ok hp hw ha g3 g4
    have w2 : y2 = _ := w2
    subst w2
    refine ⟨(nI (w * 64 + (a + 1) * 8), nI (a + 1), s2), ?_, rfl, rfl, gg2, l2⟩
    show X7_learn_37_28_7_b55 t 1 (nI (w * 64 + a * 8)) (nI a) s1 = _
    unfold X7_learn_37_28_7_b55
    rw [if_neg (gl_le (x := 8) (m := 8) rfl ha (by omega)), ob e2, nI_1]
  · intro v hv
    obtain ⟨y, z, s1⟩ := v
    obtain ⟨g1, g2, g3, g4⟩ := hv
    have g2 : z = nI 8 := g2
    subst g2
    refine ⟨s1, ?_, g4⟩
    show X7_learn_37_28_7_b55 t 1 y (nI 8) s1 = _
    unfold X7_learn_37_28_7_b55
    rw [if_pos (show (8 : Int32) ≤ nI 8 from by decide)]
theorem c_learn_37 {t : mTX} {tc : Nat} {V : mVT} {A : Ab} {p rn w : Nat} {s : mSG} (ok : AbOK A tc) (hp : p < A.pp) (hw : w ≤ 9) (h : GG t tc V A p rn w s) (k : KN 37 38 (hbP V A p rn) s) : ∃ s', X7_learn_37_28_7 t 1 s = some s' ∧ KN 37 38 (hbP V A p rn) s' ∧ KNw 38 (hbP V A p rn) w s' := by
  obtain ⟨S, hS, kk⟩ := k
  unfold X7_learn_37_28_7
  rw [h.2.2.2.2.2.2.2.1, show X8_isWithin (nI w) 9 = _ from c_within (nI w) 9, decide_eq_true ((inR_nI (show w < 2147483648 by omega) (show 9 < 2147483648 by omega)).mpr hw), if_pos rfl]
  cases hq : S w with
  | true =>
    rw [if_neg (fun g => by have := (bT_get hS (show w < 10 by omega)).mp g; rw [hq] at this; cases this)]
    exact ⟨s, rfl, ⟨S, hS, kk⟩, kk w (by omega) hq⟩
  | false =>
    rw [if_pos ((bT_get hS (show w < 10 by omega)).mpr hq)]
    have hg : GG t tc V A p rn w (sI s 37 1 (s.1 37 1 ||| (1 <<< (nI w &&& 31)))) := GG_sI h (by omega) (by omega)
    obtain ⟨e, he, l1, l2, l3⟩ := c_learnO_37 ok hp hw hg
    rw [show nI w * 8 * 8 = nI (w * 64) from by rw [show nI w * 8 = nI (w * 8) from pk_mul w 8, show nI (w * 8) * 8 = nI (w * 8 * 8) from pk_mul (w * 8) 8, Nat.mul_assoc], ob he]
    have kw : KNw 38 (hbP V A p rn) w e := fun a b ha hb => by
      rw [l1 (a * 8 + b) (by omega), show (a * 8 + b) / 8 = a by omega, show (a * 8 + b) % 8 = b by omega]
    refine ⟨e, rfl, ⟨fun i => S i || decide (i = w), ?_, fun w' hw' hS' => ?_⟩, kw⟩
    · rw [l3, sI_same]
      exact bT_set hS (by omega)
    · by_cases qw : w' = w
      · rw [qw]; exact kw
      · have : S w' = true := by
          have hS' : (S w' || decide (w' = w)) = true := hS'
          rw [decide_eq_false qw, Bool.or_false] at hS'
          exact hS'
        intro a b ha hb
        rw [l2 (w' * 64 + (a * 8 + b)) (by omega), sI_adr (by decide)]
        exact kk w' hw' this a b ha hb
