/-! TEXTS: code as a list, its stack -/
def b01 (p : Prop) [hp : Decidable p] : Int32 := if p then 1 else 0
/-- or, and, less, like, plus, minus, times -/
def xOp (o : Nat) (x y : Int32) : Int32 := match o with
  | 0 => b01 (¬ (x = 0 ∧ y = 0))
  | 1 => b01 (¬ x = 0 ∧ ¬ y = 0)
  | 2 => b01 (x < y)
  | 3 => b01 (x = y)
  | 4 => x + y
  | 5 => x - y
  | _ => x * y
def xOc (o : Nat) : Int32 := match o with
  | 0 => -11
  | 1 => -12
  | 2 => -14
  | 3 => -15
  | 4 => -16
  | 5 => -17
  | _ => -18
/-- code: (0, n) a number, (1, i) a name, (2, 0) minus, (3, 0) not, (4, o) an operator of two -/
abbrev xC : Type := Nat × Nat
def xEnc (c : xC) : Int32 := match c.1 with
  | 0 => nI c.2
  | 1 => -nI (c.2 + 1)
  | 2 => -19
  | 3 => -13
  | _ => xOc c.2
def xOk (c : xC) : Prop := match c.1 with
  | 0 => c.2 ≤ 9999
  | 1 => c.2 < 6
  | 2 => True
  | 3 => True
  | _ => c.2 < 7
/-- one step on a stack of at most 32 -/
def xSt (env : Nat → Int32) (c : xC) (st : List Int32) : Option (List Int32) := match c.1, st with
  | 0, st => if st.length < 32 then some (nI c.2 :: st) else none
  | 1, st => if st.length < 32 then some (env c.2 :: st) else none
  | 2, x :: st => some (-x :: st)
  | 3, x :: st => some (b01 (x = 0) :: st)
  | 2, [] => none
  | 3, [] => none
  | _, y :: x :: st => some (xOp c.2 x y :: st)
  | _, _ => none
def xRun (env : Nat → Int32) : List xC → List Int32 → Option (List Int32)
  | [], st => some st
  | c :: l, st => (xSt env c st).bind (xRun env l)
theorem xRun_app (env : Nat → Int32) (a b : List xC) (st : List Int32) : xRun env (a ++ b) st = (xRun env a st).bind (xRun env b) := by
  induction a generalizing st with
  | nil => rfl
  | cons c a ih =>
    show (xSt env c st).bind (xRun env (a ++ b)) = ((xSt env c st).bind (xRun env a)).bind (xRun env b)
    cases xSt env c st with
    | none => rfl
    | some st' => exact ih st'
/-- code that leaves v, with d places -/
def isV (env : Nat → Int32) (d : Nat) (l : List xC) (v : Int32) : Prop := ∀ st : List Int32, st.length + d ≤ 32 → xRun env l st = some (v :: st)
theorem isV_lit (env : Nat → Int32) (n : Nat) : isV env 1 [(0, n)] (nI n) := fun st h => by
  show (if st.length < 32 then some (nI n :: st) else none).bind (xRun env []) = _
  rw [if_pos (by omega)]
  rfl
theorem isV_nam (env : Nat → Int32) (i : Nat) : isV env 1 [(1, i)] (env i) := fun st h => by
  show (if st.length < 32 then some (env i :: st) else none).bind (xRun env []) = _
  rw [if_pos (by omega)]
  rfl
theorem isV_mono {env : Nat → Int32} {d d' : Nat} {l : List xC} {v : Int32} (h : isV env d l v) (hd : d ≤ d') : isV env d' l v := fun st hs => h st (by omega)
theorem isV_neg {env : Nat → Int32} {d : Nat} {l : List xC} {v : Int32} (h : isV env d l v) : isV env d (l ++ [(2, 0)]) (-v) := fun st hs => by
  rw [xRun_app, h st hs]
  rfl
theorem isV_not {env : Nat → Int32} {d : Nat} {l : List xC} {v : Int32} (h : isV env d l v) : isV env d (l ++ [(3, 0)]) (b01 (v = 0)) := fun st hs => by
  rw [xRun_app, h st hs]
  rfl
theorem isV_bin {env : Nat → Int32} {d d' : Nat} {l l' : List xC} {v v' : Int32} (o : Nat) (h : isV env d l v) (h' : isV env d' l' v') : isV env (max d (d' + 1)) (l ++ l' ++ [(4, o)]) (xOp o v v') := fun st hs => by
  rw [xRun_app, xRun_app, h st (by omega)]
  show (xRun env l' (v :: st)).bind _ = _
  rw [h' (v :: st) (by simp only [List.length_cons]; omega)]
  rfl
/-- n rounds of a loop -/
def goes {σ ε : Type} (b : σ → Option (σ ⊕ ε)) (n : Nat) (x y : σ) : Prop := ∀ m, iter b (n + m) x = iter b m y
theorem goes_0 {σ ε : Type} {b : σ → Option (σ ⊕ ε)} {x : σ} : goes b 0 x x := fun m => by rw [Nat.zero_add]
theorem goes_1 {σ ε : Type} {b : σ → Option (σ ⊕ ε)} {x y : σ} (h : b x = some (.inl y)) : goes b 1 x y := fun m => by
  rw [Nat.add_comm 1 m]
  show (match b x with
    | none => none
    | some (.inl y) => iter b m y
    | some (.inr e) => some e) = iter b m y
  rw [h]
theorem goes_tr {σ ε : Type} {b : σ → Option (σ ⊕ ε)} {n k : Nat} {x y z : σ} (h : goes b n x y) (h' : goes b k y z) : goes b (n + k) x z := fun m => by
  rw [Nat.add_assoc, h, h']
theorem goes_end {σ ε : Type} {b : σ → Option (σ ⊕ ε)} {n N : Nat} {x y : σ} {e : ε} (h : goes b n x y) (he : b y = some (.inr e)) (hn : n < N) : iter b N x = some e := by
  obtain ⟨k, rfl⟩ : ∃ k, N = n + (k + 1) := ⟨N - n - 1, by omega⟩
  rw [h]
  show (match b y with
    | none => none
    | some (.inl y) => iter b k y
    | some (.inr e) => some e) = some e
  rw [he]
/-- where a text lies -/
def txO (k : Nat) : Nat := if k = 0 then 53 else 84 + 3 * (k - 1)
theorem txO_kl {t : mTX} {k : Nat} (h : k ≤ t.2.1) : (mKl (LAY t) (txO k)).1 = 5 := by
  unfold txO
  by_cases q : k = 0
  · rw [if_pos q]; rfl
  · rw [if_neg q]
    show (LKL t (84 + 3 * (k - 1))).1 = 5
    unfold LKL
    have h1 : Nat.ble (84 + 3 * (k - 1)) 83 = false := by
      cases hh : Nat.ble (84 + 3 * (k - 1)) 83 with
      | false => rfl
      | true => have := Nat.le_of_ble_eq_true hh; omega
    have h2 : Nat.ble (84 + 3 * t.2.1) (84 + 3 * (k - 1)) = false := by
      cases hh : Nat.ble (84 + 3 * t.2.1) (84 + 3 * (k - 1)) with
      | false => rfl
      | true => have := Nat.le_of_ble_eq_true hh; omega
    rw [h1, h2]
    have h3 : (84 + 3 * (k - 1) - 84) % 3 = 0 := by omega
    simp only [cond_false]
    rw [h3]
    rfl
theorem txO_rf {t : mTX} {k : Nat} (h : k ≤ t.2.1) : mRf (LAY t) (txO k) 0 = some (txO k + 1) ∧ mRf (LAY t) (txO k) 1 = some (txO k + 2) := by
  unfold txO
  by_cases q : k = 0
  · rw [if_pos q]; exact ⟨rfl, rfl⟩
  · rw [if_neg q]
    have h1 : Nat.ble (84 + 3 * (k - 1)) 83 = false := by
      cases hh : Nat.ble (84 + 3 * (k - 1)) 83 with
      | false => rfl
      | true => have := Nat.le_of_ble_eq_true hh; omega
    have h2 : Nat.ble (84 + 3 * t.2.1) (84 + 3 * (k - 1)) = false := by
      cases hh : Nat.ble (84 + 3 * t.2.1) (84 + 3 * (k - 1)) with
      | false => rfl
      | true => have := Nat.le_of_ble_eq_true hh; omega
    have h3 : (84 + 3 * (k - 1) - 84) % 3 = 0 := by omega
    constructor
    · show LRF t (84 + 3 * (k - 1)) 0 = _
      unfold LRF
      rw [h1, h2]
      simp only [cond_false]
      rw [h3]
      rfl
    · show LRF t (84 + 3 * (k - 1)) 1 = _
      unfold LRF
      rw [h1, h2]
      simp only [cond_false]
      rw [h3]
      rfl
/-- how long a text's code is -/
def txN (t : mTX) (k : Nat) : Nat := if k = 0 then 5 else t.2.2 (k - 1)
theorem txO_cd {t : mTX} {k : Nat} (h : k ≤ t.2.1) : mKl (LAY t) (txO k + 1) = (20, txN t k) ∧ mKl (LAY t) (txO k + 2) = (20, 3) := by
  unfold txO txN
  by_cases q : k = 0
  · rw [if_pos q, if_pos q]; exact ⟨rfl, rfl⟩
  · rw [if_neg q, if_neg q]
    have g1 : ∀ j, Nat.ble (84 + 3 * (k - 1) + j) 83 = false := fun j => by
      cases hh : Nat.ble (84 + 3 * (k - 1) + j) 83 with
      | false => rfl
      | true => have := Nat.le_of_ble_eq_true hh; omega
    have g2 : ∀ j, j < 3 → Nat.ble (84 + 3 * t.2.1) (84 + 3 * (k - 1) + j) = false := fun j hj => by
      cases hh : Nat.ble (84 + 3 * t.2.1) (84 + 3 * (k - 1) + j) with
      | false => rfl
      | true => have := Nat.le_of_ble_eq_true hh; omega
    constructor
    · show LKL t (84 + 3 * (k - 1) + 1) = _
      unfold LKL
      rw [g1, g2 1 (by omega)]
      have h3 : (84 + 3 * (k - 1) + 1 - 84) % 3 = 1 := by omega
      have h4 : (84 + 3 * (k - 1) + 1 - 84) / 3 = k - 1 := by omega
      simp only [cond_false]
      rw [h3, h4]
      rfl
    · show LKL t (84 + 3 * (k - 1) + 2) = _
      unfold LKL
      rw [g1, g2 2 (by omega)]
      have h3 : (84 + 3 * (k - 1) + 2 - 84) % 3 = 2 := by omega
      simp only [cond_false]
      rw [h3]
      rfl
