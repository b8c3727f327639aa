/-! THE ABSTRACT STATE: what class and model both hold -/
structure Ab where
  mud : Nat → Nat
  kd : Nat → Nat
  nu : Nat → Nat
  yd : Nat → Nat
  ld : Nat → Nat
  st : Nat → Nat
  wt : Nat → Nat
  ow : Nat → Nat
  rn : Nat → Nat
  pp : Nat
  hr : Nat
  ru : Nat
/-- what holds of it always; tc: how many texts there are -/
structure AbOK (A : Ab) (tc : Nat) : Prop where
  pp : A.pp ≤ 5
  hr : A.hr ≤ 9999
  ru : A.ru < tc
  mud : ∀ i, A.mud i ≤ 99
  sym : ∀ a b, a < 8 → b < 8 → A.mud (a * 8 + b) = A.mud (b * 8 + a)
  dia : ∀ a, A.mud (a * 8 + a) = 0
  kd : ∀ p, p < A.pp → A.kd p ≤ 5
  nu : ∀ p, p < A.pp → A.nu p ≤ 9
  yd : ∀ p, p < A.pp → A.yd p ≤ 99
  ld : ∀ p, p < A.pp → A.ld p ≤ 9
  st : ∀ p, p < A.pp → A.st p ≤ 7
  wt : ∀ p, p < A.pp → A.wt p ≤ 9
  ow : ∀ i, A.ow i ≤ 99
  owz : ∀ a b, a < 5 → b < 5 → (A.pp ≤ a ∨ A.pp ≤ b) → A.ow (a * 5 + b) = 0
  rn : ∀ i, A.rn i ≤ 9
/-- a State of the class: the object, its mud, traits, debts, rain -/
structure RS (o m t d r : Nat) (A : Ab) (s : mSG) : Prop where
  mud : ∀ i, i < 64 → s.1 m i = nI (A.mud i)
  st : ∀ p, p < A.pp → s.1 t (p * 6) = nI (A.st p)
  yd : ∀ p, p < A.pp → s.1 t (p * 6 + 1) = nI (A.yd p)
  wt : ∀ p, p < A.pp → s.1 t (p * 6 + 2) = nI (A.wt p)
  ld : ∀ p, p < A.pp → s.1 t (p * 6 + 3) = nI (A.ld p)
  nu : ∀ p, p < A.pp → s.1 t (p * 6 + 4) = nI (A.nu p)
  kd : ∀ p, p < A.pp → s.1 t (p * 6 + 5) = nI (A.kd p)
  ow : ∀ i, i < 25 → s.1 d i = nI (A.ow i)
  rn : ∀ i, i < 24 → s.1 r i = nI (A.rn i)
  pp : s.1 o 4 = nI A.pp
  hr : s.1 o 5 = nI A.hr
  ru : s.1 o 6 = nI A.ru
/-- what the model has of it -/
structure RM (A : Ab) (s : mSG) : Prop where
  mud : ∀ i, i < 64 → s.1 60 i = nI (A.mud i)
  kd : ∀ p, p < A.pp → s.1 61 p = nI (A.kd p)
  nu : ∀ p, p < A.pp → s.1 62 p = nI (A.nu p)
  yd : ∀ p, p < A.pp → s.1 63 p = nI (A.yd p)
  ld : ∀ p, p < A.pp → s.1 64 p = nI (A.ld p)
  st : ∀ p, p < A.pp → s.1 65 p = nI (A.st p)
  wt : ∀ p, p < A.pp → s.1 66 p = nI (A.wt p)
  ow : ∀ i, i < 25 → s.1 67 i = nI (A.ow i)
  rn : ∀ i, i < 24 → s.1 68 i = nI (A.rn i)
  pp : s.1 56 15 = nI A.pp
  hr : s.1 56 16 = nI A.hr
  ru : s.1 56 4 = nI A.ru
