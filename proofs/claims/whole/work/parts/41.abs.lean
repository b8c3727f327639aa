/-! THE ABSTRACT STATE: what class and model both hold: rows of numbers -/
def Ab : Type := Nat → Nat → Nat
def Ab.mud (A : Ab) (i : Nat) : Nat := A 0 i
def Ab.kd (A : Ab) (i : Nat) : Nat := A 1 i
def Ab.nu (A : Ab) (i : Nat) : Nat := A 2 i
def Ab.yd (A : Ab) (i : Nat) : Nat := A 3 i
def Ab.ld (A : Ab) (i : Nat) : Nat := A 4 i
def Ab.st (A : Ab) (i : Nat) : Nat := A 5 i
def Ab.wt (A : Ab) (i : Nat) : Nat := A 6 i
def Ab.ow (A : Ab) (i : Nat) : Nat := A 7 i
def Ab.rn (A : Ab) (i : Nat) : Nat := A 8 i
def Ab.pp (A : Ab) : Nat := A 9 0
def Ab.hr (A : Ab) : Nat := A 10 0
def Ab.ru (A : Ab) : Nat := A 11 0
/-- a row anew -/
def Ab.up (A : Ab) (f i v : Nat) : Ab := fun g j => if g = f then (if j = i then v else A g j) else A g j
/-- what holds of it always; tc: how many texts there are -/
def AbOK (A : Ab) (tc : Nat) : Prop :=
  (A.pp ≤ 5) ∧
  (A.hr ≤ 9999) ∧
  (A.ru < tc) ∧
  (∀ i, A.mud i ≤ 99) ∧
  (∀ a b, a < 8 → b < 8 → A.mud (a * 8 + b) = A.mud (b * 8 + a)) ∧
  (∀ a, a < 8 → A.mud (a * 8 + a) = 0) ∧
  (∀ p, p < A.pp → A.kd p ≤ 5) ∧
  (∀ p, p < A.pp → A.nu p ≤ 9) ∧
  (∀ p, p < A.pp → A.yd p ≤ 99) ∧
  (∀ p, p < A.pp → A.ld p ≤ 9) ∧
  (∀ p, p < A.pp → A.st p ≤ 7) ∧
  (∀ p, p < A.pp → A.wt p ≤ 9) ∧
  (∀ i, A.ow i ≤ 99) ∧
  (∀ a b, a < 5 → b < 5 → (A.pp ≤ a ∨ A.pp ≤ b) → A.ow (a * 5 + b) = 0) ∧
  (∀ i, A.rn i ≤ 9)
theorem AbOK.pp {A : Ab} {tc : Nat} (h : AbOK A tc) : A.pp ≤ 5 := h.1
theorem AbOK.hr {A : Ab} {tc : Nat} (h : AbOK A tc) : A.hr ≤ 9999 := h.2.1
theorem AbOK.ru {A : Ab} {tc : Nat} (h : AbOK A tc) : A.ru < tc := h.2.2.1
theorem AbOK.mud {A : Ab} {tc : Nat} (h : AbOK A tc) : ∀ i, A.mud i ≤ 99 := h.2.2.2.1
theorem AbOK.sym {A : Ab} {tc : Nat} (h : AbOK A tc) : ∀ a b, a < 8 → b < 8 → A.mud (a * 8 + b) = A.mud (b * 8 + a) := h.2.2.2.2.1
theorem AbOK.dia {A : Ab} {tc : Nat} (h : AbOK A tc) : ∀ a, a < 8 → A.mud (a * 8 + a) = 0 := h.2.2.2.2.2.1
theorem AbOK.kd {A : Ab} {tc : Nat} (h : AbOK A tc) : ∀ p, p < A.pp → A.kd p ≤ 5 := h.2.2.2.2.2.2.1
theorem AbOK.nu {A : Ab} {tc : Nat} (h : AbOK A tc) : ∀ p, p < A.pp → A.nu p ≤ 9 := h.2.2.2.2.2.2.2.1
theorem AbOK.yd {A : Ab} {tc : Nat} (h : AbOK A tc) : ∀ p, p < A.pp → A.yd p ≤ 99 := h.2.2.2.2.2.2.2.2.1
theorem AbOK.ld {A : Ab} {tc : Nat} (h : AbOK A tc) : ∀ p, p < A.pp → A.ld p ≤ 9 := h.2.2.2.2.2.2.2.2.2.1
theorem AbOK.st {A : Ab} {tc : Nat} (h : AbOK A tc) : ∀ p, p < A.pp → A.st p ≤ 7 := h.2.2.2.2.2.2.2.2.2.2.1
theorem AbOK.wt {A : Ab} {tc : Nat} (h : AbOK A tc) : ∀ p, p < A.pp → A.wt p ≤ 9 := h.2.2.2.2.2.2.2.2.2.2.2.1
theorem AbOK.ow {A : Ab} {tc : Nat} (h : AbOK A tc) : ∀ i, A.ow i ≤ 99 := h.2.2.2.2.2.2.2.2.2.2.2.2.1
theorem AbOK.owz {A : Ab} {tc : Nat} (h : AbOK A tc) : ∀ a b, a < 5 → b < 5 → (A.pp ≤ a ∨ A.pp ≤ b) → A.ow (a * 5 + b) = 0 := h.2.2.2.2.2.2.2.2.2.2.2.2.2.1
theorem AbOK.rn {A : Ab} {tc : Nat} (h : AbOK A tc) : ∀ i, A.rn i ≤ 9 := h.2.2.2.2.2.2.2.2.2.2.2.2.2.2
/-- a State of the program: the object, its mud, traits, debts, rain -/
def RS (o m t d r : Nat) (A : Ab) (s : mSG) : Prop :=
  (∀ i, i < 64 → s.1 m i = nI (A.mud i)) ∧
  (∀ p, p < A.pp → s.1 t (p * 6 + 0) = nI (A.st p)) ∧
  (∀ p, p < A.pp → s.1 t (p * 6 + 1) = nI (A.yd p)) ∧
  (∀ p, p < A.pp → s.1 t (p * 6 + 2) = nI (A.wt p)) ∧
  (∀ p, p < A.pp → s.1 t (p * 6 + 3) = nI (A.ld p)) ∧
  (∀ p, p < A.pp → s.1 t (p * 6 + 4) = nI (A.nu p)) ∧
  (∀ p, p < A.pp → s.1 t (p * 6 + 5) = nI (A.kd p)) ∧
  (∀ i, i < 25 → s.1 d i = nI (A.ow i)) ∧
  (∀ i, i < 24 → s.1 r i = nI (A.rn i)) ∧
  (s.1 o 4 = nI A.pp) ∧
  (s.1 o 5 = nI A.hr) ∧
  (s.1 o 6 = nI A.ru)
theorem RS.mud {o m t d r : Nat} {A : Ab} {s : mSG} (h : RS o m t d r A s) : ∀ i, i < 64 → s.1 m i = nI (A.mud i) := h.1
theorem RS.st {o m t d r : Nat} {A : Ab} {s : mSG} (h : RS o m t d r A s) : ∀ p, p < A.pp → s.1 t (p * 6 + 0) = nI (A.st p) := h.2.1
theorem RS.yd {o m t d r : Nat} {A : Ab} {s : mSG} (h : RS o m t d r A s) : ∀ p, p < A.pp → s.1 t (p * 6 + 1) = nI (A.yd p) := h.2.2.1
theorem RS.wt {o m t d r : Nat} {A : Ab} {s : mSG} (h : RS o m t d r A s) : ∀ p, p < A.pp → s.1 t (p * 6 + 2) = nI (A.wt p) := h.2.2.2.1
theorem RS.ld {o m t d r : Nat} {A : Ab} {s : mSG} (h : RS o m t d r A s) : ∀ p, p < A.pp → s.1 t (p * 6 + 3) = nI (A.ld p) := h.2.2.2.2.1
theorem RS.nu {o m t d r : Nat} {A : Ab} {s : mSG} (h : RS o m t d r A s) : ∀ p, p < A.pp → s.1 t (p * 6 + 4) = nI (A.nu p) := h.2.2.2.2.2.1
theorem RS.kd {o m t d r : Nat} {A : Ab} {s : mSG} (h : RS o m t d r A s) : ∀ p, p < A.pp → s.1 t (p * 6 + 5) = nI (A.kd p) := h.2.2.2.2.2.2.1
theorem RS.ow {o m t d r : Nat} {A : Ab} {s : mSG} (h : RS o m t d r A s) : ∀ i, i < 25 → s.1 d i = nI (A.ow i) := h.2.2.2.2.2.2.2.1
theorem RS.rn {o m t d r : Nat} {A : Ab} {s : mSG} (h : RS o m t d r A s) : ∀ i, i < 24 → s.1 r i = nI (A.rn i) := h.2.2.2.2.2.2.2.2.1
theorem RS.pp {o m t d r : Nat} {A : Ab} {s : mSG} (h : RS o m t d r A s) : s.1 o 4 = nI A.pp := h.2.2.2.2.2.2.2.2.2.1
theorem RS.hr {o m t d r : Nat} {A : Ab} {s : mSG} (h : RS o m t d r A s) : s.1 o 5 = nI A.hr := h.2.2.2.2.2.2.2.2.2.2.1
theorem RS.ru {o m t d r : Nat} {A : Ab} {s : mSG} (h : RS o m t d r A s) : s.1 o 6 = nI A.ru := h.2.2.2.2.2.2.2.2.2.2.2
/-- what the model has of it -/
def RM (A : Ab) (s : mSG) : Prop :=
  (∀ i, i < 64 → s.1 60 i = nI (A.mud i)) ∧
  (∀ p, p < A.pp → s.1 61 p = nI (A.kd p)) ∧
  (∀ p, p < A.pp → s.1 62 p = nI (A.nu p)) ∧
  (∀ p, p < A.pp → s.1 63 p = nI (A.yd p)) ∧
  (∀ p, p < A.pp → s.1 64 p = nI (A.ld p)) ∧
  (∀ p, p < A.pp → s.1 65 p = nI (A.st p)) ∧
  (∀ p, p < A.pp → s.1 66 p = nI (A.wt p)) ∧
  (∀ i, i < 25 → s.1 67 i = nI (A.ow i)) ∧
  (∀ i, i < 24 → s.1 68 i = nI (A.rn i)) ∧
  (s.1 56 15 = nI A.pp) ∧
  (s.1 56 16 = nI A.hr) ∧
  (s.1 56 4 = nI A.ru)
theorem RM.mud {A : Ab} {s : mSG} (h : RM A s) : ∀ i, i < 64 → s.1 60 i = nI (A.mud i) := h.1
theorem RM.kd {A : Ab} {s : mSG} (h : RM A s) : ∀ p, p < A.pp → s.1 61 p = nI (A.kd p) := h.2.1
theorem RM.nu {A : Ab} {s : mSG} (h : RM A s) : ∀ p, p < A.pp → s.1 62 p = nI (A.nu p) := h.2.2.1
theorem RM.yd {A : Ab} {s : mSG} (h : RM A s) : ∀ p, p < A.pp → s.1 63 p = nI (A.yd p) := h.2.2.2.1
theorem RM.ld {A : Ab} {s : mSG} (h : RM A s) : ∀ p, p < A.pp → s.1 64 p = nI (A.ld p) := h.2.2.2.2.1
theorem RM.st {A : Ab} {s : mSG} (h : RM A s) : ∀ p, p < A.pp → s.1 65 p = nI (A.st p) := h.2.2.2.2.2.1
theorem RM.wt {A : Ab} {s : mSG} (h : RM A s) : ∀ p, p < A.pp → s.1 66 p = nI (A.wt p) := h.2.2.2.2.2.2.1
theorem RM.ow {A : Ab} {s : mSG} (h : RM A s) : ∀ i, i < 25 → s.1 67 i = nI (A.ow i) := h.2.2.2.2.2.2.2.1
theorem RM.rn {A : Ab} {s : mSG} (h : RM A s) : ∀ i, i < 24 → s.1 68 i = nI (A.rn i) := h.2.2.2.2.2.2.2.2.1
theorem RM.pp {A : Ab} {s : mSG} (h : RM A s) : s.1 56 15 = nI A.pp := h.2.2.2.2.2.2.2.2.2.1
theorem RM.hr {A : Ab} {s : mSG} (h : RM A s) : s.1 56 16 = nI A.hr := h.2.2.2.2.2.2.2.2.2.2.1
theorem RM.ru {A : Ab} {s : mSG} (h : RM A s) : s.1 56 4 = nI A.ru := h.2.2.2.2.2.2.2.2.2.2.2
