/-! THE INVARIANT OF A RUN -/
/-- cells that are only for work -/
def scrC (a k : Nat) : Bool := (Nat.ble 17 a && Nat.ble a 21) || (Nat.ble 25 a && Nat.ble a 33) || (Nat.ble 35 a && Nat.ble a 44) || (Nat.ble 69 a && Nat.ble a 75) || (Nat.beq a 34 && (Nat.beq k 10 || Nat.beq k 11)) || (Nat.beq a 56 && ((Nat.ble 18 k && Nat.ble k 32) || Nat.beq k 36 || Nat.beq k 37 || Nat.beq k 42))
def scrE (e : Nat × Option Nat) : Bool := match e.2 with
  | none => (Nat.ble 17 e.1 && Nat.ble e.1 21) || (Nat.ble 25 e.1 && Nat.ble e.1 33) || (Nat.ble 35 e.1 && Nat.ble e.1 44) || (Nat.ble 69 e.1 && Nat.ble e.1 75)
  | some k => scrC e.1 k
def scrW (W : List (Nat × Option Nat)) : Bool := W.all scrE
theorem scr_w {W : List (Nat × Option Nat)} (h : scrW W = true) {a k : Nat} (hc : scrC a k = false) : mW W a k = false := by
  unfold mW
  rw [List.any_eq_false]
  intro e he q
  have h1 := List.all_eq_true.mp h e he
  obtain ⟨b, o⟩ := e
  simp only [Bool.and_eq_true] at q
  have hb : b = a := Nat.eq_of_beq_eq_true q.1
  subst hb
  cases o with
  | none =>
    have h1 : ((Nat.ble 17 b && Nat.ble b 21) || (Nat.ble 25 b && Nat.ble b 33) || (Nat.ble 35 b && Nat.ble b 44) || (Nat.ble 69 b && Nat.ble b 75)) = true := h1
    unfold scrC at hc
    rw [h1] at hc
    simp at hc
  | some j =>
    have hj : j = k := Nat.eq_of_beq_eq_true q.2
    subst hj
    have h1 : scrC b j = true := h1
    rw [h1] at hc
    cases hc
/-- what was kept by an image -/
def KP (hk : Bool) (K A : Ab) (tc : Nat) (s : mSG) : Prop := s.1 6 10 = b2i hk ∧ (hk = false → s.1 56 47 = -1) ∧ (hk = true → RS 12 13 14 15 16 K s ∧ AbOK K tc ∧ K.pp ≤ A.pp ∧ (∀ p, p < K.pp → K.kd p = A.kd p) ∧ s.1 56 47 = nI K.pp ∧ s.1 56 48 = nI K.hr ∧ s.1 56 49 = nI K.ru ∧ (∀ i, i < 64 → s.1 76 i = nI (K.mud i)) ∧ (∀ i, i < 25 → s.1 78 i = nI (K.ow i)) ∧ (∀ i, i < 24 → s.1 79 i = nI (K.rn i)) ∧ (∀ p, p < K.pp → s.1 77 p = nI (K.st p) ∧ s.1 77 (5 + p) = nI (K.yd p) ∧ s.1 77 (10 + p) = nI (K.wt p) ∧ s.1 77 (15 + p) = nI (K.ld p) ∧ s.1 77 (20 + p) = nI (K.nu p)))
/-- the tape -/
def TP (ts : Nat) (tp : Nat → Nat) (s : mSG) : Prop := ts ≤ 160 ∧ s.1 6 12 = nI ts ∧ s.1 56 6 = nI ts ∧ ∀ i, i < ts → tp i ≤ 255 ∧ s.1 23 i = nI (tp i) ∧ s.1 59 i = nI (tp i)
/-- the sheets: sk 0 missing, else the sort and 1 -/
def SH (sk sn : Nat → Nat) (si : Nat → Nat → Int32) (s : mSG) : Prop := ∀ k, k < 4 → s.2.1 24 k = some (45 + 2 * k) ∧ (sk k = 0 ∧ s.1 (45 + 2 * k) 1 = -1 ∧ s.1 80 k = 0 ∨ (1 ≤ sk k ∧ sk k ≤ 3 ∧ sn k ≤ 40 ∧ s.1 (45 + 2 * k) 1 = nI (sk k - 1) ∧ s.1 (45 + 2 * k) 2 = nI (sn k) ∧ s.1 80 k = 1 ∧ s.1 81 k = nI (sk k - 1) ∧ s.1 82 k = nI (sn k) ∧ ∀ i, i < sn k → s.1 (46 + 2 * k) i = si k i ∧ s.1 83 (40 * k + i) = si k i))
/-- what never changes: the kinds' row, the words -/
def wordsL : List Nat := [109, 117, 100, 32, 119, 101, 116, 32, 108, 111, 97, 100, 32, 114, 97, 105, 110, 32, 102, 114, 111, 109, 32, 116, 111, 32, 119, 97, 110, 116, 115, 32, 116, 97, 107, 101, 115, 32, 108, 101, 110, 100, 115, 32, 111, 114, 32, 97, 110, 100, 32, 110, 111, 116, 32]
def SS (s : mSG) : Prop := (s.1 1 0 = -1 ∧ s.1 1 1 = 0 ∧ s.1 1 2 = 0 ∧ s.1 1 3 = 1 ∧ s.1 1 4 = 2 ∧ s.1 1 5 = 1) ∧ ∀ i, i < 55 → s.1 5 i = nI (wordsL.getD i 0)
theorem SS_fr {W : List (Nat × Option Nat)} {s s' : mSG} (h : SS s) (f : Fr W s s') (h1 : ∀ k, mW W 1 k = false) (h5 : ∀ k, mW W 5 k = false) : SS s' := by
  obtain ⟨⟨a0, a1, a2, a3, a4, a5⟩, b⟩ := h
  exact ⟨⟨by rw [(f _ _ (h1 _)).1]; exact a0, by rw [(f _ _ (h1 _)).1]; exact a1, by rw [(f _ _ (h1 _)).1]; exact a2, by rw [(f _ _ (h1 _)).1]; exact a3, by rw [(f _ _ (h1 _)).1]; exact a4, by rw [(f _ _ (h1 _)).1]; exact a5⟩, fun i hi => by rw [(f _ _ (h5 _)).1]; exact b i hi⟩
/-- all of it -/
def IV (t : mTX) (tc : Nat) (V : mVT) (A : Ab) (hk : Bool) (K : Ab) (ts : Nat) (tp : Nat → Nat) (sk sn : Nat → Nat) (si : Nat → Nat → Int32) (s : mSG) : Prop := (CT t tc V s ∧ MT tc V s ∧ s.1 6 11 = nI tc ∧ s.1 56 3 = nI tc ∧ t.2.1 + 1 = tc ∧ tc ≤ 6) ∧ (RS 7 8 9 10 11 A s ∧ RM A s ∧ AbOK A tc) ∧ KP hk K A tc s ∧ TP ts tp s ∧ SH sk sn si s ∧ (s.1 34 8 = -1 ∧ s.1 34 9 = -1) ∧ SS s
theorem scr_wTx {W : List (Nat × Option Nat)} (h : scrW W = true) : wTx W = true := by
  unfold wTx
  rw [List.all_eq_true]
  intro e he
  have h1 := List.all_eq_true.mp h e he
  obtain ⟨b, o⟩ := e
  have key : b < 84 ∧ b ≠ 54 ∧ b ≠ 55 ∧ b ≠ 22 := by
    cases o with
    | none =>
      have h1 : ((Nat.ble 17 b && Nat.ble b 21) || (Nat.ble 25 b && Nat.ble b 33) || (Nat.ble 35 b && Nat.ble b 44) || (Nat.ble 69 b && Nat.ble b 75)) = true := h1
      simp only [Bool.or_eq_true, Bool.and_eq_true, Nat.ble_eq] at h1
      omega
    | some k =>
      have h1 : scrC b k = true := h1
      unfold scrC at h1
      simp only [Bool.or_eq_true, Bool.and_eq_true, Nat.ble_eq, Nat.beq_eq] at h1
      omega
  have e1 : Nat.beq b 54 = false := by
    cases hb : Nat.beq b 54 with
    | false => rfl
    | true => exact absurd (Nat.eq_of_beq_eq_true hb) key.2.1
  have e2 : Nat.beq b 55 = false := by
    cases hb : Nat.beq b 55 with
    | false => rfl
    | true => exact absurd (Nat.eq_of_beq_eq_true hb) key.2.2.1
  have e3 : Nat.beq b 22 = false := by
    cases hb : Nat.beq b 22 with
    | false => rfl
    | true => exact absurd (Nat.eq_of_beq_eq_true hb) key.2.2.2
  have e4 : Nat.blt b 84 = true := by
    rw [Nat.blt_eq]
    exact key.1
  show (Nat.blt b 84 && (!(Nat.beq b 54)) && (!(Nat.beq b 55)) && (!(Nat.beq b 22))) = true
  rw [e1, e2, e3, e4]
  rfl
theorem KP_fr {W : List (Nat × Option Nat)} {hk : Bool} {K A : Ab} {tc : Nat} {s s' : mSG} (h : KP hk K A tc s) (f : Fr W s s') (hw : scrW W = true) : KP hk K A tc s' := by
  have g : ∀ a k, scrC a k = false → s'.1 a k = s.1 a k := fun a k hc => (f _ _ (scr_w hw hc)).1
  obtain ⟨h1, h2, h3⟩ := h
  refine ⟨by rw [g 6 10 rfl]; exact h1, fun q => by rw [g 56 47 rfl]; exact h2 q, fun q => ?_⟩
  obtain ⟨k1, k2, k3, k4, k5, k6, k7, k8, k9, k10, k11⟩ := h3 q
  refine ⟨RS_fr k1 f (fun _ => scr_w hw rfl) (fun _ => scr_w hw rfl) (fun _ => scr_w hw rfl) (fun _ => scr_w hw rfl) (fun _ => scr_w hw rfl), k2, k3, k4, by rw [g 56 47 rfl]; exact k5, by rw [g 56 48 rfl]; exact k6, by rw [g 56 49 rfl]; exact k7, ?_, ?_, ?_, ?_⟩
  · intro i hi; rw [g 76 i rfl]; exact k8 i hi
  · intro i hi; rw [g 78 i rfl]; exact k9 i hi
  · intro i hi; rw [g 79 i rfl]; exact k10 i hi
  · intro p hp; rw [g 77 _ rfl, g 77 _ rfl, g 77 _ rfl, g 77 _ rfl, g 77 _ rfl]; exact k11 p hp
theorem TP_fr {W : List (Nat × Option Nat)} {ts : Nat} {tp : Nat → Nat} {s s' : mSG} (h : TP ts tp s) (f : Fr W s s') (hw : scrW W = true) : TP ts tp s' := by
  have g : ∀ a k, scrC a k = false → s'.1 a k = s.1 a k := fun a k hc => (f _ _ (scr_w hw hc)).1
  obtain ⟨h1, h2, h3, h4⟩ := h
  exact ⟨h1, by rw [g 6 12 rfl]; exact h2, by rw [g 56 6 rfl]; exact h3, fun i hi => by rw [g 23 i rfl, g 59 i rfl]; exact h4 i hi⟩
theorem SH_fr {W : List (Nat × Option Nat)} {sk sn : Nat → Nat} {si : Nat → Nat → Int32} {s s' : mSG} (h : SH sk sn si s) (f : Fr W s s') (hw : scrW W = true) : SH sk sn si s' := by
  have g : ∀ a k, scrC a k = false → s'.1 a k = s.1 a k := fun a k hc => (f _ _ (scr_w hw hc)).1
  have gq : ∀ a k, scrC a k = false → s'.2.1 a k = s.2.1 a k := fun a k hc => (f _ _ (scr_w hw hc)).2.1
  intro k hk
  obtain ⟨h1, h2⟩ := h k hk
  have hc : k = 0 ∨ k = 1 ∨ k = 2 ∨ k = 3 := by omega
  refine ⟨by rw [gq 24 k rfl]; exact h1, ?_⟩
  rcases hc with rfl | rfl | rfl | rfl
  all_goals
    rcases h2 with ⟨a1, a2, a3⟩ | ⟨a1, a2, a3, a4, a5, a6, a7, a8, a9⟩
    · refine Or.inl ⟨a1, ?_, ?_⟩
      · rw [g _ _ rfl]; exact a2
      · rw [g _ _ rfl]; exact a3
    · refine Or.inr ⟨a1, a2, a3, ?_, ?_, ?_, ?_, ?_, ?_⟩
      · rw [g _ _ rfl]; exact a4
      · rw [g _ _ rfl]; exact a5
      · rw [g _ _ rfl]; exact a6
      · rw [g _ _ rfl]; exact a7
      · rw [g _ _ rfl]; exact a8
      · intro i hi; rw [g _ _ rfl, g _ _ rfl]; exact a9 i hi
/-- work leaves all as it is -/
theorem IV_fr {W : List (Nat × Option Nat)} {t : mTX} {tc : Nat} {V : mVT} {A : Ab} {hk : Bool} {K : Ab} {ts : Nat} {tp sk sn : Nat → Nat} {si : Nat → Nat → Int32} {s s' : mSG} (h : IV t tc V A hk K ts tp sk sn si s) (f : Fr W s s') (hw : scrW W = true) : IV t tc V A hk K ts tp sk sn si s' := by
  have g : ∀ a k, scrC a k = false → s'.1 a k = s.1 a k := fun a k hc => (f _ _ (scr_w hw hc)).1
  obtain ⟨⟨a1, a2, a3, a4, a5, a6⟩, ⟨b1, b2, b3⟩, c1, d1, e1, ⟨p1, p2⟩, z1⟩ := h
  refine ⟨⟨CT_fr a1 f (scr_wTx hw), MT_fr a2 f (fun _ => scr_w hw rfl) (fun _ => scr_w hw rfl), by rw [g 6 11 rfl]; exact a3, by rw [g 56 3 rfl]; exact a4, a5, a6⟩, ⟨RS_fr b1 f (fun _ => scr_w hw rfl) (fun _ => scr_w hw rfl) (fun _ => scr_w hw rfl) (fun _ => scr_w hw rfl) (fun _ => scr_w hw rfl), RM_fr b2 f (fun _ => scr_w hw rfl) (fun _ => scr_w hw rfl) (fun _ => scr_w hw rfl) (fun _ => scr_w hw rfl) (fun _ => scr_w hw rfl) (fun _ => scr_w hw rfl) (fun _ => scr_w hw rfl) (fun _ => scr_w hw rfl) (fun _ => scr_w hw rfl) (scr_w hw rfl) (scr_w hw rfl) (scr_w hw rfl), b3⟩, KP_fr c1 f hw, TP_fr d1 f hw, SH_fr e1 f hw, ⟨by rw [g 34 8 rfl]; exact p1, by rw [g 34 9 rfl]; exact p2⟩, SS_fr z1 f (fun _ => scr_w hw rfl) (fun _ => scr_w hw rfl)⟩
