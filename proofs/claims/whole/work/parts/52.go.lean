/-! WHAT LEAVES THE REST ALONE: work, and the cells of the state that is now -/
def nowC (a k : Nat) : Bool := scrC a k || (Nat.ble 8 a && Nat.ble a 11) || (Nat.ble 60 a && Nat.ble a 68) || (Nat.beq a 7 && (Nat.beq k 4 || Nat.beq k 5 || Nat.beq k 6)) || (Nat.beq a 56 && (Nat.beq k 4 || Nat.beq k 15 || Nat.beq k 16))
def nowE (e : Nat × Option Nat) : Bool := match e.2 with
  | none => scrE e || (Nat.ble 8 e.1 && Nat.ble e.1 11) || (Nat.ble 60 e.1 && Nat.ble e.1 68)
  | some k => nowC e.1 k
def nowW (W : List (Nat × Option Nat)) : Bool := W.all nowE
theorem now_w {W : List (Nat × Option Nat)} (h : nowW W = true) {a k : Nat} (hc : nowC a k = false) : mW W a k = false := by
  unfold mW
  rw [List.any_eq_false]
  intro e he q
  have h1 := List.all_eq_true.mp h e he
  obtain ⟨b, o⟩ := e
  simp only [Bool.and_eq_true] at q
  have hb : b = a := Nat.eq_of_beq_eq_true q.1
  subst hb
  cases o with
  | none =>
    have h1 : (((Nat.ble 17 b && Nat.ble b 21) || (Nat.ble 25 b && Nat.ble b 33) || (Nat.ble 35 b && Nat.ble b 44) || (Nat.ble 69 b && Nat.ble b 75)) || (Nat.ble 8 b && Nat.ble b 11) || (Nat.ble 60 b && Nat.ble b 68)) = true := h1
    unfold nowC scrC at hc
    simp only [Bool.or_eq_true, Bool.or_eq_false_iff] at h1 hc
    rcases h1 with (((( h1 | h1) | h1) | h1) | h1) | h1 <;> simp [h1] at hc
  | some j =>
    have hj : j = k := Nat.eq_of_beq_eq_true q.2
    subst hj
    have h1 : nowC b j = true := h1
    rw [h1] at hc
    cases hc
theorem now_wTx {W : List (Nat × Option Nat)} (h : nowW W = true) : wTx W = true := by
  unfold wTx
  rw [List.all_eq_true]
  intro e he
  have h1 := List.all_eq_true.mp h e he
  obtain ⟨b, o⟩ := e
  have key : b < 84 ∧ b ≠ 54 ∧ b ≠ 55 ∧ b ≠ 22 := by
    cases o with
    | none =>
      have h1 : (((Nat.ble 17 b && Nat.ble b 21) || (Nat.ble 25 b && Nat.ble b 33) || (Nat.ble 35 b && Nat.ble b 44) || (Nat.ble 69 b && Nat.ble b 75)) || (Nat.ble 8 b && Nat.ble b 11) || (Nat.ble 60 b && Nat.ble b 68)) = true := h1
      simp only [Bool.or_eq_true, Bool.and_eq_true, Nat.ble_eq] at h1
      omega
    | some k =>
      have h1 : nowC b k = true := h1
      unfold nowC scrC at h1
      simp only [Bool.or_eq_true, Bool.and_eq_true, Nat.ble_eq, Nat.beq_eq] at h1
      omega
  have e1 : Nat.beq b 54 = false := by
    cases hb : Nat.beq b 54 with
    | false => rfl
    | true => exact absurd (Nat.eq_of_beq_eq_true hb) key.2.1
  have e2 : Nat.beq b 55 = false := by
    cases hb : Nat.beq b 55 with
    | false => rfl
    | true => exact absurd (Nat.eq_of_beq_eq_true hb) key.2.2.1
  have e3 : Nat.beq b 22 = false := by
    cases hb : Nat.beq b 22 with
    | false => rfl
    | true => exact absurd (Nat.eq_of_beq_eq_true hb) key.2.2.2
  have e4 : Nat.blt b 84 = true := by
    rw [Nat.blt_eq]
    exact key.1
  show (Nat.blt b 84 && (!(Nat.beq b 54)) && (!(Nat.beq b 55)) && (!(Nat.beq b 22))) = true
  rw [e1, e2, e3, e4]
  rfl
theorem KP_now {W : List (Nat × Option Nat)} {hk : Bool} {K A : Ab} {tc : Nat} {s s' : mSG} (h : KP hk K A tc s) (f : Fr W s s') (hw : nowW W = true) : KP hk K A tc s' := by
  have g : ∀ a k, nowC a k = false → s'.1 a k = s.1 a k := fun a k hc => (f _ _ (now_w hw hc)).1
  obtain ⟨h1, h2, h3⟩ := h
  refine ⟨by rw [g 6 10 rfl]; exact h1, fun q => by rw [g 56 47 rfl]; exact h2 q, fun q => ?_⟩
  obtain ⟨k1, k2, k3, k4, k5, k6, k7, k8, k9, k10, k11⟩ := h3 q
  refine ⟨RS_fr k1 f (fun _ => now_w hw rfl) (fun _ => now_w hw rfl) (fun _ => now_w hw rfl) (fun _ => now_w hw rfl) (fun _ => now_w hw rfl), k2, k3, k4, by rw [g 56 47 rfl]; exact k5, by rw [g 56 48 rfl]; exact k6, by rw [g 56 49 rfl]; exact k7, ?_, ?_, ?_, ?_⟩
  · intro i hi; rw [g 76 i rfl]; exact k8 i hi
  · intro i hi; rw [g 78 i rfl]; exact k9 i hi
  · intro i hi; rw [g 79 i rfl]; exact k10 i hi
  · intro p hp; rw [g 77 _ rfl, g 77 _ rfl, g 77 _ rfl, g 77 _ rfl, g 77 _ rfl]; exact k11 p hp
theorem TP_now {W : List (Nat × Option Nat)} {ts : Nat} {tp : Nat → Nat} {s s' : mSG} (h : TP ts tp s) (f : Fr W s s') (hw : nowW W = true) : TP ts tp s' := by
  have g : ∀ a k, nowC a k = false → s'.1 a k = s.1 a k := fun a k hc => (f _ _ (now_w hw hc)).1
  obtain ⟨h1, h2, h3, h4⟩ := h
  exact ⟨h1, by rw [g 6 12 rfl]; exact h2, by rw [g 56 6 rfl]; exact h3, fun i hi => by rw [g 23 i rfl, g 59 i rfl]; exact h4 i hi⟩
theorem SH_now {W : List (Nat × Option Nat)} {sk sn : Nat → Nat} {si : Nat → Nat → Int32} {s s' : mSG} (h : SH sk sn si s) (f : Fr W s s') (hw : nowW W = true) : SH sk sn si s' := by
  have g : ∀ a k, nowC a k = false → s'.1 a k = s.1 a k := fun a k hc => (f _ _ (now_w hw hc)).1
  have gq : ∀ a k, nowC a k = false → s'.2.1 a k = s.2.1 a k := fun a k hc => (f _ _ (now_w hw hc)).2.1
  intro k hk
  obtain ⟨h1, h2⟩ := h k hk
  have hc : k = 0 ∨ k = 1 ∨ k = 2 ∨ k = 3 := by omega
  refine ⟨by rw [gq 24 k rfl]; exact h1, ?_⟩
  rcases hc with rfl | rfl | rfl | rfl
  all_goals
    rcases h2 with ⟨a1, a2, a3⟩ | ⟨a1, a2, a3, a4, a5, a6, a7, a8, a9⟩
    · refine Or.inl ⟨a1, ?_, ?_⟩
      · rw [g _ _ rfl]; exact a2
      · rw [g _ _ rfl]; exact a3
    · refine Or.inr ⟨a1, a2, a3, ?_, ?_, ?_, ?_, ?_, ?_⟩
      · rw [g _ _ rfl]; exact a4
      · rw [g _ _ rfl]; exact a5
      · rw [g _ _ rfl]; exact a6
      · rw [g _ _ rfl]; exact a7
      · rw [g _ _ rfl]; exact a8
      · intro i hi; rw [g _ _ rfl, g _ _ rfl]; exact a9 i hi
theorem KP_A {hk : Bool} {K A A' : Ab} {tc : Nat} {s : mSG} (h : KP hk K A tc s) (hp : A.pp ≤ A'.pp) (hd : ∀ p, p < A.pp → A'.kd p = A.kd p) : KP hk K A' tc s := by
  obtain ⟨h1, h2, h3⟩ := h
  refine ⟨h1, h2, fun q => ?_⟩
  obtain ⟨k1, k2, k3, k4, k5⟩ := h3 q
  exact ⟨k1, k2, Nat.le_trans k3 hp, fun p hq => (k4 p hq).trans (hd p (Nat.lt_of_lt_of_le hq k3)).symm, k5⟩
/-- the rest -/
def IW (t : mTX) (tc : Nat) (V : mVT) (A : Ab) (hk : Bool) (K : Ab) (ts : Nat) (tp : Nat → Nat) (sk sn : Nat → Nat) (si : Nat → Nat → Int32) (s : mSG) : Prop := (CT t tc V s ∧ MT tc V s ∧ s.1 6 11 = nI tc ∧ s.1 56 3 = nI tc ∧ t.2.1 + 1 = tc ∧ tc ≤ 6) ∧ KP hk K A tc s ∧ TP ts tp s ∧ SH sk sn si s ∧ (s.1 34 8 = -1 ∧ s.1 34 9 = -1) ∧ SS s
theorem IV_IW {t : mTX} {tc : Nat} {V : mVT} {A : Ab} {hk : Bool} {K : Ab} {ts : Nat} {tp sk sn : Nat → Nat} {si : Nat → Nat → Int32} {s : mSG} (h : IV t tc V A hk K ts tp sk sn si s) : IW t tc V A hk K ts tp sk sn si s := ⟨h.1, h.2.2⟩
theorem IW_fr {W : List (Nat × Option Nat)} {t : mTX} {tc : Nat} {V : mVT} {A : Ab} {hk : Bool} {K : Ab} {ts : Nat} {tp sk sn : Nat → Nat} {si : Nat → Nat → Int32} {s s' : mSG} (h : IW t tc V A hk K ts tp sk sn si s) (f : Fr W s s') (hw : nowW W = true) : IW t tc V A hk K ts tp sk sn si s' := by
  have g : ∀ a k, nowC a k = false → s'.1 a k = s.1 a k := fun a k hc => (f _ _ (now_w hw hc)).1
  obtain ⟨⟨a1, a2, a3, a4, a5, a6⟩, c1, d1, e1, ⟨p1, p2⟩, z1⟩ := h
  exact ⟨⟨CT_fr a1 f (now_wTx hw), MT_fr a2 f (fun _ => now_w hw rfl) (fun _ => now_w hw rfl), by rw [g 6 11 rfl]; exact a3, by rw [g 56 3 rfl]; exact a4, a5, a6⟩, KP_now c1 f hw, TP_now d1 f hw, SH_now e1 f hw, ⟨by rw [g 34 8 rfl]; exact p1, by rw [g 34 9 rfl]; exact p2⟩, SS_fr z1 f (fun _ => now_w hw rfl) (fun _ => now_w hw rfl)⟩
theorem IW_IV {t : mTX} {tc : Nat} {V : mVT} {A A' : Ab} {hk : Bool} {K : Ab} {ts : Nat} {tp sk sn : Nat → Nat} {si : Nat → Nat → Int32} {s : mSG} (h : IW t tc V A hk K ts tp sk sn si s) (h1 : RS 7 8 9 10 11 A' s) (h2 : RM A' s) (h3 : AbOK A' tc) (hp : A.pp ≤ A'.pp) (hd : ∀ p, p < A.pp → A'.kd p = A.kd p) : IV t tc V A' hk K ts tp sk sn si s := ⟨h.1, ⟨h1, h2, h3⟩, KP_A h.2.1 hp hd, h.2.2⟩
/-- go -/
theorem L_go {t : mTX} {s : mSG} (h : INV t s) (x y : Int32) : ∃ v s1 s2, X8_go t x y s = some (v, s1) ∧ X9_go x y s1 = some (v, s2) ∧ INV t s2 := by
  have hI := h
  obtain ⟨tc, V, A, hk, K, ts, tp, sk, sn, si, hv⟩ := h
  have hv' := hv
  obtain ⟨⟨a1, a2, a3, a4, a5, a6⟩, ⟨b1, b2, b3⟩, _⟩ := hv'
  have h5 := b3.pp
  unfold X8_go X9_go
  rw [c_isOne_7 b1 h5, c_isStone]
  simp only [m_isStone]
  by_cases q1 : inP x A.pp
  · by_cases q2 : inR y 7
    · rw [decide_eq_true q1, decide_eq_true q2, if_pos rfl, if_pos rfl]
      obtain ⟨p, hp, rfl⟩ := inP_of q1 (by omega)
      obtain ⟨b, hb, rfl⟩ := inR_of q2 (by omega)
      obtain ⟨s1, e1, r1⟩ := c_moves_7 a1 a3 a6 b1 b3 hp hb
      rw [ob e1]
      have f1 := FR_X8_moves_7 _ _ _ _ _ e1
      have w1 := IW_fr (IV_IW hv) f1 rfl
      have m1 := RM_fr b2 f1 (fun _ => rfl) (fun _ => rfl) (fun _ => rfl) (fun _ => rfl) (fun _ => rfl) (fun _ => rfl) (fun _ => rfl) (fun _ => rfl) (fun _ => rfl) rfl rfl rfl
      obtain ⟨s2, e2, r2⟩ := m_goes w1.1.1 w1.1.2.1 m1 b3 hp hb
      have f2 := FR_X9_goes _ _ _ _ e2
      have w2 := IW_fr w1 f2 rfl
      have c2 := RS_fr r1 f2 (fun _ => rfl) (fun _ => rfl) (fun _ => rfl) (fun _ => rfl) (fun _ => rfl)
      have hpp : (aMove V A p b).pp = A.pp := by
        unfold aMove
        split <;> rfl
      have hkd : ∀ q, (aMove V A p b).kd q = A.kd q := by
        intro q
        unfold aMove
        split <;> rfl
      have iv2 := IW_IV w2 c2 r2 (aMove_ok b3 hb) (by rw [hpp]; exact Nat.le_refl _) (fun q _ => hkd q)
      have e2' : ∀ {α : Type} (F : Bool × mSG → Option α), (X9_goes (nI p) (nI b) s1).bind F = F (decide (aH V A p b ≠ 0), s2) := fun F => ob e2 F
      by_cases q0 : aH V A p b = 0
      · refine ⟨-3, s1, s2, ?_, ?_, _, _, _, _, _, _, _, _, _, _, iv2⟩
        · rw [decide_eq_false (fun g => g q0)]; rfl
        · rw [m_isOne m1 h5, decide_eq_true q1, if_pos rfl, e2', decide_eq_false (fun g => g q0)]; rfl
      · refine ⟨nI (aMove V A p b).hr, s1, s2, ?_, ?_, _, _, _, _, _, _, _, _, _, _, iv2⟩
        · rw [decide_eq_true q0]
          show some (s1.1 7 5, s1) = _
          rw [r1.hr]
        · rw [m_isOne m1 h5, decide_eq_true q1, if_pos rfl, e2', decide_eq_true q0]
          show some (s2.1 56 16, s2) = _
          rw [r2.hr]
    · rw [decide_eq_true q1, decide_eq_false q2]
      refine ⟨-2, s, s, rfl, ?_, hI⟩
      rw [m_isOne b2 h5, decide_eq_true q1]
      rfl
  · rw [decide_eq_false q1]
    refine ⟨-2, s, s, rfl, ?_, hI⟩
    rw [m_isOne b2 h5, decide_eq_false q1]
    rfl
