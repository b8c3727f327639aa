/-! FRAMES BY COMPONENT -/
def frW (C : Nat → Nat → Bool) (CA : Nat → Bool) (W : List (Nat × Option Nat)) : Bool := W.all (fun e => match e.2 with
  | none => !(CA e.1)
  | some k => !(C e.1 k))
theorem frW_w {C : Nat → Nat → Bool} {CA : Nat → Bool} (hC : ∀ a k, C a k = true → CA a = true) {W : List (Nat × Option Nat)} (h : frW C CA W = true) {a k : Nat} (hc : C a k = true) : mW W a k = false := by
  unfold mW
  rw [List.any_eq_false]
  intro e he q
  have h1 := List.all_eq_true.mp h e he
  obtain ⟨b, o⟩ := e
  simp only [Bool.and_eq_true] at q
  have hb : b = a := Nat.eq_of_beq_eq_true q.1
  subst hb
  cases o with
  | none =>
    have h1 : (!(CA b)) = true := h1
    rw [hC b k hc] at h1
    cases h1
  | some j =>
    have hj : j = k := Nat.eq_of_beq_eq_true q.2
    subst hj
    have h1 : (!(C b j)) = true := h1
    rw [hc] at h1
    cases h1
def kpC (a k : Nat) : Bool := (Nat.ble 12 a && Nat.ble a 16) || (Nat.ble 76 a && Nat.ble a 79) || (Nat.beq a 6 && (Nat.beq k 10)) || (Nat.beq a 56 && (Nat.beq k 47 || Nat.beq k 48 || Nat.beq k 49))
def kpA (a : Nat) : Bool := (Nat.ble 12 a && Nat.ble a 16) || (Nat.ble 76 a && Nat.ble a 79) || Nat.beq a 6 || Nat.beq a 56
theorem kp_CA : ∀ a k, kpC a k = true → kpA a = true := by
  intro a k h
  unfold kpC at h
  unfold kpA
  simp only [Bool.or_eq_true, Bool.and_eq_true] at h ⊢
  rcases h with ((h | h) | h) | h
  · exact Or.inl (Or.inl (Or.inl (h)))
  · exact Or.inl (Or.inl (Or.inr (h)))
  · exact Or.inl (Or.inr (h.1))
  · exact Or.inr (h.1)
theorem kp_w {W : List (Nat × Option Nat)} (h : frW kpC kpA W = true) {a k : Nat} (hc : kpC a k = true) : mW W a k = false := frW_w kp_CA h hc
def tpC (a k : Nat) : Bool := (Nat.ble 23 a && Nat.ble a 23) || (Nat.ble 59 a && Nat.ble a 59) || (Nat.beq a 6 && (Nat.beq k 12)) || (Nat.beq a 56 && (Nat.beq k 6))
def tpA (a : Nat) : Bool := (Nat.ble 23 a && Nat.ble a 23) || (Nat.ble 59 a && Nat.ble a 59) || Nat.beq a 6 || Nat.beq a 56
theorem tp_CA : ∀ a k, tpC a k = true → tpA a = true := by
  intro a k h
  unfold tpC at h
  unfold tpA
  simp only [Bool.or_eq_true, Bool.and_eq_true] at h ⊢
  rcases h with ((h | h) | h) | h
  · exact Or.inl (Or.inl (Or.inl (h)))
  · exact Or.inl (Or.inl (Or.inr (h)))
  · exact Or.inl (Or.inr (h.1))
  · exact Or.inr (h.1)
theorem tp_w {W : List (Nat × Option Nat)} (h : frW tpC tpA W = true) {a k : Nat} (hc : tpC a k = true) : mW W a k = false := frW_w tp_CA h hc
def shC (a k : Nat) : Bool := (Nat.ble 24 a && Nat.ble a 24) || (Nat.ble 45 a && Nat.ble a 52) || (Nat.ble 80 a && Nat.ble a 83)
def shA (a : Nat) : Bool := (Nat.ble 24 a && Nat.ble a 24) || (Nat.ble 45 a && Nat.ble a 52) || (Nat.ble 80 a && Nat.ble a 83)
theorem sh_CA : ∀ a k, shC a k = true → shA a = true := by
  intro a k h
  unfold shC at h
  unfold shA
  simp only [Bool.or_eq_true, Bool.and_eq_true] at h ⊢
  rcases h with (h | h) | h
  · exact Or.inl (Or.inl (h))
  · exact Or.inl (Or.inr (h))
  · exact Or.inr (h)
theorem sh_w {W : List (Nat × Option Nat)} (h : frW shC shA W = true) {a k : Nat} (hc : shC a k = true) : mW W a k = false := frW_w sh_CA h hc
def nwC (a k : Nat) : Bool := (Nat.ble 8 a && Nat.ble a 11) || (Nat.ble 60 a && Nat.ble a 68) || (Nat.beq a 7 && (Nat.beq k 4 || Nat.beq k 5 || Nat.beq k 6)) || (Nat.beq a 56 && (Nat.beq k 4 || Nat.beq k 15 || Nat.beq k 16))
def nwA (a : Nat) : Bool := (Nat.ble 8 a && Nat.ble a 11) || (Nat.ble 60 a && Nat.ble a 68) || Nat.beq a 7 || Nat.beq a 56
theorem nw_CA : ∀ a k, nwC a k = true → nwA a = true := by
  intro a k h
  unfold nwC at h
  unfold nwA
  simp only [Bool.or_eq_true, Bool.and_eq_true] at h ⊢
  rcases h with ((h | h) | h) | h
  · exact Or.inl (Or.inl (Or.inl (h)))
  · exact Or.inl (Or.inl (Or.inr (h)))
  · exact Or.inl (Or.inr (h.1))
  · exact Or.inr (h.1)
theorem nw_w {W : List (Nat × Option Nat)} (h : frW nwC nwA W = true) {a k : Nat} (hc : nwC a k = true) : mW W a k = false := frW_w nw_CA h hc
def otC (a k : Nat) : Bool := (Nat.ble 1 a && Nat.ble a 1) || (Nat.ble 5 a && Nat.ble a 5) || (Nat.ble 57 a && Nat.ble a 58) || (Nat.beq a 6 && (Nat.beq k 11)) || (Nat.beq a 56 && (Nat.beq k 3)) || (Nat.beq a 34 && (Nat.beq k 8 || Nat.beq k 9))
def otA (a : Nat) : Bool := (Nat.ble 1 a && Nat.ble a 1) || (Nat.ble 5 a && Nat.ble a 5) || (Nat.ble 57 a && Nat.ble a 58) || Nat.beq a 6 || Nat.beq a 56 || Nat.beq a 34
theorem ot_CA : ∀ a k, otC a k = true → otA a = true := by
  intro a k h
  unfold otC at h
  unfold otA
  simp only [Bool.or_eq_true, Bool.and_eq_true] at h ⊢
  rcases h with ((((h | h) | h) | h) | h) | h
  · exact Or.inl (Or.inl (Or.inl (Or.inl (Or.inl (h)))))
  · exact Or.inl (Or.inl (Or.inl (Or.inl (Or.inr (h)))))
  · exact Or.inl (Or.inl (Or.inl (Or.inr (h))))
  · exact Or.inl (Or.inl (Or.inr (h.1)))
  · exact Or.inl (Or.inr (h.1))
  · exact Or.inr (h.1)
theorem ot_w {W : List (Nat × Option Nat)} (h : frW otC otA W = true) {a k : Nat} (hc : otC a k = true) : mW W a k = false := frW_w ot_CA h hc
theorem KP_k {W : List (Nat × Option Nat)} {hk : Bool} {K A : Ab} {tc : Nat} {s s' : mSG} (h : KP hk K A tc s) (f : Fr W s s') (hw : frW kpC kpA W = true) : KP hk K A tc s' := by
  have g : ∀ a k, kpC a k = true → s'.1 a k = s.1 a k := fun a k hc => (f _ _ (kp_w hw hc)).1
  obtain ⟨h1, h2, h3⟩ := h
  refine ⟨by rw [g 6 10 rfl]; exact h1, fun q => by rw [g 56 47 rfl]; exact h2 q, fun q => ?_⟩
  obtain ⟨k1, k2, k3, k4, k5, k6, k7, k8, k9, k10, k11⟩ := h3 q
  refine ⟨RS_fr k1 f (fun _ => kp_w hw rfl) (fun _ => kp_w hw rfl) (fun _ => kp_w hw rfl) (fun _ => kp_w hw rfl) (fun _ => kp_w hw rfl), k2, k3, k4, by rw [g 56 47 rfl]; exact k5, by rw [g 56 48 rfl]; exact k6, by rw [g 56 49 rfl]; exact k7, ?_, ?_, ?_, ?_⟩
  · intro i hi; rw [g 76 i rfl]; exact k8 i hi
  · intro i hi; rw [g 78 i rfl]; exact k9 i hi
  · intro i hi; rw [g 79 i rfl]; exact k10 i hi
  · intro p hp; rw [g 77 _ rfl, g 77 _ rfl, g 77 _ rfl, g 77 _ rfl, g 77 _ rfl]; exact k11 p hp
theorem TP_k {W : List (Nat × Option Nat)} {ts : Nat} {tp : Nat → Nat} {s s' : mSG} (h : TP ts tp s) (f : Fr W s s') (hw : frW tpC tpA W = true) : TP ts tp s' := by
  have g : ∀ a k, tpC a k = true → s'.1 a k = s.1 a k := fun a k hc => (f _ _ (tp_w hw hc)).1
  obtain ⟨h1, h2, h3, h4⟩ := h
  exact ⟨h1, by rw [g 6 12 rfl]; exact h2, by rw [g 56 6 rfl]; exact h3, fun i hi => by rw [g 23 i rfl, g 59 i rfl]; exact h4 i hi⟩
theorem SH_k {W : List (Nat × Option Nat)} {sk sn : Nat → Nat} {si : Nat → Nat → Int32} {s s' : mSG} (h : SH sk sn si s) (f : Fr W s s') (hw : frW shC shA W = true) : SH sk sn si s' := by
  have g : ∀ a k, shC a k = true → s'.1 a k = s.1 a k := fun a k hc => (f _ _ (sh_w hw hc)).1
  have gq : ∀ a k, shC a k = true → s'.2.1 a k = s.2.1 a k := fun a k hc => (f _ _ (sh_w hw hc)).2.1
  intro k hk
  obtain ⟨h1, h2⟩ := h k hk
  have hc : k = 0 ∨ k = 1 ∨ k = 2 ∨ k = 3 := by omega
  refine ⟨by rw [gq 24 k rfl]; exact h1, ?_⟩
  rcases hc with rfl | rfl | rfl | rfl
  all_goals
    rcases h2 with ⟨a1, a2, a3⟩ | ⟨a1, a2, a3, a4, a5, a6, a7, a8, a9⟩
    · refine Or.inl ⟨a1, ?_, ?_⟩
      · rw [g _ _ rfl]; exact a2
      · rw [g _ _ rfl]; exact a3
    · refine Or.inr ⟨a1, a2, a3, ?_, ?_, ?_, ?_, ?_, ?_⟩
      · rw [g _ _ rfl]; exact a4
      · rw [g _ _ rfl]; exact a5
      · rw [g _ _ rfl]; exact a6
      · rw [g _ _ rfl]; exact a7
      · rw [g _ _ rfl]; exact a8
      · intro i hi; rw [g _ _ rfl, g _ _ rfl]; exact a9 i hi
theorem NW_k {W : List (Nat × Option Nat)} {A : Ab} {tc : Nat} {s s' : mSG} (h : RS 7 8 9 10 11 A s ∧ RM A s ∧ AbOK A tc) (f : Fr W s s') (hw : frW nwC nwA W = true) : RS 7 8 9 10 11 A s' ∧ RM A s' ∧ AbOK A tc := by
  have g : ∀ a k, nwC a k = true → s'.1 a k = s.1 a k := fun a k hc => (f _ _ (nw_w hw hc)).1
  obtain ⟨⟨h1, h2, h3, h4, h5, h6, h7, h8, h9, h10, h11, h12⟩, b2, b3⟩ := h
  refine ⟨⟨?_, ?_, ?_, ?_, ?_, ?_, ?_, ?_, ?_, ?_, ?_, ?_⟩, RM_fr b2 f (fun _ => nw_w hw rfl) (fun _ => nw_w hw rfl) (fun _ => nw_w hw rfl) (fun _ => nw_w hw rfl) (fun _ => nw_w hw rfl) (fun _ => nw_w hw rfl) (fun _ => nw_w hw rfl) (fun _ => nw_w hw rfl) (fun _ => nw_w hw rfl) (nw_w hw rfl) (nw_w hw rfl) (nw_w hw rfl), b3⟩
  · intro i hi; rw [g _ _ rfl]; exact h1 i hi
  · intro i hi; rw [g _ _ rfl]; exact h2 i hi
  · intro i hi; rw [g _ _ rfl]; exact h3 i hi
  · intro i hi; rw [g _ _ rfl]; exact h4 i hi
  · intro i hi; rw [g _ _ rfl]; exact h5 i hi
  · intro i hi; rw [g _ _ rfl]; exact h6 i hi
  · intro i hi; rw [g _ _ rfl]; exact h7 i hi
  · intro i hi; rw [g _ _ rfl]; exact h8 i hi
  · intro i hi; rw [g _ _ rfl]; exact h9 i hi
  · rw [g _ _ rfl]; exact h10
  · rw [g _ _ rfl]; exact h11
  · rw [g _ _ rfl]; exact h12
theorem OT_k {W : List (Nat × Option Nat)} {t : mTX} {tc : Nat} {V : mVT} {s s' : mSG} (h : (CT t tc V s ∧ MT tc V s ∧ s.1 6 11 = nI tc ∧ s.1 56 3 = nI tc ∧ t.2.1 + 1 = tc ∧ tc ≤ 6) ∧ (s.1 34 8 = -1 ∧ s.1 34 9 = -1) ∧ SS s) (f : Fr W s s') (hw : frW otC otA W = true) (hx : wTx W = true) : (CT t tc V s' ∧ MT tc V s' ∧ s'.1 6 11 = nI tc ∧ s'.1 56 3 = nI tc ∧ t.2.1 + 1 = tc ∧ tc ≤ 6) ∧ (s'.1 34 8 = -1 ∧ s'.1 34 9 = -1) ∧ SS s' := by
  have g : ∀ a k, otC a k = true → s'.1 a k = s.1 a k := fun a k hc => (f _ _ (ot_w hw hc)).1
  obtain ⟨⟨a1, a2, a3, a4, a5, a6⟩, ⟨p1, p2⟩, z1⟩ := h
  exact ⟨⟨CT_fr a1 f hx, MT_fr a2 f (fun _ => ot_w hw rfl) (fun _ => ot_w hw rfl), by rw [g 6 11 rfl]; exact a3, by rw [g 56 3 rfl]; exact a4, a5, a6⟩, ⟨by rw [g 34 8 rfl]; exact p1, by rw [g 34 9 rfl]; exact p2⟩, SS_fr z1 f (fun _ => ot_w hw rfl) (fun _ => ot_w hw rfl)⟩
theorem c_feedY {ts : Nat} {tp : Nat → Nat} {s : mSG} (h : TP ts tp s) {v : Nat} (hv : v ≤ 255) (hs : ts < 160) : X8_feed (nI v) s = some (nI (ts + 1), sI (sI s 23 ts (nI v)) 6 12 (nI (ts + 1))) := by
  obtain ⟨h1, h2, h3, h4⟩ := h
  unfold X8_feed
  rw [show X8_isWithin (nI v) 255 = _ from c_within (nI v) 255, decide_eq_true ((inR_nI (show v < 2147483648 by omega) (show 255 < 2147483648 by omega)).mpr hv), if_pos rfl, h2, if_pos (show nI ts < 160 from by show _ < nI 160; rw [nl_lt (by omega) (by omega)]; exact hs), if_pos (gl_inb hs (by omega)), nl_cl (by omega), nI_1]
theorem m_feedY {ts : Nat} {s : mSG} (h3 : s.1 56 6 = nI ts) {v : Nat} (hv : v ≤ 255) (hs : ts < 160) : X9_feed (nI v) s = some (nI (ts + 1), sI (sI s 59 ts (nI v)) 56 6 (nI (ts + 1))) := by
  unfold X9_feed
  rw [show X9_in (nI v).toInt64 0 255 = _ from b_dec (m_inR (nI v) 255 255 rfl), decide_eq_true ((inR_nI (show v < 2147483648 by omega) (show 255 < 2147483648 by omega)).mpr hv), if_pos rfl, h3, if_neg (show ¬ nI ts = 160 from by show ¬ _ = nI 160; rw [nl_eq (by omega) (by omega)]; omega), if_pos (gl_inb hs (by omega)), nl_cl (by omega), nI_1]
theorem L_feed {t : mTX} {s : mSG} (h : INV t s) (x : Int32) : ∃ v s1 s2, X8_feed x s = some (v, s1) ∧ X9_feed x s1 = some (v, s2) ∧ INV t s2 := by
  have hI := h
  obtain ⟨tc, V, A, hk, K, ts, tp, sk, sn, si, hv⟩ := h
  obtain ⟨a, b, c, d, e, p, z⟩ := hv
  have d' := d
  obtain ⟨d1, d2, d3, d4⟩ := d'
  by_cases q : inR x 255
  · obtain ⟨v, h9, rfl⟩ := inR_of q (by omega)
    by_cases q2 : ts < 160
    · have e1 := c_feedY d h9 q2
      have f1 := FR_X8_feed _ _ _ e1
      have e2 := m_feedY (s := sI (sI s 23 ts (nI v)) 6 12 (nI (ts + 1))) (ts := ts) d3 h9 q2
      have f2 := FR_X9_feed _ _ _ e2
      have o2 := OT_k (OT_k ⟨a, p, z⟩ f1 rfl rfl) f2 rfl rfl
      refine ⟨_, _, _, e1, e2, tc, V, A, hk, K, ts + 1, (fun i => if i = ts then v else tp i), sk, sn, si, o2.1, NW_k (NW_k b f1 rfl) f2 rfl, KP_k (KP_k c f1 rfl) f2 rfl, ?_, SH_k (SH_k e f1 rfl) f2 rfl, o2.2.1, o2.2.2⟩
      refine ⟨q2, rfl, rfl, fun i hi => ?_⟩
      by_cases qi : i = ts
      · subst qi
        show (if i = i then v else tp i) ≤ 255 ∧ _ = nI (if i = i then v else tp i) ∧ _ = nI (if i = i then v else tp i)
        rw [if_pos rfl]
        refine ⟨h9, ?_, ?_⟩
        · rw [sI_adr (by decide), sI_adr (by decide), sI_adr (by decide), sI_same]
        · rw [sI_adr (by decide), sI_same]
      · show (if i = ts then v else tp i) ≤ 255 ∧ _ = nI (if i = ts then v else tp i) ∧ _ = nI (if i = ts then v else tp i)
        rw [if_neg qi]
        obtain ⟨g1, g2, g3⟩ := d4 i (by omega)
        refine ⟨g1, ?_, ?_⟩
        · rw [sI_adr (by decide), sI_adr (by decide), sI_adr (by decide), sI_oth qi]; exact g2
        · rw [sI_adr (by decide), sI_oth qi, sI_adr (by decide), sI_adr (by decide)]; exact g3
    · refine ⟨-4, s, s, ?_, ?_, hI⟩
      · unfold X8_feed
        rw [show X8_isWithin (nI v) 255 = _ from c_within (nI v) 255, decide_eq_true q, if_pos rfl, d2, if_neg (show ¬ nI ts < 160 from by show ¬ _ < nI 160; rw [nl_lt (by omega) (by omega)]; exact q2)]
      · unfold X9_feed
        rw [show X9_in (nI v).toInt64 0 255 = _ from b_dec (m_inR (nI v) 255 255 rfl), decide_eq_true q, if_pos rfl, d3, if_pos (show nI ts = 160 from by rw [show ts = 160 by omega]; rfl)]
  · refine ⟨-2, s, s, ?_, ?_, hI⟩
    · unfold X8_feed
      rw [show X8_isWithin x 255 = _ from c_within x 255, decide_eq_false q]
      rfl
    · unfold X9_feed
      rw [show X9_in x.toInt64 0 255 = _ from b_dec (m_inR x 255 255 rfl), decide_eq_false q]
      rfl
