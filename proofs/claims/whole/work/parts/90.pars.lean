/-! THE TWO READERS, SIDE BY SIDE -/
/-- what the program's reading leaves as it was -/
def CB (s s1 : mSG) : Prop := (∀ j, j ≠ 2 → j ≠ 5 → j ≠ 6 → j ≠ 7 → j ≠ 8 → s1.1 25 j = s.1 25 j) ∧ (∀ a, a ≠ 25 → a ≠ 26 → s1.1 a = s.1 a) ∧ s1.2 = s.2
theorem CB_rf {s : mSG} : CB s s := ⟨fun _ _ _ _ _ _ => rfl, fun _ _ _ => rfl, rfl⟩
theorem CB_tr {s s1 s2 : mSG} (h : CB s s1) (h' : CB s1 s2) : CB s s2 := ⟨fun j a b c d e => (h'.1 j a b c d e).trans (h.1 j a b c d e), fun a ha hb => (h'.2.1 a ha hb).trans (h.2.1 a ha hb), h'.2.2.trans h.2.2⟩
theorem CB_CK {s s1 : mSG} (h : CK s s1) : CB s s1 := ⟨fun j _ b c d e => h.1 j b c d e, fun a ha _ => h.2.1 a ha, h.2.2⟩
theorem CB_TC {n : Nat} {b : Nat → Nat} {s s1 : mSG} (h : CB s s1) (ht : TC n b s) : TC n b s1 := by
  obtain ⟨h1, h2, h3⟩ := h
  obtain ⟨t1, t2, t3, t4, t5⟩ := ht
  exact ⟨by rw [h3]; exact t1, by rw [h1 4 (by decide) (by decide) (by decide) (by decide) (by decide)]; exact t2, t3, fun k hk => by rw [h2 23 (by decide) (by decide)]; exact t4 k hk, fun i hi => by rw [h2 5 (by decide) (by decide)]; exact t5 i hi⟩
/-- the code that was written from c on -/
def CD (c : Nat) (L : List xC) (s s1 : mSG) : Prop := (∀ j, j < c → s1.1 26 j = s.1 26 j) ∧ (∀ j, j < L.length → s1.1 26 (c + j) = xEnc (L.getD j (0, 0))) ∧ s1.1 25 2 = nI (c + L.length)
theorem CD_nil {c : Nat} {s s1 : mSG} (h : s1.1 26 = s.1 26) (h2 : s1.1 25 2 = nI c) : CD c [] s s1 := ⟨fun j _ => by rw [h], fun j hj => absurd hj (Nat.not_lt_zero j), h2⟩
theorem CD_app {c : Nat} {L L' : List xC} {s s1 s2 : mSG} (h : CD c L s s1) (h' : CD (c + L.length) L' s1 s2) : CD c (L ++ L') s s2 := by
  obtain ⟨a1, a2, a3⟩ := h
  obtain ⟨b1, b2, b3⟩ := h'
  refine ⟨fun j hj => (b1 j (by omega)).trans (a1 j hj), fun j hj => ?_, by rw [b3, List.length_append, Nat.add_assoc]⟩
  rw [List.length_append] at hj
  by_cases q : j < L.length
  · rw [b1 (c + j) (by omega), a2 j q, List.getD_eq_getElem?_getD, List.getD_eq_getElem?_getD, List.getElem?_append_left q]
  · have e := b2 (j - L.length) (by omega)
    rw [show c + L.length + (j - L.length) = c + j by omega] at e
    rw [e, List.getD_eq_getElem?_getD, List.getD_eq_getElem?_getD, List.getElem?_append_right (by omega)]
theorem CD_one {c : Nat} {L : List xC} {x : xC} {v : Int32} {s s1 : mSG} (h : CD c L s s1) (hv : v = xEnc x) : CD c (L ++ [x]) s (sI (sI s1 26 (c + L.length) v) 25 2 (nI (c + L.length + 1))) := by
  refine CD_app h ⟨fun j hj => ?_, fun j hj => ?_, sI_same⟩
  · rw [sI_adr (by decide), sI_oth (by omega)]
  · have hj0 : j = 0 := by simpa using hj
    subst hj0
    rw [sI_adr (by decide), Nat.add_zero, sI_same, hv]
    rfl
theorem AT_eq {n : Nat} {b : Nat → Nat} {i : Nat} {s s1 : mSG} (h : AT n b i s) (h5 : s1.1 25 5 = s.1 25 5) (h6 : s1.1 25 6 = s.1 25 6) (h7 : s1.1 25 7 = s.1 25 7) (h8 : s1.1 25 8 = s.1 25 8) : AT n b i s1 := by
  obtain ⟨a1, a2, a3, a4⟩ := h
  exact ⟨by rw [h5]; exact a1, fun g => by rw [h6]; exact a2 g, by rw [h7]; exact a3, by rw [h8]; exact a4⟩
theorem c_emit {c : Nat} {v : Int32} {s : mSG} (h : s.1 25 2 = nI c) (hc : c < 160) : X1_emit v s = some (sI (sI s 26 c v) 25 2 (nI (c + 1))) := by
  unfold X1_emit
  rw [h, if_neg (gl_le (x := 160) (m := 160) rfl hc (by omega)), if_pos (gl_inb hc (by omega)), nl_cl (by omega), nI_1]
theorem em_CB {c c' : Nat} {v : Int32} {s : mSG} : CB s (sI (sI s 26 c v) 25 2 (nI c')) := by
  refine ⟨fun j a _ _ _ _ => by rw [sI_oth a, sI_adr (by decide)], fun a h5 h6 => ?_, rfl⟩
  funext j
  rw [sI_adr h5, sI_adr h6]
theorem em_AT {n : Nat} {b : Nat → Nat} {i c c' : Nat} {v : Int32} {s : mSG} (h : AT n b i s) : AT n b i (sI (sI s 26 c v) 25 2 (nI c')) := AT_eq h (by rw [sI_oth (by decide), sI_adr (by decide)]) (by rw [sI_oth (by decide), sI_adr (by decide)]) (by rw [sI_oth (by decide), sI_adr (by decide)]) (by rw [sI_oth (by decide), sI_adr (by decide)])
theorem c_nxt {t : mTX} {n : Nat} {b : Nat → Nat} {i : Nat} {s : mSG} (ht : TC n b s) (h : AT n b i s) (hi : i ≤ n) : ∃ s1, X1_advance t s = some s1 ∧ AT n b (tN b n i) s1 ∧ CB s s1 ∧ s1.1 26 = s.1 26 ∧ s1.1 25 2 = s.1 25 2 := by
  obtain ⟨s1, e, a, c⟩ := c_advance (t := t) ht (tN_b (b := b) hi).2.1 h.2.2.2
  exact ⟨s1, e, a, CB_CK c, c.2.1 26 (by decide), c.1 2 (by decide) (by decide) (by decide) (by decide)⟩
/-- what the model's reading leaves as it was -/
def MB (s s1 : mSG) : Prop := (∀ j, j < 26 ∨ 32 < j → s1.1 56 j = s.1 56 j) ∧ (∀ a, a ≠ 56 → s1.1 a = s.1 a) ∧ s1.2.1 = s.2.1
theorem MB_rf {s : mSG} : MB s s := ⟨fun _ _ => rfl, fun _ _ => rfl, rfl⟩
theorem MB_tr {s s1 s2 : mSG} (h : MB s s1) (h' : MB s1 s2) : MB s s2 := ⟨fun j a => (h'.1 j a).trans (h.1 j a), fun a ha => (h'.2.1 a ha).trans (h.2.1 a ha), h'.2.2.trans h.2.2⟩
theorem MB_MK {s s1 : mSG} (h : MK s s1) : MB s s1 := ⟨fun j hj => h.1 j (by omega) (by omega) (by omega), h.2.1, h.2.2⟩
theorem MB_sI {s s1 : mSG} {j : Nat} {v : Int32} (h : MB s s1) (hj : 26 ≤ j ∧ j ≤ 32) : MB s (sI s1 56 j v) := by
  obtain ⟨h1, h2, h3⟩ := h
  refine ⟨fun m hm => ?_, fun a ha => ?_, h3⟩
  · rw [sI_oth (by omega)]; exact h1 m hm
  · rw [← h2 a ha]
    funext m
    rw [sI_adr ha]
theorem MB_TM {k n : Nat} {b : Nat → Nat} {s s1 : mSG} (h : MB s s1) (ht : TM k n b s) : TM k n b s1 := by
  obtain ⟨h1, h2, h3⟩ := h
  obtain ⟨t1, t2, t3, t4, t5⟩ := ht
  exact ⟨by rw [h1 24 (by omega)]; exact t1, by rw [h1 25 (by omega)]; exact t2, t3, t4, fun j hj => by rw [h2 57 (by decide)]; exact t5 j hj⟩
def envM (s : mSG) : Nat → Int32 := fun i => if i < 6 then s.1 56 (18 + i) else 0
theorem MB_env {s s1 : mSG} (h : MB s s1) : envM s1 = envM s := by
  funext i
  unfold envM
  by_cases q : i < 6
  · rw [if_pos q, if_pos q, h.1 _ (by omega)]
  · rw [if_neg q, if_neg q]
theorem AM_eq {n : Nat} {b : Nat → Nat} {i : Nat} {s s1 : mSG} (h : AM n b i s) (h6 : s1.1 56 26 = s.1 56 26) (h7 : s1.1 56 27 = s.1 56 27) (h8 : s1.1 56 28 = s.1 56 28) (h9 : s1.2.2 56 29 = s.2.2 56 29) : AM n b i s1 := by
  obtain ⟨a1, a2, a3, a4, a5⟩ := h
  exact ⟨by rw [h8]; exact a1, by rw [h7]; exact a2, fun g => by rw [h6]; exact a3 g, fun g => by rw [h9]; exact a4 g, fun g => by rw [h9]; exact a5 g⟩
theorem AM_sI {n : Nat} {b : Nat → Nat} {i j : Nat} {v : Int32} {s : mSG} (h : AM n b i s) (hj : j = 30 ∨ j = 31 ∨ j = 32) : AM n b i (sI s 56 j v) := AM_eq h (by rw [sI_oth (by omega)]) (by rw [sI_oth (by omega)]) (by rw [sI_oth (by omega)]) rfl
/-- a token that isn't broken: the next -/
theorem m_nxt {k n : Nat} {b : Nat → Nat} {i : Nat} {s : mSG} (ht : TM k n b s) (h : AM n b i s) (hi : i ≤ n) (hk : kdT b n i ≠ 4) : ∃ s1, X9_next s = some s1 ∧ AM n b (tN b n i) s1 ∧ MB s s1 ∧ s1.1 56 30 = s.1 56 30 ∧ s1.1 56 31 = s.1 56 31 := by
  obtain ⟨s1, e, a, m⟩ := m_next ht (tN_b (b := b) hi).2.1 (h.2.2.1 hk)
  exact ⟨s1, e, a, MB_MK m, m.1 30 (by decide) (by decide) (by decide), m.1 31 (by decide) (by decide) (by decide)⟩
theorem m_fail {k n : Nat} {b : Nat → Nat} {i : Nat} {s : mSG} (h : AM n b i s) (hb : s.1 56 31 = 0) : X9_fail s = some (sI (sI s 56 31 1) 56 32 (nI (tA b n i))) := by
  unfold X9_fail
  rw [if_pos hb, h.1]
theorem m_failB {s : mSG} (hb : s.1 56 31 = 1) : X9_fail s = some s := by
  unfold X9_fail
  rw [hb, if_neg (by decide)]
theorem m_failF {n : Nat} {b : Nat → Nat} {i : Nat} {s : mSG} : (sI (sI s 56 31 1) 56 32 (nI (tA b n i))).1 56 31 = 1 ∧ (sI (sI s 56 31 1) 56 32 (nI (tA b n i))).1 56 32 = nI (tA b n i) ∧ MB s (sI (sI s 56 31 1) 56 32 (nI (tA b n i))) := ⟨by rw [sI_oth (by decide), sI_same], sI_same, MB_sI (MB_sI MB_rf (by omega)) (by omega)⟩
/-- halves: the program's reader C, the model's F, from i on -/
def CHf (n : Nat) (b : Nat → Nat) (C : mSG → Option (Bool × mSG)) (i : Nat) (ok : Bool) (i' : Nat) (L : List xC) : Prop := ∀ c s, TC n b s → AT n b i s → s.1 25 2 = nI c → c ≤ i → ∃ s1, C s = some (ok, s1) ∧ AT n b i' s1 ∧ CB s s1 ∧ (ok = true → CD c L s s1)
def MHf (k n : Nat) (b : Nat → Nat) (F : mSG → Option (Int32 × mSG)) (dd d i : Nat) (ok : Bool) (i' : Nat) (L : List xC) : Prop := ∀ s, TM k n b s → AM n b i s → s.1 56 31 = 0 → s.1 56 30 = nI d → ∃ v s1, F s = some (v, s1) ∧ MB s s1 ∧ (ok = true → AM n b i' s1 ∧ s1.1 56 31 = 0 ∧ s1.1 56 30 = nI d ∧ isV (envM s) dd L v) ∧ (ok = false → s1.1 56 31 = 1 ∧ s1.1 56 32 = nI (tA b n i'))
def BPf (n i : Nat) (ok : Bool) (i' : Nat) (L : List xC) : Prop := i ≤ i' ∧ i' ≤ n ∧ (ok = true → i + L.length ≤ i' ∧ 1 ≤ L.length ∧ ∀ c, c ∈ L → xOk c)
def BP (k n : Nat) (b : Nat → Nat) (C : mSG → Option (Bool × mSG)) (F : mSG → Option (Int32 × mSG)) (dd d i : Nat) : Prop := ∃ ok i' L, BPf n i ok i' L ∧ CHf n b C i ok i' L ∧ MHf k n b F dd d i ok i' L
theorem tC_0 {b : Nat → Nat} {n i : Nat} (h : ¬ tC b n i = 0) : tA b n i < n := by
  by_cases q : tA b n i < n
  · exact q
  · exact absurd (if_neg q) h
theorem kd_4 {b : Nat → Nat} {n i : Nat} (h : ¬ tC b n i = 1) : kdT b n i ≠ 4 := by
  rcases kd_c (b := b) (n := n) (i := i) with ⟨kk, _⟩ | ⟨kk, _⟩ | ⟨kk, _⟩ | ⟨kk, _⟩ | ⟨kk, cc, _⟩
  · omega
  · omega
  · omega
  · omega
  · exact absurd cc h
