/-! MOVES -/
theorem up_st (A : Ab) (p v q : Nat) : (A.up 5 p v).st q = if q = p then v else A.st q := rfl
theorem up_wt (A : Ab) (p v q : Nat) : (A.up 6 p v).wt q = if q = p then v else A.wt q := rfl
theorem up_yd (A : Ab) (p v q : Nat) : (A.up 3 p v).yd q = if q = p then v else A.yd q := rfl
theorem up_ld (A : Ab) (p v q : Nat) : (A.up 4 p v).ld q = if q = p then v else A.ld q := rfl
theorem up_nu (A : Ab) (p v q : Nat) : (A.up 2 p v).nu q = if q = p then v else A.nu q := rfl
theorem up_kd (A : Ab) (p v q : Nat) : (A.up 1 p v).kd q = if q = p then v else A.kd q := rfl
theorem RS_put_st {o m t d r : Nat} {A : Ab} {s : mSG} (h : RS o m t d r A s) (p v : Nat) (ho : o ≠ t) (hm : m ≠ t) (hd : d ≠ t) (hr : r ≠ t) : RS o m t d r (A.up 5 p v) (sI s t (p * 6 + 0) (nI v)) := by
  obtain ⟨h1, h2, h3, h4, h5, h6, h7, h8, h9, h10, h11, h12⟩ := h
  refine ⟨?_, ?_, ?_, ?_, ?_, ?_, ?_, ?_, ?_, ?_, ?_, ?_⟩
  · intro i hi; rw [sI_adr hm]; exact h1 i hi
  · intro q hq
    rw [up_st]
    by_cases e : q = p
    · subst e; rw [if_pos rfl, sI_same]
    · rw [if_neg e, sI_oth (by omega)]; exact h2 q hq
  · intro q hq; rw [sI_oth (by omega)]; exact h3 q hq
  · intro q hq; rw [sI_oth (by omega)]; exact h4 q hq
  · intro q hq; rw [sI_oth (by omega)]; exact h5 q hq
  · intro q hq; rw [sI_oth (by omega)]; exact h6 q hq
  · intro q hq; rw [sI_oth (by omega)]; exact h7 q hq
  · intro i hi; rw [sI_adr hd]; exact h8 i hi
  · intro i hi; rw [sI_adr hr]; exact h9 i hi
  · rw [sI_adr ho]; exact h10
  · rw [sI_adr ho]; exact h11
  · rw [sI_adr ho]; exact h12
theorem RS_put_yd {o m t d r : Nat} {A : Ab} {s : mSG} (h : RS o m t d r A s) (p v : Nat) (ho : o ≠ t) (hm : m ≠ t) (hd : d ≠ t) (hr : r ≠ t) : RS o m t d r (A.up 3 p v) (sI s t (p * 6 + 1) (nI v)) := by
  obtain ⟨h1, h2, h3, h4, h5, h6, h7, h8, h9, h10, h11, h12⟩ := h
  refine ⟨?_, ?_, ?_, ?_, ?_, ?_, ?_, ?_, ?_, ?_, ?_, ?_⟩
  · intro i hi; rw [sI_adr hm]; exact h1 i hi
  · intro q hq; rw [sI_oth (by omega)]; exact h2 q hq
  · intro q hq
    rw [up_yd]
    by_cases e : q = p
    · subst e; rw [if_pos rfl, sI_same]
    · rw [if_neg e, sI_oth (by omega)]; exact h3 q hq
  · intro q hq; rw [sI_oth (by omega)]; exact h4 q hq
  · intro q hq; rw [sI_oth (by omega)]; exact h5 q hq
  · intro q hq; rw [sI_oth (by omega)]; exact h6 q hq
  · intro q hq; rw [sI_oth (by omega)]; exact h7 q hq
  · intro i hi; rw [sI_adr hd]; exact h8 i hi
  · intro i hi; rw [sI_adr hr]; exact h9 i hi
  · rw [sI_adr ho]; exact h10
  · rw [sI_adr ho]; exact h11
  · rw [sI_adr ho]; exact h12
theorem RS_put_wt {o m t d r : Nat} {A : Ab} {s : mSG} (h : RS o m t d r A s) (p v : Nat) (ho : o ≠ t) (hm : m ≠ t) (hd : d ≠ t) (hr : r ≠ t) : RS o m t d r (A.up 6 p v) (sI s t (p * 6 + 2) (nI v)) := by
  obtain ⟨h1, h2, h3, h4, h5, h6, h7, h8, h9, h10, h11, h12⟩ := h
  refine ⟨?_, ?_, ?_, ?_, ?_, ?_, ?_, ?_, ?_, ?_, ?_, ?_⟩
  · intro i hi; rw [sI_adr hm]; exact h1 i hi
  · intro q hq; rw [sI_oth (by omega)]; exact h2 q hq
  · intro q hq; rw [sI_oth (by omega)]; exact h3 q hq
  · intro q hq
    rw [up_wt]
    by_cases e : q = p
    · subst e; rw [if_pos rfl, sI_same]
    · rw [if_neg e, sI_oth (by omega)]; exact h4 q hq
  · intro q hq; rw [sI_oth (by omega)]; exact h5 q hq
  · intro q hq; rw [sI_oth (by omega)]; exact h6 q hq
  · intro q hq; rw [sI_oth (by omega)]; exact h7 q hq
  · intro i hi; rw [sI_adr hd]; exact h8 i hi
  · intro i hi; rw [sI_adr hr]; exact h9 i hi
  · rw [sI_adr ho]; exact h10
  · rw [sI_adr ho]; exact h11
  · rw [sI_adr ho]; exact h12
theorem RS_put_ld {o m t d r : Nat} {A : Ab} {s : mSG} (h : RS o m t d r A s) (p v : Nat) (ho : o ≠ t) (hm : m ≠ t) (hd : d ≠ t) (hr : r ≠ t) : RS o m t d r (A.up 4 p v) (sI s t (p * 6 + 3) (nI v)) := by
  obtain ⟨h1, h2, h3, h4, h5, h6, h7, h8, h9, h10, h11, h12⟩ := h
  refine ⟨?_, ?_, ?_, ?_, ?_, ?_, ?_, ?_, ?_, ?_, ?_, ?_⟩
  · intro i hi; rw [sI_adr hm]; exact h1 i hi
  · intro q hq; rw [sI_oth (by omega)]; exact h2 q hq
  · intro q hq; rw [sI_oth (by omega)]; exact h3 q hq
  · intro q hq; rw [sI_oth (by omega)]; exact h4 q hq
  · intro q hq
    rw [up_ld]
    by_cases e : q = p
    · subst e; rw [if_pos rfl, sI_same]
    · rw [if_neg e, sI_oth (by omega)]; exact h5 q hq
  · intro q hq; rw [sI_oth (by omega)]; exact h6 q hq
  · intro q hq; rw [sI_oth (by omega)]; exact h7 q hq
  · intro i hi; rw [sI_adr hd]; exact h8 i hi
  · intro i hi; rw [sI_adr hr]; exact h9 i hi
  · rw [sI_adr ho]; exact h10
  · rw [sI_adr ho]; exact h11
  · rw [sI_adr ho]; exact h12
theorem RS_put_nu {o m t d r : Nat} {A : Ab} {s : mSG} (h : RS o m t d r A s) (p v : Nat) (ho : o ≠ t) (hm : m ≠ t) (hd : d ≠ t) (hr : r ≠ t) : RS o m t d r (A.up 2 p v) (sI s t (p * 6 + 4) (nI v)) := by
  obtain ⟨h1, h2, h3, h4, h5, h6, h7, h8, h9, h10, h11, h12⟩ := h
  refine ⟨?_, ?_, ?_, ?_, ?_, ?_, ?_, ?_, ?_, ?_, ?_, ?_⟩
  · intro i hi; rw [sI_adr hm]; exact h1 i hi
  · intro q hq; rw [sI_oth (by omega)]; exact h2 q hq
  · intro q hq; rw [sI_oth (by omega)]; exact h3 q hq
  · intro q hq; rw [sI_oth (by omega)]; exact h4 q hq
  · intro q hq; rw [sI_oth (by omega)]; exact h5 q hq
  · intro q hq
    rw [up_nu]
    by_cases e : q = p
    · subst e; rw [if_pos rfl, sI_same]
    · rw [if_neg e, sI_oth (by omega)]; exact h6 q hq
  · intro q hq; rw [sI_oth (by omega)]; exact h7 q hq
  · intro i hi; rw [sI_adr hd]; exact h8 i hi
  · intro i hi; rw [sI_adr hr]; exact h9 i hi
  · rw [sI_adr ho]; exact h10
  · rw [sI_adr ho]; exact h11
  · rw [sI_adr ho]; exact h12
theorem RS_put_kd {o m t d r : Nat} {A : Ab} {s : mSG} (h : RS o m t d r A s) (p v : Nat) (ho : o ≠ t) (hm : m ≠ t) (hd : d ≠ t) (hr : r ≠ t) : RS o m t d r (A.up 1 p v) (sI s t (p * 6 + 5) (nI v)) := by
  obtain ⟨h1, h2, h3, h4, h5, h6, h7, h8, h9, h10, h11, h12⟩ := h
  refine ⟨?_, ?_, ?_, ?_, ?_, ?_, ?_, ?_, ?_, ?_, ?_, ?_⟩
  · intro i hi; rw [sI_adr hm]; exact h1 i hi
  · intro q hq; rw [sI_oth (by omega)]; exact h2 q hq
  · intro q hq; rw [sI_oth (by omega)]; exact h3 q hq
  · intro q hq; rw [sI_oth (by omega)]; exact h4 q hq
  · intro q hq; rw [sI_oth (by omega)]; exact h5 q hq
  · intro q hq; rw [sI_oth (by omega)]; exact h6 q hq
  · intro q hq
    rw [up_kd]
    by_cases e : q = p
    · subst e; rw [if_pos rfl, sI_same]
    · rw [if_neg e, sI_oth (by omega)]; exact h7 q hq
  · intro i hi; rw [sI_adr hd]; exact h8 i hi
  · intro i hi; rw [sI_adr hr]; exact h9 i hi
  · rw [sI_adr ho]; exact h10
  · rw [sI_adr ho]; exact h11
  · rw [sI_adr ho]; exact h12
theorem RS_put_hr {o m t d r : Nat} {A : Ab} {s : mSG} (h : RS o m t d r A s) (v : Nat) (hm : m ≠ o) (ht : t ≠ o) (hd : d ≠ o) (hr : r ≠ o) : RS o m t d r (A.up 10 0 v) (sI s o 5 (nI v)) := by
  obtain ⟨h1, h2, h3, h4, h5, h6, h7, h8, h9, h10, h11, h12⟩ := h
  refine ⟨?_, ?_, ?_, ?_, ?_, ?_, ?_, ?_, ?_, ?_, ?_, ?_⟩
  · intro i hi; rw [sI_adr hm]; exact h1 i hi
  · intro i hi; rw [sI_adr ht]; exact h2 i hi
  · intro i hi; rw [sI_adr ht]; exact h3 i hi
  · intro i hi; rw [sI_adr ht]; exact h4 i hi
  · intro i hi; rw [sI_adr ht]; exact h5 i hi
  · intro i hi; rw [sI_adr ht]; exact h6 i hi
  · intro i hi; rw [sI_adr ht]; exact h7 i hi
  · intro i hi; rw [sI_adr hd]; exact h8 i hi
  · intro i hi; rw [sI_adr hr]; exact h9 i hi
  · rw [sI_oth (by decide)]; exact h10
  · rw [sI_same]; rfl
  · rw [sI_oth (by decide)]; exact h12
theorem RM_put_kd {A : Ab} {s : mSG} (h : RM A s) (p v : Nat) : RM (A.up 1 p v) (sI s 61 p (nI v)) := by
  obtain ⟨h1, h2, h3, h4, h5, h6, h7, h8, h9, h10, h11, h12⟩ := h
  refine ⟨?_, ?_, ?_, ?_, ?_, ?_, ?_, ?_, ?_, ?_, ?_, ?_⟩
  · intro i hi; rw [sI_adr (by decide)]; exact h1 i hi
  · intro q hq
    rw [up_kd]
    by_cases e : q = p
    · subst e; rw [if_pos rfl, sI_same]
    · rw [if_neg e, sI_oth e]; exact h2 q hq
  · intro i hi; rw [sI_adr (by decide)]; exact h3 i hi
  · intro i hi; rw [sI_adr (by decide)]; exact h4 i hi
  · intro i hi; rw [sI_adr (by decide)]; exact h5 i hi
  · intro i hi; rw [sI_adr (by decide)]; exact h6 i hi
  · intro i hi; rw [sI_adr (by decide)]; exact h7 i hi
  · intro i hi; rw [sI_adr (by decide)]; exact h8 i hi
  · intro i hi; rw [sI_adr (by decide)]; exact h9 i hi
  · rw [sI_adr (by decide)]; exact h10
  · rw [sI_adr (by decide)]; exact h11
  · rw [sI_adr (by decide)]; exact h12
theorem RM_put_nu {A : Ab} {s : mSG} (h : RM A s) (p v : Nat) : RM (A.up 2 p v) (sI s 62 p (nI v)) := by
  obtain ⟨h1, h2, h3, h4, h5, h6, h7, h8, h9, h10, h11, h12⟩ := h
  refine ⟨?_, ?_, ?_, ?_, ?_, ?_, ?_, ?_, ?_, ?_, ?_, ?_⟩
  · intro i hi; rw [sI_adr (by decide)]; exact h1 i hi
  · intro i hi; rw [sI_adr (by decide)]; exact h2 i hi
  · intro q hq
    rw [up_nu]
    by_cases e : q = p
    · subst e; rw [if_pos rfl, sI_same]
    · rw [if_neg e, sI_oth e]; exact h3 q hq
  · intro i hi; rw [sI_adr (by decide)]; exact h4 i hi
  · intro i hi; rw [sI_adr (by decide)]; exact h5 i hi
  · intro i hi; rw [sI_adr (by decide)]; exact h6 i hi
  · intro i hi; rw [sI_adr (by decide)]; exact h7 i hi
  · intro i hi; rw [sI_adr (by decide)]; exact h8 i hi
  · intro i hi; rw [sI_adr (by decide)]; exact h9 i hi
  · rw [sI_adr (by decide)]; exact h10
  · rw [sI_adr (by decide)]; exact h11
  · rw [sI_adr (by decide)]; exact h12
theorem RM_put_yd {A : Ab} {s : mSG} (h : RM A s) (p v : Nat) : RM (A.up 3 p v) (sI s 63 p (nI v)) := by
  obtain ⟨h1, h2, h3, h4, h5, h6, h7, h8, h9, h10, h11, h12⟩ := h
  refine ⟨?_, ?_, ?_, ?_, ?_, ?_, ?_, ?_, ?_, ?_, ?_, ?_⟩
  · intro i hi; rw [sI_adr (by decide)]; exact h1 i hi
  · intro i hi; rw [sI_adr (by decide)]; exact h2 i hi
  · intro i hi; rw [sI_adr (by decide)]; exact h3 i hi
  · intro q hq
    rw [up_yd]
    by_cases e : q = p
    · subst e; rw [if_pos rfl, sI_same]
    · rw [if_neg e, sI_oth e]; exact h4 q hq
  · intro i hi; rw [sI_adr (by decide)]; exact h5 i hi
  · intro i hi; rw [sI_adr (by decide)]; exact h6 i hi
  · intro i hi; rw [sI_adr (by decide)]; exact h7 i hi
  · intro i hi; rw [sI_adr (by decide)]; exact h8 i hi
  · intro i hi; rw [sI_adr (by decide)]; exact h9 i hi
  · rw [sI_adr (by decide)]; exact h10
  · rw [sI_adr (by decide)]; exact h11
  · rw [sI_adr (by decide)]; exact h12
theorem RM_put_ld {A : Ab} {s : mSG} (h : RM A s) (p v : Nat) : RM (A.up 4 p v) (sI s 64 p (nI v)) := by
  obtain ⟨h1, h2, h3, h4, h5, h6, h7, h8, h9, h10, h11, h12⟩ := h
  refine ⟨?_, ?_, ?_, ?_, ?_, ?_, ?_, ?_, ?_, ?_, ?_, ?_⟩
  · intro i hi; rw [sI_adr (by decide)]; exact h1 i hi
  · intro i hi; rw [sI_adr (by decide)]; exact h2 i hi
  · intro i hi; rw [sI_adr (by decide)]; exact h3 i hi
  · intro i hi; rw [sI_adr (by decide)]; exact h4 i hi
  · intro q hq
    rw [up_ld]
    by_cases e : q = p
    · subst e; rw [if_pos rfl, sI_same]
    · rw [if_neg e, sI_oth e]; exact h5 q hq
  · intro i hi; rw [sI_adr (by decide)]; exact h6 i hi
  · intro i hi; rw [sI_adr (by decide)]; exact h7 i hi
  · intro i hi; rw [sI_adr (by decide)]; exact h8 i hi
  · intro i hi; rw [sI_adr (by decide)]; exact h9 i hi
  · rw [sI_adr (by decide)]; exact h10
  · rw [sI_adr (by decide)]; exact h11
  · rw [sI_adr (by decide)]; exact h12
theorem RM_put_st {A : Ab} {s : mSG} (h : RM A s) (p v : Nat) : RM (A.up 5 p v) (sI s 65 p (nI v)) := by
  obtain ⟨h1, h2, h3, h4, h5, h6, h7, h8, h9, h10, h11, h12⟩ := h
  refine ⟨?_, ?_, ?_, ?_, ?_, ?_, ?_, ?_, ?_, ?_, ?_, ?_⟩
  · intro i hi; rw [sI_adr (by decide)]; exact h1 i hi
  · intro i hi; rw [sI_adr (by decide)]; exact h2 i hi
  · intro i hi; rw [sI_adr (by decide)]; exact h3 i hi
  · intro i hi; rw [sI_adr (by decide)]; exact h4 i hi
  · intro i hi; rw [sI_adr (by decide)]; exact h5 i hi
  · intro q hq
    rw [up_st]
    by_cases e : q = p
    · subst e; rw [if_pos rfl, sI_same]
    · rw [if_neg e, sI_oth e]; exact h6 q hq
  · intro i hi; rw [sI_adr (by decide)]; exact h7 i hi
  · intro i hi; rw [sI_adr (by decide)]; exact h8 i hi
  · intro i hi; rw [sI_adr (by decide)]; exact h9 i hi
  · rw [sI_adr (by decide)]; exact h10
  · rw [sI_adr (by decide)]; exact h11
  · rw [sI_adr (by decide)]; exact h12
theorem RM_put_wt {A : Ab} {s : mSG} (h : RM A s) (p v : Nat) : RM (A.up 6 p v) (sI s 66 p (nI v)) := by
  obtain ⟨h1, h2, h3, h4, h5, h6, h7, h8, h9, h10, h11, h12⟩ := h
  refine ⟨?_, ?_, ?_, ?_, ?_, ?_, ?_, ?_, ?_, ?_, ?_, ?_⟩
  · intro i hi; rw [sI_adr (by decide)]; exact h1 i hi
  · intro i hi; rw [sI_adr (by decide)]; exact h2 i hi
  · intro i hi; rw [sI_adr (by decide)]; exact h3 i hi
  · intro i hi; rw [sI_adr (by decide)]; exact h4 i hi
  · intro i hi; rw [sI_adr (by decide)]; exact h5 i hi
  · intro i hi; rw [sI_adr (by decide)]; exact h6 i hi
  · intro q hq
    rw [up_wt]
    by_cases e : q = p
    · subst e; rw [if_pos rfl, sI_same]
    · rw [if_neg e, sI_oth e]; exact h7 q hq
  · intro i hi; rw [sI_adr (by decide)]; exact h8 i hi
  · intro i hi; rw [sI_adr (by decide)]; exact h9 i hi
  · rw [sI_adr (by decide)]; exact h10
  · rw [sI_adr (by decide)]; exact h11
  · rw [sI_adr (by decide)]; exact h12
theorem RM_put_hr {A : Ab} {s : mSG} (h : RM A s) (v : Nat) : RM (A.up 10 0 v) (sI s 56 16 (nI v)) := by
  obtain ⟨h1, h2, h3, h4, h5, h6, h7, h8, h9, h10, h11, h12⟩ := h
  refine ⟨?_, ?_, ?_, ?_, ?_, ?_, ?_, ?_, ?_, ?_, ?_, ?_⟩
  · intro i hi; rw [sI_adr (by decide)]; exact h1 i hi
  · intro i hi; rw [sI_adr (by decide)]; exact h2 i hi
  · intro i hi; rw [sI_adr (by decide)]; exact h3 i hi
  · intro i hi; rw [sI_adr (by decide)]; exact h4 i hi
  · intro i hi; rw [sI_adr (by decide)]; exact h5 i hi
  · intro i hi; rw [sI_adr (by decide)]; exact h6 i hi
  · intro i hi; rw [sI_adr (by decide)]; exact h7 i hi
  · intro i hi; rw [sI_adr (by decide)]; exact h8 i hi
  · intro i hi; rw [sI_adr (by decide)]; exact h9 i hi
  · rw [sI_oth (by decide)]; exact h10
  · rw [sI_same]; rfl
  · rw [sI_oth (by decide)]; exact h12
/-- the hours of one's way, as it is now -/
def aH (V : mVT) (A : Ab) (p b : Nat) : Nat := aHrs V A.ru (A.kd p) (A.nu p) (A.yd p) (A.ld p) (A.wt p) (A.rn (A.hr % 24)) (A.st p) b (A.mud (A.st p * 8 + b))
def aMove (V : mVT) (A : Ab) (p b : Nat) : Ab := if aH V A p b = 0 then A else ((A.up 5 p b).up 6 p (aSoak (A.kd p) (A.wt p) (A.rn (A.hr % 24)))).up 10 0 (min 9999 (A.hr + aH V A p b))
theorem aH_le {V : mVT} {A : Ab} {tc : Nat} (ok : AbOK A tc) {p : Nat} (hp : p < A.pp) (b : Nat) : aH V A p b ≤ 315 := by
  unfold aH aHrs
  have h1 := aLast_le (k := A.kd p) (ok.nu p hp) (ok.mud (A.st p * 8 + b)) (ok.ld p hp)
  have h2 := aSay_le (V := V) (ru := A.ru) (pt := 1) (mud := A.mud (A.st p * 8 + b)) (wt := A.wt p) (ld := A.ld p) (rn := A.rn (A.hr % 24)) (a := A.st p) (b := b)
  repeat' split
  all_goals omega
theorem aMove_ok {V : mVT} {A : Ab} {tc : Nat} (ok : AbOK A tc) {p b : Nat} (hb : b ≤ 7) : AbOK (aMove V A p b) tc := by
  unfold aMove
  split
  · exact ok
  · obtain ⟨k1, k2, k3, k4, k5, k6, k7, k8, k9, k10, k11, k12, k13, k14, k15⟩ := ok
    refine ⟨k1, ?_, k3, k4, k5, k6, k7, k8, k9, k10, ?_, ?_, k13, k14, k15⟩
    · show min 9999 _ ≤ 9999
      omega
    · intro q hq
      show (if q = p then b else A.st q) ≤ 7
      split
      · exact hb
      · exact k11 q hq
    · intro q hq
      show (if q = p then aSoak (A.kd p) (A.wt p) (A.rn (A.hr % 24)) else A.wt q) ≤ 9
      split
      · exact aSoak_le _ _ _
      · exact k12 q hq
theorem c_moves_7 {t : mTX} {V : mVT} {A : Ab} {s : mSG} {tc p b : Nat} (c : CT t tc V s) (hc : s.1 6 11 = nI tc) (h6 : tc ≤ 6) (h : RS 7 8 9 10 11 A s) (ok : AbOK A tc) (hp : p < A.pp) (hb : b ≤ 7) : ∃ s', X8_moves_7 t (nI p) (nI b) s = some (decide (aH V A p b ≠ 0), s') ∧ RS 7 8 9 10 11 (aMove V A p b) s' := by
  have h5 := ok.pp
  unfold X8_moves_7
  rw [ob (c_rule_7 c hc h6 h ok)]
  obtain ⟨s1, e1, g1⟩ := c_be_28_7 h ok hp A.ru
  rw [ob e1]
  have f1 := FR_X0_be_28_7 _ _ _ _ e1
  have r1 := RS_fr h f1 (fun _ => rfl) (fun _ => rfl) (fun _ => rfl) (fun _ => rfl) (fun _ => rfl)
  rw [ob (show X5_trait_7 (nI p) 0 s1 = some (nI (A.st p)) from (c_trait_7 (w := 0) r1 h5 hp (by omega)).trans (congrArg some (r1.st p hp)))]
  rw [ob (c_mudB_7 r1 ok (ok.st p hp) hb)]
  obtain ⟨s2, e2⟩ := c_hours_28 (CT_fr c f1 rfl) g1 ok.ru (ok.kd p hp) (ok.nu p hp) (ok.yd p hp) (ok.wt p hp) (ok.ld p hp) (A.st p) b (ok.mud (A.st p * 8 + b))
  rw [ob e2]
  have f2 := FR_X0_hours_28 _ _ _ _ _ _ e2
  have r2 := RS_fr r1 f2 (fun _ => rfl) (fun _ => rfl) (fun _ => rfl) (fun _ => rfl) (fun _ => rfl)
  have g2 := GO_fr_28 g1 f2 (fun _ => rfl)
  show ∃ s', (if nI (aH V A p b) = 0 then _ else _) = _ ∧ _
  by_cases q : aH V A p b = 0
  · refine ⟨s2, ?_, ?_⟩
    · rw [q, if_pos (show nI 0 = 0 from rfl)]
      simp
    · unfold aMove
      rw [if_pos q]
      exact r2
  · have hle := aH_le (V := V) ok hp b
    have hh := ok.hr
    rw [if_neg (nI_ne0 (by omega) (by omega))]
    unfold X0_soak_28
    obtain ⟨y1, y2, y3, y4, y5, y6, y7⟩ := g2
    rw [y2, y6, y7, c_soaks (ok.kd p hp) (ok.wt p hp) (ok.rn _)]
    show ∃ s', (X5_put_7 (nI p) 0 (nI b) (sI s2 28 7 _)).bind _ = _ ∧ _
    have r3 : RS 7 8 9 10 11 A (sI s2 28 7 (nI (aSoak (A.kd p) (A.wt p) (A.rn (A.hr % 24))))) := RS_eq r2 rfl rfl rfl rfl rfl
    rw [ob (show X5_put_7 (nI p) 0 (nI b) _ = some (sI _ 9 (p * 6 + 0) (nI b)) from c_put_7 (w := 0) r3 h5 hp (by omega) (nI b))]
    have r4 := RS_put_st r3 p b (by decide) (by decide) (by decide) (by decide)
    rw [show (sI (sI s2 28 7 (nI (aSoak (A.kd p) (A.wt p) (A.rn (A.hr % 24))))) 9 (p * 6 + 0) (nI b)).1 28 7 = nI (aSoak (A.kd p) (A.wt p) (A.rn (A.hr % 24))) from rfl]
    rw [ob (show X5_put_7 (nI p) 2 (nI (aSoak (A.kd p) (A.wt p) (A.rn (A.hr % 24)))) _ = some (sI _ 9 (p * 6 + 2) (nI (aSoak (A.kd p) (A.wt p) (A.rn (A.hr % 24))))) from c_put_7 (w := 2) r4 h5 hp (by omega) _)]
    have r5 := RS_put_wt r4 p (aSoak (A.kd p) (A.wt p) (A.rn (A.hr % 24))) (by decide) (by decide) (by decide) (by decide)
    have hhr := r5.hr
    rw [hhr]
    have e9 : J9_min 9999 (nI ((A.up 5 p b).up 6 p (aSoak (A.kd p) (A.wt p) (A.rn (A.hr % 24)))).hr + nI (aHrs V A.ru (A.kd p) (A.nu p) (A.yd p) (A.ld p) (A.wt p) (A.rn (A.hr % 24)) (A.st p) b (A.mud (A.st p * 8 + b)))) = nI (min 9999 (A.hr + aH V A p b)) := by
      rw [nI_add]
      exact c_min (a := 9999) (by decide) (show A.hr + aH V A p b < 2147483648 by omega)
    rw [e9]
    refine ⟨_, by rw [decide_eq_true q], ?_⟩
    unfold aMove
    rw [if_neg q]
    exact RS_put_hr r5 _ (by decide) (by decide) (by decide) (by decide)
theorem c_moves_17 {t : mTX} {V : mVT} {A : Ab} {s : mSG} {tc p b : Nat} (c : CT t tc V s) (hc : s.1 6 11 = nI tc) (h6 : tc ≤ 6) (h : RS 17 18 19 20 21 A s) (ok : AbOK A tc) (hp : p < A.pp) (hb : b ≤ 7) : ∃ s', X8_moves_17 t (nI p) (nI b) s = some (decide (aH V A p b ≠ 0), s') ∧ RS 17 18 19 20 21 (aMove V A p b) s' := by
  have h5 := ok.pp
  unfold X8_moves_17
  rw [ob (c_rule_17 c hc h6 h ok)]
  obtain ⟨s1, e1, g1⟩ := c_be_28_17 h ok hp A.ru
  rw [ob e1]
  have f1 := FR_X0_be_28_17 _ _ _ _ e1
  have r1 := RS_fr h f1 (fun _ => rfl) (fun _ => rfl) (fun _ => rfl) (fun _ => rfl) (fun _ => rfl)
  rw [ob (show X5_trait_17 (nI p) 0 s1 = some (nI (A.st p)) from (c_trait_17 (w := 0) r1 h5 hp (by omega)).trans (congrArg some (r1.st p hp)))]
  rw [ob (c_mudB_17 r1 ok (ok.st p hp) hb)]
  obtain ⟨s2, e2⟩ := c_hours_28 (CT_fr c f1 rfl) g1 ok.ru (ok.kd p hp) (ok.nu p hp) (ok.yd p hp) (ok.wt p hp) (ok.ld p hp) (A.st p) b (ok.mud (A.st p * 8 + b))
  rw [ob e2]
  have f2 := FR_X0_hours_28 _ _ _ _ _ _ e2
  have r2 := RS_fr r1 f2 (fun _ => rfl) (fun _ => rfl) (fun _ => rfl) (fun _ => rfl) (fun _ => rfl)
  have g2 := GO_fr_28 g1 f2 (fun _ => rfl)
  show ∃ s', (if nI (aH V A p b) = 0 then _ else _) = _ ∧ _
  by_cases q : aH V A p b = 0
  · refine ⟨s2, ?_, ?_⟩
    · rw [q, if_pos (show nI 0 = 0 from rfl)]
      simp
    · unfold aMove
      rw [if_pos q]
      exact r2
  · have hle := aH_le (V := V) ok hp b
    have hh := ok.hr
    rw [if_neg (nI_ne0 (by omega) (by omega))]
    unfold X0_soak_28
    obtain ⟨y1, y2, y3, y4, y5, y6, y7⟩ := g2
    rw [y2, y6, y7, c_soaks (ok.kd p hp) (ok.wt p hp) (ok.rn _)]
    show ∃ s', (X5_put_17 (nI p) 0 (nI b) (sI s2 28 7 _)).bind _ = _ ∧ _
    have r3 : RS 17 18 19 20 21 A (sI s2 28 7 (nI (aSoak (A.kd p) (A.wt p) (A.rn (A.hr % 24))))) := RS_eq r2 rfl rfl rfl rfl rfl
    rw [ob (show X5_put_17 (nI p) 0 (nI b) _ = some (sI _ 19 (p * 6 + 0) (nI b)) from c_put_17 (w := 0) r3 h5 hp (by omega) (nI b))]
    have r4 := RS_put_st r3 p b (by decide) (by decide) (by decide) (by decide)
    rw [show (sI (sI s2 28 7 (nI (aSoak (A.kd p) (A.wt p) (A.rn (A.hr % 24))))) 19 (p * 6 + 0) (nI b)).1 28 7 = nI (aSoak (A.kd p) (A.wt p) (A.rn (A.hr % 24))) from rfl]
    rw [ob (show X5_put_17 (nI p) 2 (nI (aSoak (A.kd p) (A.wt p) (A.rn (A.hr % 24)))) _ = some (sI _ 19 (p * 6 + 2) (nI (aSoak (A.kd p) (A.wt p) (A.rn (A.hr % 24))))) from c_put_17 (w := 2) r4 h5 hp (by omega) _)]
    have r5 := RS_put_wt r4 p (aSoak (A.kd p) (A.wt p) (A.rn (A.hr % 24))) (by decide) (by decide) (by decide) (by decide)
    have hhr := r5.hr
    rw [hhr]
    have e9 : J9_min 9999 (nI ((A.up 5 p b).up 6 p (aSoak (A.kd p) (A.wt p) (A.rn (A.hr % 24)))).hr + nI (aHrs V A.ru (A.kd p) (A.nu p) (A.yd p) (A.ld p) (A.wt p) (A.rn (A.hr % 24)) (A.st p) b (A.mud (A.st p * 8 + b)))) = nI (min 9999 (A.hr + aH V A p b)) := by
      rw [nI_add]
      exact c_min (a := 9999) (by decide) (show A.hr + aH V A p b < 2147483648 by omega)
    rw [e9]
    refine ⟨_, by rw [decide_eq_true q], ?_⟩
    unfold aMove
    rw [if_neg q]
    exact RS_put_hr r5 _ (by decide) (by decide) (by decide) (by decide)
