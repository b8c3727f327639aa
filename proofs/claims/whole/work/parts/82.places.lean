/-! PLACES, soonest first, as the model goes -/
section
variable {hw : Nat → Nat → Nat → Nat} {fw : Nat → Nat} {ww : Nat → Nat} {st : Nat}
/-- a way from place x to stone b: where it comes to, what it brings -/
def plY (fw : Nat → Nat) (x b : Nat) : Nat := 10 * b + fw (x % 10)
def plO (hw : Nat → Nat → Nat → Nat) (v : Nat × Nat) (x b : Nat) : Nat × Nat := (v.1 + hw (x % 10) (x / 10) b, if v.1 = 0 then b + 1 else v.2)
def rlx (hw : Nat → Nat → Nat → Nat) (fw : Nat → Nat) (v : Nat × Nat) (x b : Nat) (L : Nat → Nat × Nat) : Nat → Nat × Nat := if hw (x % 10) (x / 10) b = 0 then L else fun k => if k = plY fw x b then min2 (L k) (plO hw v x b) else L k
theorem min2_lt {x y : Nat × Nat} : min2 x y = x ∨ (min2 x y = y ∧ lt2 y x) := by
  unfold min2
  by_cases q : lt2 y x
  · rw [if_pos q]; exact Or.inr ⟨rfl, q⟩
  · rw [if_neg q]; exact Or.inl rfl
theorem rlx_fo (v : Nat × Nat) (x : Nat) (L : Nat → Nat × Nat) : ∀ n, (∀ k, fo (rlx hw fw v x) 0 n L k = L k ∨ (lt2 (fo (rlx hw fw v x) 0 n L k) (L k) ∧ ∃ b, b < n ∧ hw (x % 10) (x / 10) b ≠ 0 ∧ k = plY fw x b ∧ fo (rlx hw fw v x) 0 n L k = plO hw v x b)) ∧ (∀ b, b < n → hw (x % 10) (x / 10) b ≠ 0 → le2 (fo (rlx hw fw v x) 0 n L (plY fw x b)) (plO hw v x b)) ∧ (∀ k, le2 (fo (rlx hw fw v x) 0 n L k) (L k))
  | 0 => ⟨fun _ => Or.inl rfl, fun b hb => absurd hb (Nat.not_lt_zero b), fun _ => le2_rf⟩
  | n + 1 => by
    obtain ⟨h1, h2, h3⟩ := rlx_fo v x L n
    rw [fo_st (Nat.zero_le _)]
    generalize fo (rlx hw fw v x) 0 n L = M at h1 h2 h3
    have one : ∀ k, rlx hw fw v x n M k = M k ∨ (rlx hw fw v x n M k = plO hw v x n ∧ lt2 (plO hw v x n) (M k) ∧ k = plY fw x n ∧ hw (x % 10) (x / 10) n ≠ 0) := by
      intro k
      unfold rlx
      by_cases q : hw (x % 10) (x / 10) n = 0
      · rw [if_pos q]; exact Or.inl rfl
      · rw [if_neg q]
        by_cases q2 : k = plY fw x n
        · rw [if_pos q2]
          rcases min2_lt (x := M k) (y := plO hw v x n) with e | ⟨e, l⟩
          · exact Or.inl e
          · exact Or.inr ⟨e, l, q2, q⟩
        · rw [if_neg q2]; exact Or.inl rfl
    have le : ∀ k, le2 (rlx hw fw v x n M k) (M k) := fun k => by
      rcases one k with e | ⟨e, l, _, _⟩
      · rw [e]; exact le2_rf
      · rw [e]; omega
    refine ⟨fun k => ?_, fun b hb hh => ?_, fun k => le2_tr (le k) (h3 k)⟩
    · rcases one k with e | ⟨e, l, e2, e3⟩
      · rw [e]
        rcases h1 k with g | ⟨g1, b, g2, g3⟩
        · exact Or.inl g
        · exact Or.inr ⟨g1, b, by omega, g3⟩
      · refine Or.inr ⟨?_, n, by omega, e3, e2, e⟩
        rw [e]
        have := h3 k
        omega
    · by_cases q : b = n
      · subst q
        unfold rlx
        rw [if_neg hh, if_pos rfl]
        exact min2_r _ _
      · exact le2_tr (le _) (h2 b (by omega) hh)
/-- what holds while places are gone through -/
def DJ (hw : Nat → Nat → Nat → Nat) (fw : Nat → Nat) (ww : Nat → Nat) (st : Nat) (L : Nat → Nat × Nat) (dn : Nat → Bool) : Prop :=
  (∀ x, x < 80 → (L x).1 < 99999999 → ∃ k P, wk hw ww st k P ∧ P k = x / 10 ∧ ww k = x % 10 ∧ L x = (cst hw ww P k, fs1 P k)) ∧
  (∀ x, x < 80 → ¬ (L x).1 < 99999999 → L x = (99999999, 0)) ∧
  (∀ x, x < 80 → dn x = true → (L x).1 < 99999999 ∧ ∀ b, b < 8 → hw (x % 10) (x / 10) b ≠ 0 → le2 (L (plY fw x b)) (plO hw (L x) x b)) ∧
  (∀ x y, x < 80 → y < 80 → dn x = true → dn y = false → (L x).1 ≤ (L y).1) ∧
  L (10 * st + ww 0) = (0, 0)
theorem plO_walk {k : Nat} {P : Nat → Nat} {x b : Nat} {v : Nat × Nat} (hs : ∀ n, ww (n + 1) = fw (ww n)) (h : wk hw ww st k P) (hb : b < 8) (e1 : P k = x / 10) (e2 : ww k = x % 10) (ev : v = (cst hw ww P k, fs1 P k)) (hh : hw (x % 10) (x / 10) b ≠ 0) : wk hw ww st (k + 1) (ext1 P k b) ∧ ext1 P k b (k + 1) = b ∧ ww (k + 1) = fw (x % 10) ∧ plO hw v x b = (cst hw ww (ext1 P k b) (k + 1), fs1 (ext1 P k b) (k + 1)) := by
  refine ⟨wk_ext h hb (by rw [e1, e2]; exact hh), ext_at, by rw [hs, e2], ?_⟩
  rw [cst_ext, fs1_ext, e1, e2]
  unfold plO
  rw [ev]
  refine Prod.ext rfl ?_
  show (if cst hw ww P k = 0 then b + 1 else fs1 P k) = (if fs1 P k = 0 then b + 1 else fs1 P k)
  have hg := cst_ge h
  by_cases q : k = 0
  · subst q
    rw [if_pos (show cst hw ww P 0 = 0 from rfl), if_pos (show fs1 P 0 = 0 from rfl)]
  · rw [if_neg (by omega), if_neg (by unfold fs1; rw [if_neg q]; omega)]
theorem DJ_step {L : Nat → Nat × Nat} {dn : Nat → Bool} {x : Nat} (hs : ∀ n, ww (n + 1) = fw (ww n)) (hf : ∀ w, fw w ≤ 9) (h : DJ hw fw ww st L dn) (hx : x < 80) (hd : dn x = false) (hx9 : (L x).1 < 99999999) (hmin : ∀ y, y < 80 → dn y = false → (L x).1 ≤ (L y).1) : DJ hw fw ww st (fo (rlx hw fw (L x) x) 0 8 L) (fun k => dn k || decide (k = x)) ∧ ∀ n, n ≤ 8 → fo (rlx hw fw (L x) x) 0 n L x = L x := by
  obtain ⟨j1, j1', j2, j3, j4⟩ := h
  have more : ∀ b, hw (x % 10) (x / 10) b ≠ 0 → (L x).1 < (plO hw (L x) x b).1 := fun b hb => by
    show (L x).1 < (L x).1 + hw (x % 10) (x / 10) b
    omega
  have keep : ∀ n k, (L k).1 ≤ (L x).1 → fo (rlx hw fw (L x) x) 0 n L k = L k := fun n k hk => by
    rcases (rlx_fo (hw := hw) (fw := fw) (L x) x L n).1 k with e | ⟨l, b, hb, hh, _, e⟩
    · exact e
    · rw [e] at l
      have := more b hh
      omega
  obtain ⟨r1, r2, r3⟩ := rlx_fo (hw := hw) (fw := fw) (L x) x L 8
  have kx := keep 8 x (Nat.le_refl _)
  refine ⟨⟨fun k hk hk9 => ?_, fun k hk hk9 => ?_, fun k hk hdk => ?_, fun k y hk hy hdk hdy => ?_, ?_⟩, fun n _ => keep n x (Nat.le_refl _)⟩
  · rcases r1 k with e | ⟨l, b, hb, hh, ek, e⟩
    · rw [e] at hk9 ⊢
      exact j1 k hk hk9
    · obtain ⟨n, P, p1, p2, p3, p4⟩ := j1 x hx hx9
      obtain ⟨w1, w2, w3, w4⟩ := plO_walk hs p1 hb p2 p3 p4 hh
      have hy := hf (x % 10)
      refine ⟨n + 1, ext1 P n b, w1, ?_, ?_, by rw [e]; exact w4⟩
      · rw [w2, ek]
        unfold plY
        omega
      · rw [w3, ek]
        unfold plY
        omega
  · rcases r1 k with e | ⟨l, b, hb, hh, ek, e⟩
    · rw [e] at hk9 ⊢
      exact j1' k hk hk9
    · exfalso
      by_cases q : (L k).1 < 99999999
      · omega
      · rw [j1' k hk q] at l
        omega
  · have hdk : (dn k || decide (k = x)) = true := hdk
    by_cases q : k = x
    · subst q
      rw [kx]
      exact ⟨hx9, fun b hb hh => r2 b hb hh⟩
    · rw [decide_eq_false q, Bool.or_false] at hdk
      have ek := keep 8 k (j3 k x hk hx hdk hd)
      rw [ek]
      obtain ⟨g1, g2⟩ := j2 k hk hdk
      exact ⟨g1, fun b hb hh => le2_tr (r3 _) (g2 b hb hh)⟩
  · have hdk : (dn k || decide (k = x)) = true := hdk
    have hdy : (dn y || decide (y = x)) = false := hdy
    have hdy' : dn y = false := by
      cases hh : dn y with
      | false => rfl
      | true => rw [hh] at hdy; cases hdy
    have ek : (fo (rlx hw fw (L x) x) 0 8 L k).1 ≤ (L x).1 := by
      by_cases q : k = x
      · rw [q, kx]; exact Nat.le_refl _
      · rw [decide_eq_false q, Bool.or_false] at hdk
        rw [keep 8 k (j3 k x hk hx hdk hd)]
        exact j3 k x hk hx hdk hd
    have ey : (L x).1 ≤ (fo (rlx hw fw (L x) x) 0 8 L y).1 := by
      rcases r1 y with e | ⟨l, b, hb, hh, _, e⟩
      · rw [e]; exact hmin y hy hdy'
      · rw [e]; exact Nat.le_of_lt (more b hh)
    omega
  · rw [keep 8 _ (by rw [j4]; exact Nat.zero_le _)]
    exact j4
/-- at the end no walk is missed -/
theorem DJ_all {L : Nat → Nat × Nat} {dn : Nat → Bool} (hs : ∀ n, ww (n + 1) = fw (ww n)) (hw9 : ∀ n, ww n ≤ 9) (h : DJ hw fw ww st L dn) (hend : ∀ x, x < 80 → dn x = false → ¬ (L x).1 < 99999999) : ∀ (k : Nat) (P : Nat → Nat), wk hw ww st k P → cst hw ww P k < 99999999 → le2 (L (10 * P k + ww k)) (cst hw ww P k, fs1 P k)
  | 0, P, hp, _ => by
    obtain ⟨j1, j1', j2, j3, j4⟩ := h
    rw [hp.1, j4]
    exact le2_rf
  | k + 1, P, hp, hc => by
    rw [cst_s] at hc
    have ih1 := DJ_all hs hw9 h hend k P (wk_pre hp) (by omega)
    obtain ⟨j1, j1', j2, j3, j4⟩ := h
    have ih2 : (L (10 * P k + ww k)).1 < 99999999 := by omega
    have hP := hp.2.1 k (by omega)
    have hP' := hp.2.1 (k + 1) (by omega)
    have hwk := hw9 k
    have e1 : (10 * P k + ww k) % 10 = ww k := by omega
    have e2 : (10 * P k + ww k) / 10 = P k := by omega
    have hx : 10 * P k + ww k < 80 := by omega
    have hh := hp.2.2 k (by omega)
    have hdn : dn (10 * P k + ww k) = true := by
      cases hq : dn (10 * P k + ww k) with
      | true => rfl
      | false => exact absurd ih2 (hend _ hx hq)
    obtain ⟨g1, g2⟩ := j2 _ hx hdn
    have g3 := g2 (P (k + 1)) hP' (by rw [e1, e2]; exact hh)
    have ey : plY fw (10 * P k + ww k) (P (k + 1)) = 10 * P (k + 1) + ww (k + 1) := by
      unfold plY
      rw [e1, hs]
    rw [ey] at g3
    unfold plO at g3
    rw [e1, e2] at g3
    refine le2_tr g3 ?_
    rw [cst_s, fs1_s]
    have hg := cst_ge (wk_pre hp)
    by_cases q : (L (10 * P k + ww k)).1 < cst hw ww P k
    · exact Or.inl (by show (L (10 * P k + ww k)).1 + _ < _; omega)
    · have c1 : (L (10 * P k + ww k)).1 = cst hw ww P k := by omega
      have c2 : (L (10 * P k + ww k)).2 ≤ fs1 P k := by omega
      refine Or.inr ⟨by show (L (10 * P k + ww k)).1 + _ = _; omega, ?_⟩
      show (if (L (10 * P k + ww k)).1 = 0 then P (k + 1) + 1 else (L (10 * P k + ww k)).2) ≤ (if fs1 P k = 0 then P (k + 1) + 1 else fs1 P k)
      by_cases q0 : k = 0
      · subst q0
        rw [if_pos (by rw [c1]; rfl), if_pos (show fs1 P 0 = 0 from rfl)]
        exact Nat.le_refl _
      · rw [if_neg (by omega), if_neg (by unfold fs1; rw [if_neg q0]; omega)]
        exact c2
end
