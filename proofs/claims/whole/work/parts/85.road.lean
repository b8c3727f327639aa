/-! road -/
theorem fo_cg {α : Type} {f g : Nat → α → α} {lo : Nat} : ∀ (n : Nat) (x : α), (∀ i y, i < n → f i y = g i y) → fo f lo n x = fo g lo n x
  | 0, _, _ => rfl
  | n + 1, x, h => by
    show (if n < lo then fo f lo n x else f n (fo f lo n x)) = (if n < lo then fo g lo n x else g n (fo g lo n x))
    rw [fo_cg n x (fun i y hi => h i y (by omega)), h n _ (by omega)]
theorem skN_cg {hw hw' : Nat → Nat → Nat → Nat} {w best : Nat} {L L' : Nat → Nat × Nat} (h : ∀ w a b, a < 8 → b < 8 → hw w a b = hw' w a b) (hL : ∀ i, i < 8 → L i = L' i) {b : Nat} (hb : b < 8) : skN hw w best L b = skN hw' w best L' b := by
  refine fo_cg 8 _ (fun a x ha => ?_)
  unfold skS skO
  rw [hL a ha, h w a b ha hb]
theorem skK_cg {hw hw' : Nat → Nat → Nat → Nat} {ww : Nat → Nat} {st to : Nat} (ht : to < 8) (h : ∀ w a b, a < 8 → b < 8 → hw w a b = hw' w a b) : ∀ k, (∀ i, i < 8 → (skK hw ww st to k).1 i = (skK hw' ww st to k).1 i) ∧ (skK hw ww st to k).2 = (skK hw' ww st to k).2
  | 0 => ⟨fun _ _ => rfl, rfl⟩
  | k + 1 => by
    obtain ⟨h1, h2⟩ := skK_cg (st := st) (ww := ww) ht h k
    rw [skK_s, skK_s]
    refine ⟨fun i hi => ?_, ?_⟩
    · show skN hw (ww k) (skK hw ww st to k).2.1 (skK hw ww st to k).1 i = skN hw' (ww k) (skK hw' ww st to k).2.1 (skK hw' ww st to k).1 i
      rw [h2]
      exact skN_cg h h1 hi
    · show min2 (skK hw ww st to k).2 (skN hw (ww k) (skK hw ww st to k).2.1 (skK hw ww st to k).1 to) = min2 (skK hw' ww st to k).2 (skN hw' (ww k) (skK hw' ww st to k).2.1 (skK hw' ww st to k).1 to)
      rw [h2, skN_cg h h1 ht]
theorem skB_cg {hw hw' : Nat → Nat → Nat → Nat} {ww : Nat → Nat} {st to : Nat} (ht : to < 8) (h : ∀ w a b, a < 8 → b < 8 → hw w a b = hw' w a b) : skB hw ww st to = skB hw' ww st to := by
  unfold skB
  rw [(skK_cg (ww := ww) (st := st) ht h 16).2]
/-- one's soonest with a plank from i / 8 to i % 8 -/
def rdB (V : mVT) (A : Ab) (to i p : Nat) : Nat × Nat := skB (hwC V A p (tRn A) (some (i / 8, i % 8))) (aWet (A.kd p) (tRn A) (A.wt p)) (A.st p) to
def rdC (V : mVT) (A : Ab) (to i p : Nat) : Nat := if (rdB V A to i p).1 < 1000000 then 1 else 0
def rdH (V : mVT) (A : Ab) (to i p : Nat) : Nat := if (rdB V A to i p).1 < 1000000 then (rdB V A to i p).1 else 0
theorem rdC_le (V : mVT) (A : Ab) (to i p : Nat) : rdC V A to i p ≤ 1 := by
  unfold rdC
  split <;> omega
theorem rdH_le (V : mVT) (A : Ab) (to i p : Nat) : rdH V A to i p ≤ 1000000 := by
  unfold rdH
  split <;> omega
/-- who comes by a road, in how many hours -/
def cF (V : mVT) (A : Ab) (to n i : Nat) : Nat := aSum (rdC V A to i) n
def hF (V : mVT) (A : Ab) (to n i : Nat) : Nat := aSum (rdH V A to i) n
theorem cF_le (V : mVT) (A : Ab) (to n i : Nat) : cF V A to n i ≤ n := by
  have := aSum_le (rdC_le V A to i) n
  unfold cF
  omega
theorem hF_le (V : mVT) (A : Ab) (to n i : Nat) : hF V A to n i ≤ n * 1000000 := aSum_le (rdH_le V A to i) n
/-- the rows, the pairs below m told of one more -/
def RW (V : mVT) (A : Ab) (to n m : Nat) (s : mSG) : Prop := ∀ a b, a < b → b < 8 → s.1 43 (a * 8 + b) = nI (cF V A to (if a * 8 + b < m then n + 1 else n) (a * 8 + b)) ∧ s.1 44 (a * 8 + b) = nI (hF V A to (if a * 8 + b < m then n + 1 else n) (a * 8 + b))
/-- what stands while roads are tried -/
def RT (t : mTX) (tc : Nat) (V : mVT) (A : Ab) (p : Nat) (s : mSG) : Prop := GG t tc V A p (tRn A) (A.wt p) s ∧ KN 35 36 (hbB V A p (tRn A)) s ∧ KN 37 38 (hbP V A p (tRn A)) s
section
variable {t : mTX} {tc : Nat} {V : mVT} {A : Ab} {p to : Nat}
theorem c_try {s : mSG} {n a b : Nat} (ok : AbOK A tc) (hp : p < A.pp) (hn : n = p) (ht : to < 8) (hab : a < b) (hb : b < 8) (h : RT t tc V A p s) (hw : RW V A to n (a * 8 + b) s) : ∃ s', X3_tryRoads_28_7_b20 t (nI (A.st p)) (nI to) (nI a) (nI b) s = some (.inl (nI (b + 1), s')) ∧ RT t tc V A p s' ∧ RW V A to n (a * 8 + (b + 1)) s' := by
  have hst := ok.st p hp
  have h5 := ok.pp
  subst hn
  obtain ⟨gg, k35, k37⟩ := h
  have f0 : Fr [(34, some 8), (34, some 9)] s (sI (sI s 34 8 (nI a)) 34 9 (nI b)) := (Fr.rf.wI rfl).wI rfl
  have gg0 := GG_fr gg f0 rfl (fun _ => rfl) (fun _ => rfl) (fun _ => rfl) (fun _ => rfl) (fun _ => rfl) (fun _ => rfl)
  obtain ⟨s1, e1, gg1, _, k1, k2, v1, v2⟩ := c_seek (V := V) (rn := tRn A) (pk := some (a, b)) (w0 := A.wt n) (st := A.st n) (to := to) ok hp (ok.rn _) (ok.wt n hp) (by omega) ht gg0 ⟨by rw [sI_oth (by decide), sI_same], by rw [sI_same], by show a < 8; omega, hb⟩ (KN_fr k35 f0 rfl (fun _ => rfl)) (KN_fr k37 f0 rfl (fun _ => rfl))
  have f1 := FR_X3_seek_28_7 _ _ _ _ _ e1
  have er : skB (hwC V A n (tRn A) (some (a, b))) (aWet (A.kd n) (tRn A) (A.wt n)) (A.st n) to = rdB V A to (a * 8 + b) n := by
    unfold rdB
    rw [show (a * 8 + b) / 8 = a by omega, show (a * 8 + b) % 8 = b by omega]
  rw [er] at v1 v2
  have rb := (skB_le (hw := hwC V A n (tRn A) (some (a, b))) (ww := aWet (A.kd n) (tRn A) (A.wt n)) (st := A.st n) (to := to) (by omega) ht).1
  rw [er] at rb
  obtain ⟨w1, w2⟩ := hw a b hab hb
  rw [if_neg (by omega)] at w1 w2
  have r43 : s1.1 43 = s.1 43 := by funext k; rw [(f1 43 k rfl).1]; rfl
  have r44 : s1.1 44 = s.1 44 := by funext k; rw [(f1 44 k rfl).1]; rfl
  have cs : cF V A to (n + 1) (a * 8 + b) = cF V A to n (a * 8 + b) + rdC V A to (a * 8 + b) n := rfl
  have hs : hF V A to (n + 1) (a * 8 + b) = hF V A to n (a * 8 + b) + rdH V A to (a * 8 + b) n := rfl
  have oth : ∀ a' b', a' < b' → b' < 8 → ¬ a' * 8 + b' = a * 8 + b → (if a' * 8 + b' < a * 8 + (b + 1) then n + 1 else n) = (if a' * 8 + b' < a * 8 + b then n + 1 else n) := fun a' b' h1 h2 h3 => by
    by_cases g : a' * 8 + b' < a * 8 + b
    · rw [if_pos g, if_pos (by omega)]
    · rw [if_neg g, if_neg (by omega)]
  unfold X3_tryRoads_28_7_b20 X3_tryRoads_28_7_j94_20
  rw [if_neg (gl_le (x := 8) (m := 8) rfl hb (by omega)), ob e1, v1, nI_1]
  by_cases q : (rdB V A to (a * 8 + b) n).1 < 1000000
  · rw [if_neg (show ¬ (1000000 : Int32) ≤ nI (rdB V A to (a * 8 + b) n).1 from nI_ge (b := 1000000) q (by omega)), show nI a * 8 = nI (a * 8) from pk_mul a 8, nI_add, if_pos (gl_inb (show a * 8 + b < 64 by omega) (by omega)), nl_cl (by omega), r43, r44, w1, w2, nI_1, nI_add]
    refine ⟨_, rfl, ⟨GG_sI (GG_sI gg1 (by omega) (by omega)) (by omega) (by omega), ?_, ?_⟩, fun a' b' h1 h2 => ?_⟩
    · have f2 : Fr [(43, none), (44, none)] s1 (sI (sI s1 43 (a * 8 + b) (nI (cF V A to n (a * 8 + b) + 1))) 44 (a * 8 + b) (nI (hF V A to n (a * 8 + b) + (rdB V A to (a * 8 + b) n).1))) := (Fr.rf.wI rfl).wI rfl
      exact KN_fr k1 f2 rfl (fun _ => rfl)
    · have f2 : Fr [(43, none), (44, none)] s1 (sI (sI s1 43 (a * 8 + b) (nI (cF V A to n (a * 8 + b) + 1))) 44 (a * 8 + b) (nI (hF V A to n (a * 8 + b) + (rdB V A to (a * 8 + b) n).1))) := (Fr.rf.wI rfl).wI rfl
      exact KN_fr k2 f2 rfl (fun _ => rfl)
    · by_cases g : a' * 8 + b' = a * 8 + b
      · rw [g, sI_adr (by decide), sI_same, sI_same, if_pos (by omega), cs, hs]
        unfold rdC rdH
        rw [if_pos q, if_pos q]
        exact ⟨rfl, rfl⟩
      · rw [sI_adr (by decide), sI_oth g, sI_oth g, sI_adr (by decide), r43, r44, oth a' b' h1 h2 g]
        exact hw a' b' h1 h2
  · rw [if_pos (show (1000000 : Int32) ≤ nI (rdB V A to (a * 8 + b) n).1 from nI_le (a := 1000000) (by omega) (by omega))]
    refine ⟨s1, rfl, ⟨gg1, k1, k2⟩, fun a' b' h1 h2 => ?_⟩
    rw [r43, r44]
    by_cases g : a' * 8 + b' = a * 8 + b
    · rw [g, if_pos (by omega), cs, hs, w1, w2]
      unfold rdC rdH
      rw [if_neg q, if_neg q]
      exact ⟨rfl, rfl⟩
    · rw [oth a' b' h1 h2 g]
      exact hw a' b' h1 h2
theorem c_tryI {s : mSG} {a : Nat} (ok : AbOK A tc) (hp : p < A.pp) (ht : to < 8) (ha : a < 8) (h : RT t tc V A p s) (hw : RW V A to p (a * 8) s) : ∃ s', X3_tryRoads_28_7_l20 t (nI (A.st p)) (nI to) (nI a) (nI (a + 1), s) = some s' ∧ (RT t tc V A p s' ∧ RW V A to p ((a + 1) * 8) s') := by
  unfold X3_tryRoads_28_7_l20
  have hw0 : RW V A to p (a * 8 + (a + 1)) s := fun a' b' h1 h2 => by
    have e : (if a' * 8 + b' < a * 8 + (a + 1) then p + 1 else p) = (if a' * 8 + b' < a * 8 then p + 1 else p) := by
      by_cases g : a' * 8 + b' < a * 8
      · rw [if_pos g, if_pos (by omega)]
      · rw [if_neg g, if_neg (by omega)]
    rw [e]
    exact hw a' b' h1 h2
  refine lpN (fun b (v : Int32 × mSG) => v.1 = nI b ∧ a + 1 ≤ b ∧ RT t tc V A p v.2 ∧ RW V A to p (a * 8 + b) v.2) _ 8 (by unfold mFU; omega) ?_ ?_ (k := a + 1) (by omega) (x := (nI (a + 1), s)) ⟨rfl, Nat.le_refl _, h, hw0⟩
  · intro b v hb hv
    obtain ⟨y, s1⟩ := v
    obtain ⟨g1, g2, g3, g4⟩ := hv
    have g1 : y = nI b := g1
    subst g1
    obtain ⟨s2, e2, r2, w2⟩ := c_try ok hp rfl ht (by omega) hb g3 g4
    exact ⟨(nI (b + 1), s2), e2, rfl, by omega, r2, w2⟩
  · intro v hv
    obtain ⟨y, s1⟩ := v
    obtain ⟨g1, g2, g3, g4⟩ := hv
    have g1 : y = nI 8 := g1
    subst g1
    rw [show a * 8 + 8 = (a + 1) * 8 by omega] at g4
    refine ⟨s1, ?_, g3, g4⟩
    show X3_tryRoads_28_7_b20 t (nI (A.st p)) (nI to) (nI a) (nI 8) s1 = _
    unfold X3_tryRoads_28_7_b20
    rw [if_pos (show (8 : Int32) ≤ nI 8 from by decide)]
theorem c_tryR {s : mSG} (ok : AbOK A tc) (hp : p < A.pp) (ht : to < 8) (gg : GG t tc V A p (tRn A) (A.wt p) s) (hw : RW V A to p 0 s) : ∃ s', X3_tryRoads_28_7 t (nI (A.st p)) (nI to) s = some s' ∧ RW V A to (p + 1) 0 s' ∧ s'.1 34 8 = -1 ∧ s'.1 34 9 = -1 := by
  unfold X3_tryRoads_28_7
  have e1 : X3_forget s = some (sI (sI s 35 1 0) 37 1 0) := rfl
  have f1 := FR_X3_forget _ _ e1
  rw [ob e1]
  have rt1 : RT t tc V A p (sI (sI s 35 1 0) 37 1 0) := ⟨GG_fr gg f1 rfl (fun _ => rfl) (fun _ => rfl) (fun _ => rfl) (fun _ => rfl) (fun _ => rfl) (fun _ => rfl), KN_0 rfl, KN_0 rfl⟩
  have rw1 : RW V A to p (0 * 8) (sI (sI s 35 1 0) 37 1 0) := fun a b h1 h2 => by
    rw [(f1 43 _ rfl).1, (f1 44 _ rfl).1]
    exact hw a b h1 h2
  have key : ∃ e, X3_tryRoads_28_7_l7 t (nI (A.st p)) (nI to) (0, sI (sI s 35 1 0) 37 1 0) = some e ∧ RW V A to p (8 * 8) e := by
    unfold X3_tryRoads_28_7_l7
    refine lpN (fun a (v : Int32 × mSG) => v.1 = nI a ∧ RT t tc V A p v.2 ∧ RW V A to p (a * 8) v.2) _ 8 (by unfold mFU; omega) ?_ ?_ (k := 0) (by omega) (x := (0, sI (sI s 35 1 0) 37 1 0)) ⟨rfl, rt1, rw1⟩
    · intro a v ha hv
      obtain ⟨y, s1⟩ := v
      obtain ⟨g1, g2, g3⟩ := hv
      have g1 : y = nI a := g1
      subst g1
      obtain ⟨s2, e2, r2, w2⟩ := c_tryI ok hp ht ha g2 g3
      refine ⟨(nI (a + 1), s2), ?_, rfl, r2, w2⟩
      show X3_tryRoads_28_7_b7 t (nI (A.st p)) (nI to) (nI a) s1 = _
      unfold X3_tryRoads_28_7_b7
      rw [if_neg (gl_le (x := 8) (m := 8) rfl ha (by omega)), nI_1, ob e2]
    · intro v hv
      obtain ⟨y, s1⟩ := v
      obtain ⟨g1, g2, g3⟩ := hv
      have g1 : y = nI 8 := g1
      subst g1
      refine ⟨s1, ?_, g3⟩
      show X3_tryRoads_28_7_b7 t (nI (A.st p)) (nI to) (nI 8) s1 = _
      unfold X3_tryRoads_28_7_b7
      rw [if_pos (show (8 : Int32) ≤ nI 8 from by decide)]
  obtain ⟨e, he, hR⟩ := key
  rw [ob he]
  refine ⟨_, rfl, fun a b h1 h2 => ?_, ?_, ?_⟩
  · rw [sI_adr (by decide), sI_adr (by decide), sI_adr (by decide), sI_adr (by decide), if_neg (Nat.not_lt_zero _)]
    have := hR a b h1 h2
    rw [if_pos (by omega)] at this
    exact this
  · rw [sI_oth (by decide), sI_same]
  · rw [sI_same]
end
/-- the best of roads, by their numbers -/
def rF (V : mVT) (A : Ab) (to i r : Nat) : Nat := if i / 8 < i % 8 ∧ (cF V A to A.pp r < cF V A to A.pp i ∨ (cF V A to A.pp i = cF V A to A.pp r ∧ hF V A to A.pp i < hF V A to A.pp r)) then i else r
def rR (V : mVT) (A : Ab) (to m : Nat) : Nat := fo (rF V A to) 0 m 1
theorem rR_s (V : mVT) (A : Ab) (to m : Nat) : rR V A to (m + 1) = rF V A to m (rR V A to m) := fo_st (Nat.zero_le _)
theorem rR_ok (V : mVT) (A : Ab) (to : Nat) : ∀ m, m ≤ 64 → (rR V A to m) / 8 < (rR V A to m) % 8 ∧ rR V A to m < 64
  | 0, _ => ⟨by show 1 / 8 < 1 % 8; decide, by show 1 < 64; decide⟩
  | m + 1, h => by
    rw [rR_s]
    have ih := rR_ok V A to m (by omega)
    unfold rF
    split
    · rename_i g; exact ⟨g.1, by omega⟩
    · exact ih
/-- over what is no pair nothing changes -/
theorem rR_skip (V : mVT) (A : Ab) (to : Nat) {m : Nat} : ∀ k, (∀ i, m ≤ i → i < m + k → ¬ i / 8 < i % 8) → rR V A to (m + k) = rR V A to m
  | 0, _ => rfl
  | k + 1, h => by
    show rR V A to (m + k + 1) = _
    rw [rR_s]
    unfold rF
    rw [if_neg (fun g => h (m + k) (by omega) (by omega) g.1)]
    exact rR_skip V A to k (fun i h1 h2 => h i h1 (by omega))
theorem c_bestI {V : mVT} {A : Ab} {to a : Nat} {s : mSG} (h5 : A.pp ≤ 5) (ha : a < 8) (hw : RW V A to A.pp 0 s) : X3_bestRoad_l14 (nI a) s (nI (rR V A to (a * 8)), nI (a + 1)) = some (nI (rR V A to ((a + 1) * 8))) := by
  unfold X3_bestRoad_l14
  have e0 : rR V A to (a * 8 + (a + 1)) = rR V A to (a * 8) := rR_skip V A to (a + 1) (fun i h1 h2 => by omega)
  have key := iter_cnt (b := fun v : Int32 × Int32 => X3_bestRoad_b14 (nI a) v.1 v.2 s) (fun k => (nI (rR V A to (a * 8 + (a + 1 + k))), nI (a + 1 + k))) (7 - a) (nI (rR V A to ((a + 1) * 8))) ?_ ?_ mFU 0 (Nat.zero_le _) (by show 7 - a - 0 < 1000000; omega)
  · rw [Nat.add_zero, e0] at key
    exact key
  · intro k hk
    have ok := rR_ok V A to (a * 8 + (a + 1 + k)) (by omega)
    show X3_bestRoad_b14 (nI a) (nI (rR V A to (a * 8 + (a + 1 + k)))) (nI (a + 1 + k)) s = some (.inl (nI (rR V A to (a * 8 + (a + 1 + (k + 1)))), nI (a + 1 + (k + 1))))
    rw [show a * 8 + (a + 1 + (k + 1)) = a * 8 + (a + 1 + k) + 1 by omega, rR_s]
    generalize hr : rR V A to (a * 8 + (a + 1 + k)) = r at ok
    obtain ⟨w1, w2⟩ := hw a (a + 1 + k) (by omega) (by omega)
    obtain ⟨u1, u2⟩ := hw (r / 8) (r % 8) ok.1 (by omega)
    rw [if_neg (Nat.not_lt_zero _)] at w1 w2 u1 u2
    rw [show r / 8 * 8 + r % 8 = r by omega] at u1 u2
    have c1 := cF_le V A to A.pp r
    have c2 := cF_le V A to A.pp (a * 8 + (a + 1 + k))
    have h1 := hF_le V A to A.pp r
    have h2 := hF_le V A to A.pp (a * 8 + (a + 1 + k))
    unfold X3_bestRoad_b14 X3_bestRoad_j76_14 X3_bestRoad_j79_14 rF
    rw [if_neg (gl_le (x := 8) (m := 8) rfl (by omega) (by omega)), show nI a * 8 = nI (a * 8) from pk_mul a 8, nI_add, if_pos (gl_inb (show a * 8 + (a + 1 + k) < 64 by omega) (by omega)), if_pos (gl_inb ok.2 (by omega)), nl_cl (show r < 2147483648 by omega), nl_cl (show a * 8 + (a + 1 + k) < 2147483648 by omega), w1, w2, u1, u2, nI_1]
    have pr : (a * 8 + (a + 1 + k)) / 8 < (a * 8 + (a + 1 + k)) % 8 := by omega
    by_cases q1 : cF V A to A.pp r < cF V A to A.pp (a * 8 + (a + 1 + k))
    · rw [if_pos (nI_lt q1 (by omega)), if_pos ⟨pr, Or.inl q1⟩]
      rfl
    · rw [if_neg (nI_nlt (by omega) (by omega))]
      by_cases q2 : cF V A to A.pp (a * 8 + (a + 1 + k)) = cF V A to A.pp r
      · rw [if_pos (by rw [q2])]
        by_cases q3 : hF V A to A.pp r ≤ hF V A to A.pp (a * 8 + (a + 1 + k))
        · rw [if_pos (nI_le q3 (by omega)), if_neg (fun g => by rcases g.2 with g | g <;> omega)]
          rfl
        · rw [if_neg (nI_ge (by omega) (by omega)), if_pos ⟨pr, Or.inr ⟨q2, by omega⟩⟩]
          rfl
      · rw [if_neg (show ¬ nI (cF V A to A.pp (a * 8 + (a + 1 + k))) = nI (cF V A to A.pp r) from by rw [nl_eq (by omega) (by omega)]; exact q2), if_neg (fun g => by rcases g.2 with g | g <;> omega)]
        rfl
  · show X3_bestRoad_b14 (nI a) (nI (rR V A to (a * 8 + (a + 1 + (7 - a))))) (nI (a + 1 + (7 - a))) s = _
    unfold X3_bestRoad_b14
    rw [show a + 1 + (7 - a) = 8 by omega, if_pos (show (8 : Int32) ≤ nI 8 from by decide), show a * 8 + 8 = (a + 1) * 8 by omega]
theorem c_best {V : mVT} {A : Ab} {to : Nat} {s : mSG} (h5 : A.pp ≤ 5) (hw : RW V A to A.pp 0 s) : X3_bestRoad s = some (nI (rR V A to 64)) := by
  unfold X3_bestRoad X3_bestRoad_l4
  have key := iter_cnt (b := fun v : Int32 × Int32 => X3_bestRoad_b4 v.1 v.2 s) (fun a => (nI (rR V A to (a * 8)), nI a)) 8 (nI (rR V A to 64)) ?_ ?_ mFU 0 (Nat.zero_le _) (by show 8 - 0 < 1000000; omega)
  · rw [ob (show iter (fun v : Int32 × Int32 => X3_bestRoad_b4 v.1 v.2 s) mFU (1, 0) = _ from key)]
  · intro a ha
    show X3_bestRoad_b4 (nI (rR V A to (a * 8))) (nI a) s = _
    unfold X3_bestRoad_b4
    rw [if_neg (gl_le (x := 8) (m := 8) rfl ha (by omega)), nI_1, ob (c_bestI h5 ha hw)]
  · show X3_bestRoad_b4 (nI (rR V A to (8 * 8))) (nI 8) s = _
    unfold X3_bestRoad_b4
    rw [if_pos (show (8 : Int32) ≤ nI 8 from by decide)]
def vRoad (V : mVT) (A : Ab) (x y : Int32) : Int32 := if inR x 7 ∧ inR y 2 then (if y = 0 then nI (10 * (rR V A x.toNatClampNeg 64 / 8) + rR V A x.toNatClampNeg 64 % 8) else if y = 1 then nI (cF V A x.toNatClampNeg A.pp (rR V A x.toNatClampNeg 64)) else nI (hF V A x.toNatClampNeg A.pp (rR V A x.toNatClampNeg 64))) else -2
theorem c_road {t : mTX} {tc : Nat} {V : mVT} {A : Ab} {s : mSG} (c : CT t tc V s) (hc : s.1 6 11 = nI tc) (h6 : tc ≤ 6) (h : RS 7 8 9 10 11 A s) (b3 : AbOK A tc) (k8 : s.1 34 8 = -1) (k9 : s.1 34 9 = -1) (x y : Int32) : ∃ s', X8_road t x y s = some (vRoad V A x y, s') ∧ s'.1 34 8 = -1 ∧ s'.1 34 9 = -1 := by
  have h5 := b3.pp
  unfold X8_road vRoad
  rw [c_isStone, show X8_isWithin y 2 = _ from c_within y 2]
  by_cases q : inR x 7 ∧ inR y 2
  · rw [decide_eq_true q.1, decide_eq_true q.2, if_pos rfl, if_pos rfl, if_pos q]
    obtain ⟨to, ht, rfl⟩ := inR_of q.1 (by omega)
    rw [nl_cl (by omega)]
    obtain ⟨s1, e1, v1, g1⟩ := c_fill_43 0 s
    obtain ⟨s2, e2, v2, g2⟩ := c_fill_44 0 s1
    have ec : X3_clearRoads s = some s2 := by
      unfold X3_clearRoads
      rw [ob e1, ob e2]
    have fc := FR_X3_clearRoads _ _ ec
    rw [ob ec]
    have rw0 : RW V A to 0 0 s2 := fun a b h1 h2 => by
      rw [g2 43 (by decide), v1 _ (by omega), v2 _ (by omega), if_neg (Nat.not_lt_zero _)]
      exact ⟨rfl, rfl⟩
    have key : ∃ e, X8_road_l27 t (nI to) y (0, s2) = some e ∧ (RW V A to A.pp 0 e ∧ e.1 34 8 = -1 ∧ e.1 34 9 = -1) := by
      unfold X8_road_l27
      refine lpN (fun p (v : Int32 × mSG) => v.1 = nI p ∧ CT t tc V v.2 ∧ v.2.1 6 11 = nI tc ∧ RS 7 8 9 10 11 A v.2 ∧ RW V A to p 0 v.2 ∧ v.2.1 34 8 = -1 ∧ v.2.1 34 9 = -1) (fun e : mSG => RW V A to A.pp 0 e ∧ e.1 34 8 = -1 ∧ e.1 34 9 = -1) A.pp (by unfold mFU; omega) ?_ ?_ (k := 0) (by omega) (x := (0, s2)) ⟨rfl, CT_fr c fc rfl, (fc 6 11 rfl).1.trans hc, RS_fr h fc (fun _ => rfl) (fun _ => rfl) (fun _ => rfl) (fun _ => rfl) (fun _ => rfl), rw0, (fc 34 8 rfl).1.trans k8, (fc 34 9 rfl).1.trans k9⟩
      · intro p v hp hv
        obtain ⟨z, s3⟩ := v
        obtain ⟨m1, m2, m3, m4, m5, m6, m7⟩ := hv
        have m1 : z = nI p := m1
        subst m1
        have m2 : CT t tc V s3 := m2
        have m3 : s3.1 6 11 = nI tc := m3
        have m4 : RS 7 8 9 10 11 A s3 := m4
        have m5 : RW V A to p 0 s3 := m5
        obtain ⟨s4, e4, go4⟩ := c_be_28_7 m4 b3 hp A.ru
        have f4 := FR_X0_be_28_7 _ _ _ _ e4
        have r4 := RS_fr m4 f4 (fun _ => rfl) (fun _ => rfl) (fun _ => rfl) (fun _ => rfl) (fun _ => rfl)
        have c4 := CT_fr m2 f4 rfl
        obtain ⟨s5, e5, w5, n8, n9⟩ := c_tryR (V := V) b3 hp (show to < 8 by omega) ⟨c4, r4, go4⟩ (fun a b h1 h2 => by rw [(f4 43 _ rfl).1, (f4 44 _ rfl).1]; exact m5 a b h1 h2)
        have f5 := FR_X3_tryRoads_28_7 _ _ _ _ _ e5
        refine ⟨(nI (p + 1), s5), ?_, rfl, CT_fr c4 f5 rfl, ((f5 6 11 rfl).1.trans (f4 6 11 rfl).1).trans m3, RS_fr r4 f5 (fun _ => rfl) (fun _ => rfl) (fun _ => rfl) (fun _ => rfl) (fun _ => rfl), w5, n8, n9⟩
        show X8_road_b27 t (nI to) y (nI p) s3 = _
        unfold X8_road_b27
        rw [m4.pp, if_neg (nI_ge hp (by omega)), ob (c_rule_7 m2 m3 h6 m4 b3), ob e4, ob (show X5_trait_7 (nI p) 0 s4 = some (nI (A.st p)) from (c_trait_7 (w := 0) r4 h5 hp (by omega)).trans (congrArg some (r4.st p hp))), ob e5, nI_1]
      · intro v hv
        obtain ⟨z, s3⟩ := v
        obtain ⟨m1, m2, m3, m4, m5⟩ := hv
        have m1 : z = nI A.pp := m1
        subst m1
        have m4 : RS 7 8 9 10 11 A s3 := m4
        refine ⟨s3, ?_, m5⟩
        show X8_road_b27 t (nI to) y (nI A.pp) s3 = _
        unfold X8_road_b27
        rw [m4.pp, if_pos (nI_le (Nat.le_refl _) (by omega))]
    obtain ⟨e, he, hR, n8, n9⟩ := key
    rw [ob he, ob (c_best h5 hR)]
    have ok := rR_ok V A to 64 (Nat.le_refl _)
    generalize rR V A to 64 = r at ok
    obtain ⟨u1, u2⟩ := hR (r / 8) (r % 8) ok.1 (by omega)
    rw [if_neg (Nat.not_lt_zero _), show r / 8 * 8 + r % 8 = r by omega] at u1 u2
    have r63 : X8_isWithin (nI r) 63 = true := by rw [show X8_isWithin (nI r) 63 = _ from c_within (nI r) 63]; exact decide_eq_true ((inR_nI (show r < 2147483648 by omega) (show 63 < 2147483648 by omega)).mpr (by omega))
    refine ⟨e, ?_, n8, n9⟩
    by_cases y0 : y = 0
    · rw [if_pos y0, if_pos y0]
      have e8 : nI r / 8 = nI (r / 8) := nl_div (d := 8) (by omega) (by omega) (by omega)
      have em : nI r - nI (r / 8) * 8 = nI (r % 8) := by rw [← e8]; exact nl_rem (d := 8) (by omega) (by omega) (by omega)
      rw [e8, em, show nI (r / 8) * 10 = nI (r / 8 * 10) from pk_mul _ 10, nI_add, Nat.mul_comm]
    · rw [if_neg y0, if_neg y0]
      by_cases y1 : y = 1
      · rw [if_pos y1, if_pos y1]
        unfold X3_comersBy
        rw [r63, if_pos rfl, if_pos (gl_inb ok.2 (by omega)), nl_cl (show r < 2147483648 by omega), u1]
        rfl
      · rw [if_neg y1, if_neg y1]
        unfold X3_hoursBy
        rw [r63, if_pos rfl, if_pos (gl_inb ok.2 (by omega)), nl_cl (show r < 2147483648 by omega), u2]
        rfl
  · rw [if_neg q]
    by_cases q1 : inR x 7
    · rw [decide_eq_true q1, decide_eq_false (fun q2 => q ⟨q1, q2⟩)]
      exact ⟨_, rfl, k8, k9⟩
    · rw [decide_eq_false q1]
      exact ⟨_, rfl, k8, k9⟩
