/-! STEPS OF THE MINI MACHINE, AS RULES -/
section EXR
variable {C : mCT} {cd : Nat → mSem} {r : mRT} {pc pc' p1 p2 : Nat} {L L' L1 L2 : mLV} {S S' S1 S2 rest : List Value} {s s' s1 s2 : mSG} {Y Y' Y1 Y2 : mLY}
theorem Ex_st (k : Nat) (h : ∀ f, mEx C cd r (f + k) pc L S s Y = mEx C cd r f pc' L' S' s' Y') (e : Ex C cd r pc' L' S' s' Y') : Ex C cd r pc L S s Y := by
  obtain ⟨f, hf⟩ := e
  exact ⟨f + k, (h f).symm ▸ hf⟩
theorem Ex_br (k : Nat) (c : Prop) (h : ∀ f, mEx C cd r (f + k) pc L S s Y = ((c → mEx C cd r f p1 L1 S1 s1 Y1) ∧ (¬ c → mEx C cd r f p2 L2 S2 s2 Y2))) (e1 : c → Ex C cd r p1 L1 S1 s1 Y1) (e2 : ¬ c → Ex C cd r p2 L2 S2 s2 Y2) : Ex C cd r pc L S s Y := by
  by_cases hc : c
  · obtain ⟨f, hf⟩ := e1 hc
    exact ⟨f + k, (h f).symm ▸ ⟨fun _ => hf, fun n => absurd hc n⟩⟩
  · obtain ⟨f, hf⟩ := e2 hc
    exact ⟨f + k, (h f).symm ▸ ⟨fun n => absurd n hc, fun _ => hf⟩⟩
theorem Ex_brT (k : Nat) {c : Prop} {X : Nat → Prop} (h : ∀ f, mEx C cd r (f + k) pc L S s Y = ((c → mEx C cd r f p1 L1 S1 s1 Y1) ∧ (¬ c → X f))) (hc : c) (e1 : Ex C cd r p1 L1 S1 s1 Y1) : Ex C cd r pc L S s Y := by
  obtain ⟨f, hf⟩ := e1
  exact ⟨f + k, (h f).symm ▸ ⟨fun _ => hf, fun n => absurd hc n⟩⟩
theorem Ex_brF (k : Nat) {c : Prop} {X : Nat → Prop} (h : ∀ f, mEx C cd r (f + k) pc L S s Y = ((c → X f) ∧ (¬ c → mEx C cd r f p1 L1 S1 s1 Y1))) (hc : ¬ c) (e1 : Ex C cd r p1 L1 S1 s1 Y1) : Ex C cd r pc L S s Y := by
  obtain ⟨f, hf⟩ := e1
  exact ⟨f + k, (h f).symm ▸ ⟨fun n => absurd n hc, fun _ => hf⟩⟩
def b2i (b : Bool) : Int32 := bif b then 1 else 0
theorem b2i_01 (b : Bool) : b2i b = 0 ∨ b2i b = 1 := by cases b <;> simp [b2i]
theorem m_nt {b : Bool} (h : b = false) : ¬ b = true := by rw [h]; decide
theorem Ex_brZ (k : Nat) (b : Bool) (h : ∀ f, mEx C cd r (f + k) pc L S s Y = ((b2i b = 0 → mEx C cd r f p1 L1 S1 s1 Y1) ∧ (¬ b2i b = 0 → mEx C cd r f p2 L2 S2 s2 Y2))) (e1 : b = false → Ex C cd r p1 L1 S1 s1 Y1) (e2 : b = true → Ex C cd r p2 L2 S2 s2 Y2) : Ex C cd r pc L S s Y := by
  refine Ex_br k _ h (fun hc => e1 ?_) (fun hc => e2 ?_)
  · cases b
    · rfl
    · exact absurd hc (by decide)
  · cases b
    · exact absurd rfl hc
    · rfl
theorem Ex_gd (k : Nat) {g : Prop} (h : ∀ f, mEx C cd r (f + k) pc L S s Y = (g ∧ mEx C cd r f pc' L' S' s' Y')) (hg : g) (e : Ex C cd r pc' L' S' s' Y') : Ex C cd r pc L S s Y := by
  obtain ⟨f, hf⟩ := e
  exact ⟨f + k, (h f).symm ▸ ⟨hg, hf⟩⟩
theorem Ex_gd2 (k : Nat) {g g2 : Prop} (h : ∀ f, mEx C cd r (f + k) pc L S s Y = (g ∧ g2 ∧ mEx C cd r f pc' L' S' s' Y')) (hg : g) (hg2 : g2) (e : Ex C cd r pc' L' S' s' Y') : Ex C cd r pc L S s Y := by
  obtain ⟨f, hf⟩ := e
  exact ⟨f + k, (h f).symm ▸ ⟨hg, hg2, hf⟩⟩
theorem Ex_if (k : Nat) {c : Prop} [hdc : Decidable c] (h : ∀ f, mEx C cd r (f + k) pc L S s Y = (if c then mEx C cd r f pc' L' S' s' Y' else False)) (hc : c) (e : Ex C cd r pc' L' S' s' Y') : Ex C cd r pc L S s Y := by
  obtain ⟨f, hf⟩ := e
  exact ⟨f + k, by rw [h f, if_pos hc]; exact hf⟩
theorem Ex_ifE (k : Nat) {c : Prop} [hdc : Decidable c] {X : Nat → Prop} (h : ∀ f, mEx C cd r (f + k) pc L S s Y = (if c then mEx C cd r f pc' L' S' s' Y' else X f)) (hc : c) (e : Ex C cd r pc' L' S' s' Y') : Ex C cd r pc L S s Y := by
  obtain ⟨f, hf⟩ := e
  exact ⟨f + k, by rw [h f, if_pos hc]; exact hf⟩
theorem Ex_ifg (k : Nat) {c g : Prop} [hdc : Decidable c] {X : Nat → Prop} (h : ∀ f, mEx C cd r (f + k) pc L S s Y = (if c then (g ∧ mEx C cd r f pc' L' S' s' Y') else X f)) (hc : c) (hg : g) (e : Ex C cd r pc' L' S' s' Y') : Ex C cd r pc L S s Y := by
  obtain ⟨f, hf⟩ := e
  exact ⟨f + k, by rw [h f, if_pos hc]; exact ⟨hg, hf⟩⟩
theorem Ex_ifgg (k : Nat) {c g g2 : Prop} [hdc : Decidable c] (h : ∀ f, mEx C cd r (f + k) pc L S s Y = (if c then (g ∧ g2 ∧ mEx C cd r f pc' L' S' s' Y') else False)) (hc : c) (hg : g) (hg2 : g2) (e : Ex C cd r pc' L' S' s' Y') : Ex C cd r pc L S s Y := by
  obtain ⟨f, hf⟩ := e
  exact ⟨f + k, by rw [h f, if_pos hc]; exact ⟨hg, hg2, hf⟩⟩
theorem Ex_getF (k : Nat) {c : Prop} [hdc : Decidable c] {o : Option Nat} {b : Nat} (h : ∀ f, mEx C cd r (f + k) pc L S s Y = (if c then (match o with
    | some b => mEx C cd r f pc' L' (.ref b :: S') s' Y'
    | none => False) else False)) (hc : c) (ho : o = some b) (e : Ex C cd r pc' L' (.ref b :: S') s' Y') : Ex C cd r pc L S s Y := by
  obtain ⟨f, hf⟩ := e
  exact ⟨f + k, by rw [h f, if_pos hc, ho]; exact hf⟩
theorem Ex_getQ (k : Nat) {o : Option Nat} {b : Nat} (h : ∀ f, mEx C cd r (f + k) pc L S s Y = (match o with
    | some b => mEx C cd r f pc' L' (.ref b :: S') s' Y'
    | none => mEx C cd r f pc' L' (.null :: S') s' Y')) (ho : o = some b) (e : Ex C cd r pc' L' (.ref b :: S') s' Y') : Ex C cd r pc L S s Y := by
  obtain ⟨f, hf⟩ := e
  exact ⟨f + k, by rw [h f, ho]; exact hf⟩
theorem Ex_getQn (k : Nat) {o : Option Nat} (h : ∀ f, mEx C cd r (f + k) pc L S s Y = (match o with
    | some b => mEx C cd r f pc' L' (.ref b :: S') s' Y'
    | none => mEx C cd r f pc' L' (.null :: S') s' Y')) (ho : o = none) (e : Ex C cd r pc' L' (.null :: S') s' Y') : Ex C cd r pc L S s Y := by
  obtain ⟨f, hf⟩ := e
  exact ⟨f + k, by rw [h f, ho]; exact hf⟩
theorem Ex_aald (k : Nat) {g : Prop} {o : Option Nat} {b : Nat} (h : ∀ f, mEx C cd r (f + k) pc L S s Y = (g ∧ (match o with
    | some b => mEx C cd r f pc' L' (.ref b :: S') s' Y'
    | none => False))) (hg : g) (ho : o = some b) (e : Ex C cd r pc' L' (.ref b :: S') s' Y') : Ex C cd r pc L S s Y := by
  obtain ⟨f, hf⟩ := e
  exact ⟨f + k, by rw [h f, ho]; exact ⟨hg, hf⟩⟩
theorem Ex_call (k : Nat) {m : Nat} {As : List Value} {q : mRT} (h : ∀ f, mEx C cd r (f + k) pc L S s Y = (∃ q : mRT, C m As s' Y q ∧ (mLe Y q.2.2 ∧ mLe q.2.2 r.2.2) ∧ mEx C cd r f pc' L' (q.1.toList ++ rest) q.2.1 q.2.2)) (hc : C m As s' Y q) (hq : q.2.2 = Y) (hr : r.2.2 = Y) (e : Ex C cd r pc' L' (q.1.toList ++ rest) q.2.1 q.2.2) : Ex C cd r pc L S s Y := by
  obtain ⟨f, hf⟩ := e
  refine ⟨f + k, ?_⟩
  rw [h f]
  exact ⟨q, hc, ⟨by rw [hq]; exact mLe_refl _, by rw [hq, hr]; exact mLe_refl _⟩, hf⟩
theorem Ex_callK (k : Nat) {m : Nat} {As : List Value} {q : mRT} {c : Prop} [hdc : Decidable c] (h : ∀ f, mEx C cd r (f + k) pc L S s Y = (if c then (∃ q : mRT, C m As s' Y q ∧ (mLe Y q.2.2 ∧ mLe q.2.2 r.2.2) ∧ mEx C cd r f pc' L' (q.1.toList ++ rest) q.2.1 q.2.2) else False)) (hcc : c) (hc : C m As s' Y q) (hq : q.2.2 = Y) (hr : r.2.2 = Y) (e : Ex C cd r pc' L' (q.1.toList ++ rest) q.2.1 q.2.2) : Ex C cd r pc L S s Y := by
  obtain ⟨f, hf⟩ := e
  refine ⟨f + k, ?_⟩
  rw [h f, if_pos hcc]
  exact ⟨q, hc, ⟨by rw [hq]; exact mLe_refl _, by rw [hq, hr]; exact mLe_refl _⟩, hf⟩
/-- a call that makes cells -/
theorem Ex_callN (k : Nat) {m : Nat} {As : List Value} {q : mRT} (h : ∀ f, mEx C cd r (f + k) pc L S s Y = (∃ q : mRT, C m As s' Y' q ∧ (mLe Y' q.2.2 ∧ mLe q.2.2 r.2.2) ∧ mEx C cd r f pc' L' (q.1.toList ++ rest) q.2.1 q.2.2)) (hc : C m As s' Y' q) (hq : mLe Y' q.2.2) (hr : mLe q.2.2 r.2.2) (e : Ex C cd r pc' L' (q.1.toList ++ rest) q.2.1 q.2.2) : Ex C cd r pc L S s Y := by
  obtain ⟨f, hf⟩ := e
  refine ⟨f + k, ?_⟩
  rw [h f]
  exact ⟨q, hc, ⟨hq, hr⟩, hf⟩
theorem Ex_ret (k : Nat) {r' : mRT} (h : ∀ f, mEx C cd r (f + k) pc L S s Y = (r = r')) (hr : r = r') : Ex C cd r pc L S s Y := ⟨0 + k, by rw [h 0]; exact hr⟩
theorem Ex_retZ (k : Nat) {g : Prop} {r' : mRT} (h : ∀ f, mEx C cd r (f + k) pc L S s Y = (g ∧ r = r')) (hg : g) (hr : r = r') : Ex C cd r pc L S s Y := ⟨0 + k, by rw [h 0]; exact ⟨hg, hr⟩⟩
/-- where a switch goes, some fuel for each -/
def mSwE (C : mCT) (cd : Nat → mSem) (r : mRT) (l : List (Int32 × Nat)) (d : Nat) (x : Int32) (L : mLV) (S : List Value) (s : mSG) (Y : mLY) : Prop := Ex C cd r (mSwT l d x) L S s Y
theorem mSw_mk : ∀ (l : List (Int32 × Nat)) (d : Nat) (x : Int32) (K : Nat → Prop), K (mSwT l d x) → mSw l d x K
  | [], _, _, _, h => h
  | q :: l, d, x, K, h => by
    unfold mSwT at h
    refine ⟨fun e => ?_, fun e => ?_⟩
    · rw [if_pos e] at h; exact h
    · rw [if_neg e] at h; exact mSw_mk l d x K h
theorem Ex_sw (k : Nat) {l : List (Int32 × Nat)} {d : Nat} {x : Int32} (h : ∀ f, mEx C cd r (f + k) pc L S s Y = mSw l d x (fun t => mEx C cd r f t L' S' s' Y')) (e : mSwE C cd r l d x L' S' s' Y') : Ex C cd r pc L S s Y := by
  obtain ⟨f, hf⟩ := e
  exact ⟨f + k, by rw [h f]; exact mSw_mk _ _ _ _ hf⟩
theorem mSwE_cons {q : Int32 × Nat} {l : List (Int32 × Nat)} {d : Nat} {x : Int32} (h1 : x = q.1 → Ex C cd r q.2 L S s Y) (h2 : ¬ x = q.1 → mSwE C cd r l d x L S s Y) : mSwE C cd r (q :: l) d x L S s Y := by
  unfold mSwE mSwT
  by_cases e : x = q.1
  · rw [if_pos e]; exact h1 e
  · rw [if_neg e]; exact h2 e
theorem mSwE_nil {d : Nat} {x : Int32} (h : Ex C cd r d L S s Y) : mSwE C cd r [] d x L S s Y := h
theorem Runs_mk {d k : Nat} {As : List Value} (h1 : mArgOK k As = true) (h2 : Ex (Runs d) (mcode k) r 0 (mPad (mML k) (mArgs As)) [] s Y) : Runs (d + 1) k As s Y r := ⟨h1, h2⟩
end EXR
-- values and heaps
def m_opt {α β : Type} (o : Option α) (b : β) (f : α → β) : β := match o with
  | none => b
  | some x => f x
theorem m_opt_cases {α β : Type} {o : Option α} {b r : β} {f : α → β} (h : m_opt o b f = r) : (o = none ∧ b = r) ∨ (∃ x, o = some x ∧ f x = r) := by
  cases o with
  | none => exact Or.inl ⟨rfl, h⟩
  | some x => exact Or.inr ⟨x, rfl, h⟩
theorem m_ite {α : Type} {c : Prop} [hdc : Decidable c] {x : Option α} {o : α} (h : (if c then x else none) = some o) : c ∧ x = some o := by
  by_cases hc : c
  · rw [if_pos hc] at h; exact ⟨hc, h⟩
  · rw [if_neg hc] at h; cases h
theorem m_bind {α β : Type} {x : Option α} {f : α → Option β} {o : β} (h : x.bind f = some o) : ∃ a, x = some a ∧ f a = some o := by
  cases x with
  | none => cases h
  | some a => exact ⟨a, rfl, h⟩
def iter {σ ε : Type} (b : σ → Option (σ ⊕ ε)) : Nat → σ → Option ε
  | 0, _ => none
  | n + 1, x => match b x with
    | none => none
    | some (.inl y) => iter b n y
    | some (.inr e) => some e
theorem m_iter {σ ε : Type} {b : σ → Option (σ ⊕ ε)} {P : σ → Prop} {Q : ε → Prop} (hs : ∀ x o, b x = some o → (∀ y, o = .inl y → P y) → (∀ e, o = .inr e → Q e) → P x) : ∀ n x e, iter b n x = some e → Q e → P x := by
  intro n
  induction n with
  | zero => intro x e h; cases h
  | succ n ih =>
    intro x e h hq
    unfold iter at h
    cases hb : b x with
    | none => rw [hb] at h; cases h
    | some o =>
      rw [hb] at h
      cases o with
      | inl y => exact hs x _ hb (fun y' hy => by cases hy; exact ih y e h hq) (fun e' he => by cases he)
      | inr e' =>
        cases h
        exact hs x _ hb (fun y' hy => by cases hy) (fun e' he => by cases he; exact hq)
def mFU : Nat := 1000000
def sI (s : mSG) (a k : Nat) (x : Int32) : mSG := (mUp s.1 a k x, s.2.1, s.2.2)
def sJ (s : mSG) (a k : Nat) (x : Int64) : mSG := (s.1, s.2.1, mUp s.2.2 a k x)
def sQ (s : mSG) (a k b : Nat) : mSG := (s.1, mUp s.2.1 a k (some b), s.2.2)
def sC (s : mSG) (a b sp dp n : Nat) : mSG := (mUr s.1 b (va_cpy (s.1 a) (s.1 b) sp dp n), s.2.1, s.2.2)
/-- the script's length, how many texts came behind the first, their codes' lengths -/
abbrev mTX : Type := Nat × Nat × (Nat → Nat)
def LKL (t : mTX) (a : Nat) : Nat × Nat := bif Nat.ble a 83 then (bif Nat.ble a 41 then (bif Nat.ble a 20 then (bif Nat.ble a 9 then (bif Nat.ble a 4 then (bif Nat.ble a 1 then (bif Nat.ble a 0 then ((30, t.1)) else ((30, 6))) else (bif Nat.ble a 2 then ((31, 0)) else (bif Nat.ble a 3 then ((31, 0)) else ((32, 38))))) else (bif Nat.ble a 6 then (bif Nat.ble a 5 then ((32, 55)) else ((7, 13))) else (bif Nat.ble a 7 then ((4, 7)) else (bif Nat.ble a 8 then ((20, 64)) else ((20, 30)))))) else (bif Nat.ble a 14 then (bif Nat.ble a 11 then (bif Nat.ble a 10 then ((20, 25)) else ((20, 24))) else (bif Nat.ble a 12 then ((4, 7)) else (bif Nat.ble a 13 then ((20, 64)) else ((20, 30))))) else (bif Nat.ble a 17 then (bif Nat.ble a 15 then ((20, 25)) else (bif Nat.ble a 16 then ((20, 24)) else ((4, 7)))) else (bif Nat.ble a 18 then ((20, 64)) else (bif Nat.ble a 19 then ((20, 30)) else ((20, 25))))))) else (bif Nat.ble a 30 then (bif Nat.ble a 25 then (bif Nat.ble a 22 then (bif Nat.ble a 21 then ((20, 24)) else ((22, 6))) else (bif Nat.ble a 23 then ((20, 160)) else (bif Nat.ble a 24 then ((23, 4)) else ((1, 9))))) else (bif Nat.ble a 27 then (bif Nat.ble a 26 then ((20, 160)) else ((20, 3))) else (bif Nat.ble a 28 then ((0, 9)) else (bif Nat.ble a 29 then ((20, 6)) else ((20, 32)))))) else (bif Nat.ble a 35 then (bif Nat.ble a 32 then (bif Nat.ble a 31 then ((0, 9)) else ((20, 6))) else (bif Nat.ble a 33 then ((20, 32)) else (bif Nat.ble a 34 then ((2, 12)) else ((6, 2))))) else (bif Nat.ble a 38 then (bif Nat.ble a 36 then ((20, 640)) else (bif Nat.ble a 37 then ((6, 2)) else ((20, 640)))) else (bif Nat.ble a 39 then ((20, 8)) else (bif Nat.ble a 40 then ((20, 8)) else ((20, 8)))))))) else (bif Nat.ble a 62 then (bif Nat.ble a 51 then (bif Nat.ble a 46 then (bif Nat.ble a 43 then (bif Nat.ble a 42 then ((20, 8)) else ((20, 64))) else (bif Nat.ble a 44 then ((20, 64)) else (bif Nat.ble a 45 then ((3, 3)) else ((20, 40))))) else (bif Nat.ble a 48 then (bif Nat.ble a 47 then ((3, 3)) else ((20, 40))) else (bif Nat.ble a 49 then ((3, 3)) else (bif Nat.ble a 50 then ((20, 40)) else ((3, 3)))))) else (bif Nat.ble a 56 then (bif Nat.ble a 53 then (bif Nat.ble a 52 then ((20, 40)) else ((5, 2))) else (bif Nat.ble a 54 then ((20, 5)) else (bif Nat.ble a 55 then ((20, 3)) else ((8, 54))))) else (bif Nat.ble a 59 then (bif Nat.ble a 57 then ((20, 960)) else (bif Nat.ble a 58 then ((20, 6)) else ((20, 160)))) else (bif Nat.ble a 60 then ((20, 64)) else (bif Nat.ble a 61 then ((20, 5)) else ((20, 5))))))) else (bif Nat.ble a 72 then (bif Nat.ble a 67 then (bif Nat.ble a 64 then (bif Nat.ble a 63 then ((20, 5)) else ((20, 5))) else (bif Nat.ble a 65 then ((20, 5)) else (bif Nat.ble a 66 then ((20, 5)) else ((20, 25))))) else (bif Nat.ble a 69 then (bif Nat.ble a 68 then ((20, 24)) else ((20, 80))) else (bif Nat.ble a 70 then ((20, 80)) else (bif Nat.ble a 71 then ((20, 80)) else ((20, 8)))))) else (bif Nat.ble a 77 then (bif Nat.ble a 74 then (bif Nat.ble a 73 then ((20, 800)) else ((20, 5))) else (bif Nat.ble a 75 then ((20, 5)) else (bif Nat.ble a 76 then ((20, 64)) else ((20, 25))))) else (bif Nat.ble a 80 then (bif Nat.ble a 78 then ((20, 25)) else (bif Nat.ble a 79 then ((20, 24)) else ((21, 4)))) else (bif Nat.ble a 81 then ((20, 4)) else (bif Nat.ble a 82 then ((20, 4)) else ((20, 160))))))))) else bif Nat.ble (84 + 3 * t.2.1) a then (99, 0) else (match (a - 84) % 3 with
  | 0 => (5, 2)
  | 1 => (20, t.2.2 ((a - 84) / 3))
  | _ => (20, 3))
def LRF (t : mTX) (a k : Nat) : Option Nat := bif Nat.ble a 83 then (bif Nat.ble a 41 then (bif Nat.ble a 20 then (bif Nat.ble a 9 then (bif Nat.ble a 4 then (bif Nat.ble a 1 then (bif Nat.ble a 0 then (none) else (none)) else (bif Nat.ble a 2 then (none) else (bif Nat.ble a 3 then (none) else (none)))) else (bif Nat.ble a 6 then (bif Nat.ble a 5 then (none) else (bif Nat.ble k 4 then (bif Nat.ble k 1 then (bif Nat.ble k 0 then (some 7) else (some 12)) else (bif Nat.ble k 2 then (some 17) else (bif Nat.ble k 3 then (some 22) else (some 23)))) else (bif Nat.ble k 7 then (bif Nat.ble k 5 then (some 24) else (bif Nat.ble k 6 then (some 25) else (some 28))) else (bif Nat.ble k 8 then (some 31) else (bif Nat.ble k 9 then (some 34) else (none)))))) else (bif Nat.ble a 7 then (bif Nat.ble k 1 then (bif Nat.ble k 0 then (some 8) else (some 9)) else (bif Nat.ble k 2 then (some 10) else (bif Nat.ble k 3 then (some 11) else (none)))) else (bif Nat.ble a 8 then (none) else (none))))) else (bif Nat.ble a 14 then (bif Nat.ble a 11 then (bif Nat.ble a 10 then (none) else (none)) else (bif Nat.ble a 12 then (bif Nat.ble k 1 then (bif Nat.ble k 0 then (some 13) else (some 14)) else (bif Nat.ble k 2 then (some 15) else (bif Nat.ble k 3 then (some 16) else (none)))) else (bif Nat.ble a 13 then (none) else (none)))) else (bif Nat.ble a 17 then (bif Nat.ble a 15 then (none) else (bif Nat.ble a 16 then (none) else (bif Nat.ble k 1 then (bif Nat.ble k 0 then (some 18) else (some 19)) else (bif Nat.ble k 2 then (some 20) else (bif Nat.ble k 3 then (some 21) else (none)))))) else (bif Nat.ble a 18 then (none) else (bif Nat.ble a 19 then (none) else (none)))))) else (bif Nat.ble a 30 then (bif Nat.ble a 25 then (bif Nat.ble a 22 then (bif Nat.ble a 21 then (none) else (none)) else (bif Nat.ble a 23 then (none) else (bif Nat.ble a 24 then (none) else (bif Nat.ble k 0 then (some 26) else (bif Nat.ble k 1 then (some 27) else (none)))))) else (bif Nat.ble a 27 then (bif Nat.ble a 26 then (none) else (none)) else (bif Nat.ble a 28 then (bif Nat.ble k 0 then (some 29) else (bif Nat.ble k 1 then (some 30) else (none))) else (bif Nat.ble a 29 then (none) else (none))))) else (bif Nat.ble a 35 then (bif Nat.ble a 32 then (bif Nat.ble a 31 then (bif Nat.ble k 0 then (some 32) else (bif Nat.ble k 1 then (some 33) else (none))) else (none)) else (bif Nat.ble a 33 then (none) else (bif Nat.ble a 34 then (bif Nat.ble k 3 then (bif Nat.ble k 1 then (bif Nat.ble k 0 then (some 35) else (some 37)) else (bif Nat.ble k 2 then (some 39) else (some 40))) else (bif Nat.ble k 5 then (bif Nat.ble k 4 then (some 41) else (some 42)) else (bif Nat.ble k 6 then (some 43) else (bif Nat.ble k 7 then (some 44) else (none))))) else (bif Nat.ble k 0 then (some 36) else (none))))) else (bif Nat.ble a 38 then (bif Nat.ble a 36 then (none) else (bif Nat.ble a 37 then (bif Nat.ble k 0 then (some 38) else (none)) else (none))) else (bif Nat.ble a 39 then (none) else (bif Nat.ble a 40 then (none) else (none))))))) else (bif Nat.ble a 62 then (bif Nat.ble a 51 then (bif Nat.ble a 46 then (bif Nat.ble a 43 then (bif Nat.ble a 42 then (none) else (none)) else (bif Nat.ble a 44 then (none) else (bif Nat.ble a 45 then (bif Nat.ble k 0 then (some 46) else (none)) else (none)))) else (bif Nat.ble a 48 then (bif Nat.ble a 47 then (bif Nat.ble k 0 then (some 48) else (none)) else (none)) else (bif Nat.ble a 49 then (bif Nat.ble k 0 then (some 50) else (none)) else (bif Nat.ble a 50 then (none) else (bif Nat.ble k 0 then (some 52) else (none)))))) else (bif Nat.ble a 56 then (bif Nat.ble a 53 then (bif Nat.ble a 52 then (none) else (bif Nat.ble k 0 then (some 54) else (bif Nat.ble k 1 then (some 55) else (none)))) else (bif Nat.ble a 54 then (none) else (bif Nat.ble a 55 then (none) else (bif Nat.ble k 33 then (bif Nat.ble k 9 then (bif Nat.ble k 4 then (bif Nat.ble k 1 then (bif Nat.ble k 0 then (none) else (some 57)) else (bif Nat.ble k 2 then (some 58) else (none))) else (bif Nat.ble k 6 then (bif Nat.ble k 5 then (some 59) else (none)) else (bif Nat.ble k 7 then (some 60) else (bif Nat.ble k 8 then (some 61) else (some 62))))) else (bif Nat.ble k 13 then (bif Nat.ble k 11 then (bif Nat.ble k 10 then (some 63) else (some 64)) else (bif Nat.ble k 12 then (some 65) else (some 66))) else (bif Nat.ble k 16 then (bif Nat.ble k 14 then (some 67) else (none)) else (bif Nat.ble k 17 then (some 68) else (bif Nat.ble k 32 then (none) else (some 69)))))) else (bif Nat.ble k 43 then (bif Nat.ble k 38 then (bif Nat.ble k 35 then (bif Nat.ble k 34 then (some 70) else (some 71)) else (bif Nat.ble k 37 then (none) else (some 72))) else (bif Nat.ble k 40 then (bif Nat.ble k 39 then (some 73) else (some 74)) else (bif Nat.ble k 41 then (some 75) else (bif Nat.ble k 42 then (none) else (some 76))))) else (bif Nat.ble k 49 then (bif Nat.ble k 45 then (bif Nat.ble k 44 then (some 77) else (some 78)) else (bif Nat.ble k 46 then (some 79) else (none))) else (bif Nat.ble k 51 then (bif Nat.ble k 50 then (some 80) else (some 81)) else (bif Nat.ble k 52 then (some 82) else (bif Nat.ble k 53 then (some 83) else (none)))))))))) else (bif Nat.ble a 59 then (bif Nat.ble a 57 then (none) else (bif Nat.ble a 58 then (none) else (none))) else (bif Nat.ble a 60 then (none) else (bif Nat.ble a 61 then (none) else (none)))))) else (bif Nat.ble a 72 then (bif Nat.ble a 67 then (bif Nat.ble a 64 then (bif Nat.ble a 63 then (none) else (none)) else (bif Nat.ble a 65 then (none) else (bif Nat.ble a 66 then (none) else (none)))) else (bif Nat.ble a 69 then (bif Nat.ble a 68 then (none) else (none)) else (bif Nat.ble a 70 then (none) else (bif Nat.ble a 71 then (none) else (none))))) else (bif Nat.ble a 77 then (bif Nat.ble a 74 then (bif Nat.ble a 73 then (none) else (none)) else (bif Nat.ble a 75 then (none) else (bif Nat.ble a 76 then (none) else (none)))) else (bif Nat.ble a 80 then (bif Nat.ble a 78 then (none) else (bif Nat.ble a 79 then (none) else (none))) else (bif Nat.ble a 81 then (none) else (bif Nat.ble a 82 then (none) else (none)))))))) else bif Nat.ble (84 + 3 * t.2.1) a then none else (match (a - 84) % 3 with
  | 0 => (match k with
    | 0 => some (a + 1)
    | 1 => some (a + 2)
    | _ => none)
  | _ => none)
/-- all slots of the first n codes' texts -/
def LSL (f : Nat → Nat) : Nat → Nat
  | 0 => 0
  | n + 1 => LSL f n + (5 + f n)
def LAY (t : mTX) : mLY := (84 + 3 * t.2.1, 5228 + LSL t.2.2 t.2.1, LKL t, LRF t)
-- the texts' own methods
def mChr (o : Nat) (i : Int32) (s : mSG) : Int32 := ((s.1 (o + 2) i.toNatClampNeg &&& 255).toUInt32 % 65536).toInt32
theorem mInb_nn {i : Int32} {n : Nat} (h : mInb i n = true) : ¬ i < 0 := fun q => mInb_in h (Or.inl q)
theorem mInb_lt {i v : Int32} {n : Nat} (h : mInb i n = true) (hn : n < 2 ^ 31) (hv : v = nI n) : i < v := by
  have h1 := (vp_in_iff.mp (mInb_in h)).2
  rw [Int32.lt_iff_toInt_lt, hv, nI_toInt hn]
  exact h1
theorem T_pre (D : Nat) (Y : mLY) (i n : Int32) (s : mSG) (h0 : ¬ i < 0) (h1 : i < n) : Runs (D + 1) 239 [.int i, .int n, .retAddr 0] s Y (some (.int i), s, Y) := by
  refine Runs_mk (d := D) rfl ?_
  show Ex (Runs D) cd_J3_checkIndex_8e157 (some (.int i), s, Y) 0 [some (.int i), some (.int n), some (.retAddr 0)] [] s Y
  refine Ex_brF 2 (fun _ => rfl) h0 ?_
  refine Ex_brT 3 (fun _ => rfl) h1 ?_
  exact Ex_ret 2 (fun _ => rfl) rfl
theorem T_ckI (D : Nat) (Y : mLY) (i n : Int32) (s : mSG) (h0 : ¬ i < 0) (h1 : i < n) : Runs (D + 2) 231 [.int i, .int n] s Y (none, s, Y) := by
  refine Runs_mk (d := D + 1) rfl ?_
  show Ex (Runs (D + 1)) cd_J0_checkIndex_df160 (none, s, Y) 0 [some (.int i), some (.int n)] [] s Y
  refine Ex_call 4 (fun _ => rfl) (T_pre D Y i n s h0 h1) rfl rfl ?_
  exact Ex_ret 2 (fun _ => rfl) rfl
theorem T_coder2 (D : Nat) (Y : mLY) (s : mSG) : Runs (D + 1) 229 [.ref 2] s Y (some (.int 0), s, Y) := by
  refine Runs_mk (d := D) rfl ?_
  show Ex (Runs D) cd_J0_coder_7d493 (some (.int 0), s, Y) 0 [some (.ref 2)] [] s Y
  refine Ex_brF 2 (fun _ => rfl) (by decide) ?_
  exact Ex_retZ 4 (fun _ => rfl) (by decide) rfl
theorem T_isLatin2 (D : Nat) (Y : mLY) (s : mSG) : Runs (D + 1) 230 [.ref 2] s Y (some (.int 1), s, Y) := by
  refine Runs_mk (d := D) rfl ?_
  show Ex (Runs D) cd_J0_isLatin1_aae02 (some (.int 1), s, Y) 0 [some (.ref 2)] [] s Y
  refine Ex_brF 2 (fun _ => rfl) (by decide) ?_
  refine Ex_brT 3 (fun _ => rfl) rfl ?_
  exact Ex_retZ 3 (fun _ => rfl) (Or.inr rfl) rfl
theorem T_length2 (D : Nat) (Y : mLY) (s : mSG) (hk : mKl Y 4 = (32, 38)) : Runs (D + 2) 227 [.ref 2] s Y (some (.int 38), s, Y) := by
  refine Runs_mk (d := D + 1) rfl ?_
  show Ex (Runs (D + 1)) cd_J0_length_8abf5 (some (.int 38), s, Y) 0 [some (.ref 2)] [] s Y
  refine Ex_st (pc' := 5) (L' := [some (.ref 2)]) (S' := [.int 38]) (s' := s) (Y' := Y) 3 (fun f => ?_) ?_
  · show (if 20 ≤ (mKl Y 4).1 ∧ (mKl Y 4).1 < 24 then mEx (Runs (D + 1)) cd_J0_length_8abf5 _ f 5 _ [.int (Int32.ofNat (mKl Y 4).2)] s Y else if 4 < 2 then _ else if 4 = 4 ∨ 4 = 5 then mEx (Runs (D + 1)) cd_J0_length_8abf5 _ f 5 [some (.ref 2)] [.int (Int32.ofNat (mKl Y 4).2)] s Y else False) = _
    rw [hk]
    rfl
  refine Ex_call 2 (fun _ => rfl) (T_coder2 D Y s) rfl rfl ?_
  exact Ex_ret 2 (fun _ => rfl) rfl
theorem T_chAt2 (D : Nat) (Y : mLY) (i : Int32) (s : mSG) (hk : mKl Y 4 = (32, 38)) (hi : mInb i 38 = true) : Runs (D + 3) 232 [.ref 4, .int i] s Y (some (.int (mChr 2 i s)), s, Y) := by
  refine Runs_mk (d := D + 2) rfl ?_
  show Ex (Runs (D + 2)) cd_J1_charAt_3b067 (some (.int (mChr 2 i s)), s, Y) 0 [some (.ref 4), some (.int i)] [] s Y
  refine Ex_st (pc' := 3) (L' := [some (.ref 4), some (.int i)]) (S' := [.int 38, .int i]) (s' := s) (Y' := Y) 3 (fun f => ?_) ?_
  · show (if 20 ≤ (mKl Y 4).1 ∧ (mKl Y 4).1 < 24 then _ else if 4 < 2 then _ else if 4 = 4 ∨ 4 = 5 then mEx (Runs (D + 2)) cd_J1_charAt_3b067 _ f 3 [some (.ref 4), some (.int i)] [.int (Int32.ofNat (mKl Y 4).2), .int i] s Y else False) = _
    rw [hk]
    rfl
  refine Ex_call 1 (fun _ => rfl) (T_ckI D Y i 38 s (mInb_nn hi) (mInb_lt hi (by decide) (by decide))) rfl rfl ?_
  refine Ex_gd (g := mInb i (mKl Y 4).2 = true) (pc' := 9) (L' := [some (.ref 4), some (.int i)]) (S' := [.int (s.1 4 i.toNatClampNeg)]) (s' := s) (Y' := Y) 3 (fun f => ?_) (by rw [hk]; exact hi) ?_
  · show (if (mKl Y 4).1 = 21 then _ else if 4 = 4 ∨ 4 = 5 then (mInb i (mKl Y 4).2 = true ∧ mEx (Runs (D + 2)) cd_J1_charAt_3b067 _ f 9 [some (.ref 4), some (.int i)] [.int (s.1 4 i.toNatClampNeg)] s Y) else False) = _
    rw [hk]
    rfl
  exact Ex_retZ 4 (fun _ => rfl) (pk_nc _) rfl
theorem T_charAt2 (D : Nat) (Y : mLY) (i : Int32) (s : mSG) (hk : mKl Y 4 = (32, 38)) (hi : mInb i 38 = true) : Runs (D + 4) 228 [.ref 2, .int i] s Y (some (.int (mChr 2 i s)), s, Y) := by
  refine Runs_mk (d := D + 3) rfl ?_
  show Ex (Runs (D + 3)) cd_J0_charAt_5068e (some (.int (mChr 2 i s)), s, Y) 0 [some (.ref 2), some (.int i)] [] s Y
  refine Ex_call 2 (fun _ => rfl) (T_isLatin2 (D + 2) Y s) rfl rfl ?_
  refine Ex_brF 1 (fun _ => rfl) (by decide) ?_
  refine Ex_call 4 (fun _ => rfl) (T_chAt2 D Y i s hk hi) rfl rfl ?_
  exact Ex_retZ 1 (fun _ => rfl) (pk_nc _) rfl
theorem T_coder3 (D : Nat) (Y : mLY) (s : mSG) : Runs (D + 1) 229 [.ref 3] s Y (some (.int 0), s, Y) := by
  refine Runs_mk (d := D) rfl ?_
  show Ex (Runs D) cd_J0_coder_7d493 (some (.int 0), s, Y) 0 [some (.ref 3)] [] s Y
  refine Ex_brF 2 (fun _ => rfl) (by decide) ?_
  exact Ex_retZ 4 (fun _ => rfl) (by decide) rfl
theorem T_isLatin3 (D : Nat) (Y : mLY) (s : mSG) : Runs (D + 1) 230 [.ref 3] s Y (some (.int 1), s, Y) := by
  refine Runs_mk (d := D) rfl ?_
  show Ex (Runs D) cd_J0_isLatin1_aae02 (some (.int 1), s, Y) 0 [some (.ref 3)] [] s Y
  refine Ex_brF 2 (fun _ => rfl) (by decide) ?_
  refine Ex_brT 3 (fun _ => rfl) rfl ?_
  exact Ex_retZ 3 (fun _ => rfl) (Or.inr rfl) rfl
theorem T_length3 (D : Nat) (Y : mLY) (s : mSG) (hk : mKl Y 5 = (32, 55)) : Runs (D + 2) 227 [.ref 3] s Y (some (.int 55), s, Y) := by
  refine Runs_mk (d := D + 1) rfl ?_
  show Ex (Runs (D + 1)) cd_J0_length_8abf5 (some (.int 55), s, Y) 0 [some (.ref 3)] [] s Y
  refine Ex_st (pc' := 5) (L' := [some (.ref 3)]) (S' := [.int 55]) (s' := s) (Y' := Y) 3 (fun f => ?_) ?_
  · show (if 20 ≤ (mKl Y 5).1 ∧ (mKl Y 5).1 < 24 then mEx (Runs (D + 1)) cd_J0_length_8abf5 _ f 5 _ [.int (Int32.ofNat (mKl Y 5).2)] s Y else if 5 < 2 then _ else if 5 = 4 ∨ 5 = 5 then mEx (Runs (D + 1)) cd_J0_length_8abf5 _ f 5 [some (.ref 3)] [.int (Int32.ofNat (mKl Y 5).2)] s Y else False) = _
    rw [hk]
    rfl
  refine Ex_call 2 (fun _ => rfl) (T_coder3 D Y s) rfl rfl ?_
  exact Ex_ret 2 (fun _ => rfl) rfl
theorem T_chAt3 (D : Nat) (Y : mLY) (i : Int32) (s : mSG) (hk : mKl Y 5 = (32, 55)) (hi : mInb i 55 = true) : Runs (D + 3) 232 [.ref 5, .int i] s Y (some (.int (mChr 3 i s)), s, Y) := by
  refine Runs_mk (d := D + 2) rfl ?_
  show Ex (Runs (D + 2)) cd_J1_charAt_3b067 (some (.int (mChr 3 i s)), s, Y) 0 [some (.ref 5), some (.int i)] [] s Y
  refine Ex_st (pc' := 3) (L' := [some (.ref 5), some (.int i)]) (S' := [.int 55, .int i]) (s' := s) (Y' := Y) 3 (fun f => ?_) ?_
  · show (if 20 ≤ (mKl Y 5).1 ∧ (mKl Y 5).1 < 24 then _ else if 5 < 2 then _ else if 5 = 4 ∨ 5 = 5 then mEx (Runs (D + 2)) cd_J1_charAt_3b067 _ f 3 [some (.ref 5), some (.int i)] [.int (Int32.ofNat (mKl Y 5).2), .int i] s Y else False) = _
    rw [hk]
    rfl
  refine Ex_call 1 (fun _ => rfl) (T_ckI D Y i 55 s (mInb_nn hi) (mInb_lt hi (by decide) (by decide))) rfl rfl ?_
  refine Ex_gd (g := mInb i (mKl Y 5).2 = true) (pc' := 9) (L' := [some (.ref 5), some (.int i)]) (S' := [.int (s.1 5 i.toNatClampNeg)]) (s' := s) (Y' := Y) 3 (fun f => ?_) (by rw [hk]; exact hi) ?_
  · show (if (mKl Y 5).1 = 21 then _ else if 5 = 4 ∨ 5 = 5 then (mInb i (mKl Y 5).2 = true ∧ mEx (Runs (D + 2)) cd_J1_charAt_3b067 _ f 9 [some (.ref 5), some (.int i)] [.int (s.1 5 i.toNatClampNeg)] s Y) else False) = _
    rw [hk]
    rfl
  exact Ex_retZ 4 (fun _ => rfl) (pk_nc _) rfl
theorem T_charAt3 (D : Nat) (Y : mLY) (i : Int32) (s : mSG) (hk : mKl Y 5 = (32, 55)) (hi : mInb i 55 = true) : Runs (D + 4) 228 [.ref 3, .int i] s Y (some (.int (mChr 3 i s)), s, Y) := by
  refine Runs_mk (d := D + 3) rfl ?_
  show Ex (Runs (D + 3)) cd_J0_charAt_5068e (some (.int (mChr 3 i s)), s, Y) 0 [some (.ref 3), some (.int i)] [] s Y
  refine Ex_call 2 (fun _ => rfl) (T_isLatin3 (D + 2) Y s) rfl rfl ?_
  refine Ex_brF 1 (fun _ => rfl) (by decide) ?_
  refine Ex_call 4 (fun _ => rfl) (T_chAt3 D Y i s hk hi) rfl rfl ?_
  exact Ex_retZ 1 (fun _ => rfl) (pk_nc _) rfl
