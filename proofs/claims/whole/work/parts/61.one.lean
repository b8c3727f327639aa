/-! LOOPS, once more; one -/
theorem lpE {σ ε : Type} {b : σ → Option (σ ⊕ ε)} (I : Nat → σ → Prop) (Q : ε → Prop) (n : Nat) (hn : n < mFU) (step : ∀ i x, i < n → I i x → (∃ y, b x = some (.inl y) ∧ I (i + 1) y) ∨ (∃ e, b x = some (.inr e) ∧ Q e)) (fin : ∀ x, I n x → ∃ e, b x = some (.inr e) ∧ Q e) {k : Nat} {x : σ} (hk : k ≤ n) (h0 : I k x) : ∃ e, iter b mFU x = some e ∧ Q e := by
  refine iter_inv (I := fun i x => i ≤ n ∧ I i x) n (fun i x h => ?_) mFU k x ⟨hk, h0⟩ (by omega)
  obtain ⟨hi, hI⟩ := h
  by_cases q : i = n
  · subst q
    obtain ⟨e, he, hq⟩ := fin x hI
    exact ⟨_, he, fun y hy => (by cases hy), fun e' h' => by cases h'; exact hq⟩
  · rcases step i x (by omega) hI with ⟨y, hy, hI'⟩ | ⟨e, he, hq⟩
    · exact ⟨_, hy, fun y' h' => by cases h'; exact ⟨by omega, by omega, hI'⟩, fun e h' => by cases h'⟩
    · exact ⟨_, he, fun y hy => (by cases hy), fun e' h' => by cases h'; exact hq⟩
theorem lpN {σ ε : Type} {b : σ → Option (σ ⊕ ε)} (I : Nat → σ → Prop) (Q : ε → Prop) (n : Nat) (hn : n < mFU) (step : ∀ i x, i < n → I i x → ∃ y, b x = some (.inl y) ∧ I (i + 1) y) (fin : ∀ x, I n x → ∃ e, b x = some (.inr e) ∧ Q e) {k : Nat} {x : σ} (hk : k ≤ n) (h0 : I k x) : ∃ e, iter b mFU x = some e ∧ Q e :=
  lpE I Q n hn (fun i x hi h => Or.inl (step i x hi h)) fin hk h0
theorem up_same {A : Ab} {f i v : Nat} (h : A f i = v) : A.up f i v = A := by
  funext g j
  unfold Ab.up
  by_cases h1 : g = f
  · by_cases h2 : j = i
    · subst h1; subst h2; rw [if_pos rfl, if_pos rfl, h]
    · rw [if_pos h1, if_neg h2]
  · rw [if_neg h1]
theorem sI_comm {s : mSG} {a b i j : Nat} {x y : Int32} (h : a ≠ b) : sI (sI s a i x) b j y = sI (sI s b j y) a i x := by
  unfold sI
  refine Prod.ext ?_ rfl
  funext c k
  show mUp (mUp s.1 a i x) b j y c k = mUp (mUp s.1 b j y) a i x c k
  unfold mUp
  by_cases h1 : c = a
  · have h2 : ¬ c = b := fun q => h (h1.symm.trans q)
    simp only [h1, h2, if_true, if_false, if_neg h]
  · simp only [h1, if_false]
theorem c_oneW {s : mSG} {n p : Nat} (h : s.1 7 4 = nI n) (h5 : n ≤ 5) (hp : p < n) : X5_isOne_7 (nI p) s = true := by
  unfold X5_isOne_7
  rw [h, c_withinP _ (by omega), decide_eq_true ((inP_nI (show p < 2147483648 by omega) (show n < 2147483648 by omega)).mpr hp), if_pos rfl, if_neg (gl_le (x := 5) (m := 5) rfl (by omega) (by omega))]
theorem c_putW {s : mSG} {n p w : Nat} (h : s.1 7 4 = nI n) (h5 : n ≤ 5) (hp : p < n) (hw : w ≤ 5) (v : Int32) : X5_put_7 (nI p) (nI w) v s = some (sI s 9 (p * 6 + w) v) := by
  unfold X5_put_7
  have h1 : p * 6 + w < 30 := by omega
  simp (disch := omega) only [c_oneW h h5 hp, if_true, lit_nI, c_within, inR_0, hw, pk_mul, nI_add, nl_inb, nl_cl, h1, decide_true]
/-- one more of the people -/
def aOneB (A : Ab) (n k y u l : Nat) : Ab := (((((A.up 1 n k).up 3 n y).up 2 n u).up 4 n l).up 5 n 0).up 6 n 0
def aOne (A : Ab) (k y u l : Nat) : Ab := (aOneB A A.pp k y u l).up 9 0 (A.pp + 1)
theorem aOneB_c (A : Ab) (n k y u l : Nat) : (((((A.up 5 n 0).up 3 n y).up 6 n 0).up 4 n l).up 2 n u).up 1 n k = aOneB A n k y u l := by
  funext g j
  unfold aOneB
  by_cases h1 : g = 1
  · subst h1; rfl
  by_cases h2 : g = 2
  · subst h2; rfl
  by_cases h3 : g = 3
  · subst h3; rfl
  by_cases h4 : g = 4
  · subst h4; rfl
  by_cases h5 : g = 5
  · subst h5; rfl
  by_cases h6 : g = 6
  · subst h6; rfl
  unfold Ab.up
  simp only [h1, h2, h3, h4, h5, h6, if_false]
theorem aOne_ok {A : Ab} {tc k y u l : Nat} (ok : AbOK A tc) (h5 : A.pp < 5) (hk : k ≤ 5) (hy : y ≤ 99) (hu : u ≤ 9) (hl : l ≤ 9) : AbOK (aOne A k y u l) tc := by
  refine ⟨?_, ok.hr, ok.ru, ok.mud, ok.sym, ok.dia, ?_, ?_, ?_, ?_, ?_, ?_, ok.ow, ?_, ok.rn⟩
  · show A.pp + 1 ≤ 5
    omega
  · intro p hp
    have hp' : p < A.pp + 1 := hp
    show (if p = A.pp then k else A.kd p) ≤ 5
    split
    · exact hk
    · exact ok.kd p (by omega)
  · intro p hp
    have hp' : p < A.pp + 1 := hp
    show (if p = A.pp then u else A.nu p) ≤ 9
    split
    · exact hu
    · exact ok.nu p (by omega)
  · intro p hp
    have hp' : p < A.pp + 1 := hp
    show (if p = A.pp then y else A.yd p) ≤ 99
    split
    · exact hy
    · exact ok.yd p (by omega)
  · intro p hp
    have hp' : p < A.pp + 1 := hp
    show (if p = A.pp then l else A.ld p) ≤ 9
    split
    · exact hl
    · exact ok.ld p (by omega)
  · intro p hp
    have hp' : p < A.pp + 1 := hp
    show (if p = A.pp then 0 else A.st p) ≤ 7
    split
    · omega
    · exact ok.st p (by omega)
  · intro p hp
    have hp' : p < A.pp + 1 := hp
    show (if p = A.pp then 0 else A.wt p) ≤ 9
    split
    · omega
    · exact ok.wt p (by omega)
  · intro a b ha hb h
    have h' : A.pp + 1 ≤ a ∨ A.pp + 1 ≤ b := h
    exact ok.owz a b ha hb (by omega)
theorem RS_put_pp {A : Ab} {s : mSG} (h : RS 7 8 9 10 11 A s) (e0 : s.1 9 (A.pp * 6 + 0) = nI (A.st A.pp)) (e1 : s.1 9 (A.pp * 6 + 1) = nI (A.yd A.pp)) (e2 : s.1 9 (A.pp * 6 + 2) = nI (A.wt A.pp)) (e3 : s.1 9 (A.pp * 6 + 3) = nI (A.ld A.pp)) (e4 : s.1 9 (A.pp * 6 + 4) = nI (A.nu A.pp)) (e5 : s.1 9 (A.pp * 6 + 5) = nI (A.kd A.pp)) : RS 7 8 9 10 11 (A.up 9 0 (A.pp + 1)) (sI s 7 4 (nI (A.pp + 1))) := by
  obtain ⟨k1, k2, k3, k4, k5, k6, k7, k8, k9, k10, k11, k12⟩ := h
  have key : ∀ (f : Nat → Nat) (w : Nat), (∀ p, p < A.pp → s.1 9 (p * 6 + w) = nI (f p)) → s.1 9 (A.pp * 6 + w) = nI (f A.pp) → ∀ p, p < A.pp + 1 → (sI s 7 4 (nI (A.pp + 1))).1 9 (p * 6 + w) = nI (f p) := by
    intro f w g1 g2 p hp
    rw [sI_adr (by decide)]
    by_cases q : p = A.pp
    · rw [q]; exact g2
    · exact g1 p (by omega)
  refine ⟨?_, key A.st 0 k2 e0, key A.yd 1 k3 e1, key A.wt 2 k4 e2, key A.ld 3 k5 e3, key A.nu 4 k6 e4, key A.kd 5 k7 e5, ?_, ?_, ?_, ?_, ?_⟩
  · intro i hi; rw [sI_adr (by decide)]; exact k1 i hi
  · intro i hi; rw [sI_adr (by decide)]; exact k8 i hi
  · intro i hi; rw [sI_adr (by decide)]; exact k9 i hi
  · exact sI_same
  · rw [sI_oth (by decide)]; exact k11
  · rw [sI_oth (by decide)]; exact k12
theorem RM_put_pp {A : Ab} {s : mSG} (h : RM A s) (e1 : s.1 61 A.pp = nI (A.kd A.pp)) (e2 : s.1 62 A.pp = nI (A.nu A.pp)) (e3 : s.1 63 A.pp = nI (A.yd A.pp)) (e4 : s.1 64 A.pp = nI (A.ld A.pp)) (e5 : s.1 65 A.pp = nI (A.st A.pp)) (e6 : s.1 66 A.pp = nI (A.wt A.pp)) : RM (A.up 9 0 (A.pp + 1)) (sI s 56 15 (nI (A.pp + 1))) := by
  obtain ⟨k1, k2, k3, k4, k5, k6, k7, k8, k9, k10, k11, k12⟩ := h
  have key : ∀ (f : Nat → Nat) (w : Nat), w ≠ 56 → (∀ p, p < A.pp → s.1 w p = nI (f p)) → s.1 w A.pp = nI (f A.pp) → ∀ p, p < A.pp + 1 → (sI s 56 15 (nI (A.pp + 1))).1 w p = nI (f p) := by
    intro f w hw g1 g2 p hp
    rw [sI_adr hw]
    by_cases q : p = A.pp
    · rw [q]; exact g2
    · exact g1 p (by omega)
  refine ⟨?_, key A.kd 61 (by decide) k2 e1, key A.nu 62 (by decide) k3 e2, key A.yd 63 (by decide) k4 e3, key A.ld 64 (by decide) k5 e4, key A.st 65 (by decide) k6 e5, key A.wt 66 (by decide) k7 e6, ?_, ?_, ?_, ?_, ?_⟩
  · intro i hi; rw [sI_adr (by decide)]; exact k1 i hi
  · intro i hi; rw [sI_adr (by decide)]; exact k8 i hi
  · intro i hi; rw [sI_adr (by decide)]; exact k9 i hi
  · exact sI_same
  · rw [sI_oth (by decide)]; exact k11
  · rw [sI_oth (by decide)]; exact k12
theorem c_oneY {A : Ab} {s : mSG} {k x l : Nat} (h : RS 7 8 9 10 11 A s) (h5 : A.pp < 5) (hk : k ≤ 5) (hx : x ≤ 999) (hl : l ≤ 9) : ∃ s', X8_one (nI k) (nI x) (nI l) s = some (nI A.pp, s') ∧ RS 7 8 9 10 11 (aOne A k (x / 10) (x % 10) l) s' := by
  unfold X8_one
  have e10 : nI x / 10 = nI (x / 10) := nl_div (d := 10) (by omega) (by omega) (by omega)
  have em : nI x - nI (x / 10) * 10 = nI (x % 10) := by rw [← e10]; exact nl_rem (d := 10) (by omega) (by omega) (by omega)
  rw [show X8_isWithin (nI k) 5 = _ from c_within (nI k) 5, decide_eq_true ((inR_nI (show k < 2147483648 by omega) (show 5 < 2147483648 by omega)).mpr hk), if_pos rfl, show X8_isWithin (nI x) 999 = _ from c_within (nI x) 999, decide_eq_true ((inR_nI (show x < 2147483648 by omega) (show 999 < 2147483648 by omega)).mpr hx), if_pos rfl, show X8_isWithin (nI l) 9 = _ from c_within (nI l) 9, decide_eq_true ((inR_nI (show l < 2147483648 by omega) (show 9 < 2147483648 by omega)).mpr hl), if_pos rfl, h.pp, if_pos (show nI A.pp < 5 from nI_lt (b := 5) h5 (by omega)), nI_1, e10, em]
  generalize hs1 : sI s 7 4 (nI (A.pp + 1)) = s1
  have g1 : s1.1 7 4 = nI (A.pp + 1) := by rw [← hs1]; exact sI_same
  rw [ob (show X5_put_7 (nI A.pp) 0 0 s1 = some (sI s1 9 (A.pp * 6 + 0) 0) from c_putW (s := s1) (n := A.pp + 1) (p := A.pp) (w := 0) g1 (by omega) (by omega) (by omega) 0)]
  rw [ob (show X5_put_7 (nI A.pp) 1 (nI (x / 10)) (sI s1 9 (A.pp * 6 + 0) 0) = some (sI (sI s1 9 (A.pp * 6 + 0) 0) 9 (A.pp * 6 + 1) (nI (x / 10))) from c_putW (s := (sI s1 9 (A.pp * 6 + 0) 0)) (n := A.pp + 1) (p := A.pp) (w := 1) g1 (by omega) (by omega) (by omega) (nI (x / 10)))]
  rw [ob (show X5_put_7 (nI A.pp) 2 0 (sI (sI s1 9 (A.pp * 6 + 0) 0) 9 (A.pp * 6 + 1) (nI (x / 10))) = some (sI (sI (sI s1 9 (A.pp * 6 + 0) 0) 9 (A.pp * 6 + 1) (nI (x / 10))) 9 (A.pp * 6 + 2) 0) from c_putW (s := (sI (sI s1 9 (A.pp * 6 + 0) 0) 9 (A.pp * 6 + 1) (nI (x / 10)))) (n := A.pp + 1) (p := A.pp) (w := 2) g1 (by omega) (by omega) (by omega) 0)]
  rw [ob (show X5_put_7 (nI A.pp) 3 (nI l) (sI (sI (sI s1 9 (A.pp * 6 + 0) 0) 9 (A.pp * 6 + 1) (nI (x / 10))) 9 (A.pp * 6 + 2) 0) = some (sI (sI (sI (sI s1 9 (A.pp * 6 + 0) 0) 9 (A.pp * 6 + 1) (nI (x / 10))) 9 (A.pp * 6 + 2) 0) 9 (A.pp * 6 + 3) (nI l)) from c_putW (s := (sI (sI (sI s1 9 (A.pp * 6 + 0) 0) 9 (A.pp * 6 + 1) (nI (x / 10))) 9 (A.pp * 6 + 2) 0)) (n := A.pp + 1) (p := A.pp) (w := 3) g1 (by omega) (by omega) (by omega) (nI l))]
  rw [ob (show X5_put_7 (nI A.pp) 4 (nI (x % 10)) (sI (sI (sI (sI s1 9 (A.pp * 6 + 0) 0) 9 (A.pp * 6 + 1) (nI (x / 10))) 9 (A.pp * 6 + 2) 0) 9 (A.pp * 6 + 3) (nI l)) = some (sI (sI (sI (sI (sI s1 9 (A.pp * 6 + 0) 0) 9 (A.pp * 6 + 1) (nI (x / 10))) 9 (A.pp * 6 + 2) 0) 9 (A.pp * 6 + 3) (nI l)) 9 (A.pp * 6 + 4) (nI (x % 10))) from c_putW (s := (sI (sI (sI (sI s1 9 (A.pp * 6 + 0) 0) 9 (A.pp * 6 + 1) (nI (x / 10))) 9 (A.pp * 6 + 2) 0) 9 (A.pp * 6 + 3) (nI l))) (n := A.pp + 1) (p := A.pp) (w := 4) g1 (by omega) (by omega) (by omega) (nI (x % 10)))]
  rw [ob (show X5_put_7 (nI A.pp) 5 (nI k) (sI (sI (sI (sI (sI s1 9 (A.pp * 6 + 0) 0) 9 (A.pp * 6 + 1) (nI (x / 10))) 9 (A.pp * 6 + 2) 0) 9 (A.pp * 6 + 3) (nI l)) 9 (A.pp * 6 + 4) (nI (x % 10))) = some (sI (sI (sI (sI (sI (sI s1 9 (A.pp * 6 + 0) 0) 9 (A.pp * 6 + 1) (nI (x / 10))) 9 (A.pp * 6 + 2) 0) 9 (A.pp * 6 + 3) (nI l)) 9 (A.pp * 6 + 4) (nI (x % 10))) 9 (A.pp * 6 + 5) (nI k)) from c_putW (s := (sI (sI (sI (sI (sI s1 9 (A.pp * 6 + 0) 0) 9 (A.pp * 6 + 1) (nI (x / 10))) 9 (A.pp * 6 + 2) 0) 9 (A.pp * 6 + 3) (nI l)) 9 (A.pp * 6 + 4) (nI (x % 10)))) (n := A.pp + 1) (p := A.pp) (w := 5) g1 (by omega) (by omega) (by omega) (nI k))]
  refine ⟨_, rfl, ?_⟩
  rw [← hs1, sI_comm (a := 7) (b := 9) (by decide), sI_comm (a := 7) (b := 9) (by decide), sI_comm (a := 7) (b := 9) (by decide), sI_comm (a := 7) (b := 9) (by decide), sI_comm (a := 7) (b := 9) (by decide), sI_comm (a := 7) (b := 9) (by decide)]
  have r1 := RS_put_kd (RS_put_nu (RS_put_ld (RS_put_wt (RS_put_yd (RS_put_st h A.pp 0 (by decide) (by decide) (by decide) (by decide)) A.pp (x / 10) (by decide) (by decide) (by decide) (by decide)) A.pp 0 (by decide) (by decide) (by decide) (by decide)) A.pp l (by decide) (by decide) (by decide) (by decide)) A.pp (x % 10) (by decide) (by decide) (by decide) (by decide)) A.pp k (by decide) (by decide) (by decide) (by decide)
  rw [aOneB_c] at r1
  have n1 : ∀ i j : Nat, i ≠ j → A.pp * 6 + i ≠ A.pp * 6 + j := fun i j h q => h (Nat.add_left_cancel q)
  refine RS_put_pp (A := aOneB A A.pp k (x / 10) (x % 10) l) r1 ?_ ?_ ?_ ?_ ?_ ?_
  · show _ = nI (if A.pp = A.pp then 0 else A.st A.pp)
    rw [if_pos rfl]
    show (sI (sI (sI (sI (sI (sI s 9 (A.pp * 6 + 0) 0) 9 (A.pp * 6 + 1) (nI (x / 10))) 9 (A.pp * 6 + 2) 0) 9 (A.pp * 6 + 3) (nI l)) 9 (A.pp * 6 + 4) (nI (x % 10))) 9 (A.pp * 6 + 5) (nI k)).1 9 (A.pp * 6 + 0) = nI 0
    rw [sI_oth (n1 0 5 (by decide)), sI_oth (n1 0 4 (by decide)), sI_oth (n1 0 3 (by decide)), sI_oth (n1 0 2 (by decide)), sI_oth (n1 0 1 (by decide)), sI_same]
    rfl
  · show _ = nI (if A.pp = A.pp then x / 10 else A.yd A.pp)
    rw [if_pos rfl]
    show (sI (sI (sI (sI (sI (sI s 9 (A.pp * 6 + 0) 0) 9 (A.pp * 6 + 1) (nI (x / 10))) 9 (A.pp * 6 + 2) 0) 9 (A.pp * 6 + 3) (nI l)) 9 (A.pp * 6 + 4) (nI (x % 10))) 9 (A.pp * 6 + 5) (nI k)).1 9 (A.pp * 6 + 1) = _
    rw [sI_oth (n1 1 5 (by decide)), sI_oth (n1 1 4 (by decide)), sI_oth (n1 1 3 (by decide)), sI_oth (n1 1 2 (by decide)), sI_same]
  · show _ = nI (if A.pp = A.pp then 0 else A.wt A.pp)
    rw [if_pos rfl]
    show (sI (sI (sI (sI (sI (sI s 9 (A.pp * 6 + 0) 0) 9 (A.pp * 6 + 1) (nI (x / 10))) 9 (A.pp * 6 + 2) 0) 9 (A.pp * 6 + 3) (nI l)) 9 (A.pp * 6 + 4) (nI (x % 10))) 9 (A.pp * 6 + 5) (nI k)).1 9 (A.pp * 6 + 2) = nI 0
    rw [sI_oth (n1 2 5 (by decide)), sI_oth (n1 2 4 (by decide)), sI_oth (n1 2 3 (by decide)), sI_same]
    rfl
  · show _ = nI (if A.pp = A.pp then l else A.ld A.pp)
    rw [if_pos rfl]
    show (sI (sI (sI (sI (sI (sI s 9 (A.pp * 6 + 0) 0) 9 (A.pp * 6 + 1) (nI (x / 10))) 9 (A.pp * 6 + 2) 0) 9 (A.pp * 6 + 3) (nI l)) 9 (A.pp * 6 + 4) (nI (x % 10))) 9 (A.pp * 6 + 5) (nI k)).1 9 (A.pp * 6 + 3) = _
    rw [sI_oth (n1 3 5 (by decide)), sI_oth (n1 3 4 (by decide)), sI_same]
  · show _ = nI (if A.pp = A.pp then x % 10 else A.nu A.pp)
    rw [if_pos rfl]
    show (sI (sI (sI (sI (sI (sI s 9 (A.pp * 6 + 0) 0) 9 (A.pp * 6 + 1) (nI (x / 10))) 9 (A.pp * 6 + 2) 0) 9 (A.pp * 6 + 3) (nI l)) 9 (A.pp * 6 + 4) (nI (x % 10))) 9 (A.pp * 6 + 5) (nI k)).1 9 (A.pp * 6 + 4) = _
    rw [sI_oth (n1 4 5 (by decide)), sI_same]
  · show _ = nI (if A.pp = A.pp then k else A.kd A.pp)
    rw [if_pos rfl]
    show (sI (sI (sI (sI (sI (sI s 9 (A.pp * 6 + 0) 0) 9 (A.pp * 6 + 1) (nI (x / 10))) 9 (A.pp * 6 + 2) 0) 9 (A.pp * 6 + 3) (nI l)) 9 (A.pp * 6 + 4) (nI (x % 10))) 9 (A.pp * 6 + 5) (nI k)).1 9 (A.pp * 6 + 5) = _
    rw [sI_same]
theorem m_oneL {B : Ab} {s0 : mSG} (h : RM B s0) (h5 : B.pp < 5) (hz : ∀ a b, a < 5 → b < 5 → (B.pp ≤ a ∨ B.pp ≤ b) → B.ow (a * 5 + b) = 0) : ∃ s', X9_one_l119 (0, s0) = some s' ∧ RM B s' ∧ ∀ a, a ≠ 67 → s'.1 a = s0.1 a := by
  unfold X9_one_l119
  refine lpN (fun i (v : Int32 × mSG) => v.1 = nI i ∧ RM B v.2 ∧ ∀ a, a ≠ 67 → v.2.1 a = s0.1 a) (fun s' => RM B s' ∧ ∀ a, a ≠ 67 → s'.1 a = s0.1 a) 5 (by unfold mFU; omega) ?_ ?_ (k := 0) (by omega) ⟨rfl, h, fun _ _ => rfl⟩
  · intro i v hi hv
    obtain ⟨x, s⟩ := v
    obtain ⟨e, r, g⟩ := hv
    have e : x = nI i := e
    subst e
    have r : RM B s := r
    have u1 := RM_put_ow r (B.pp * 5 + i) 0
    rw [up_same (show B 7 (B.pp * 5 + i) = 0 from hz B.pp i h5 hi (Or.inl (Nat.le_refl _)))] at u1
    have u2 := RM_put_ow u1 (i * 5 + B.pp) 0
    rw [up_same (show B 7 (i * 5 + B.pp) = 0 from hz i B.pp hi h5 (Or.inr (Nat.le_refl _)))] at u2
    refine ⟨(nI (i + 1), sI (sI s 67 (B.pp * 5 + i) (nI 0)) 67 (i * 5 + B.pp) (nI 0)), ?_, rfl, u2, fun a ha => ?_⟩
    · show X9_one_b119 (nI i) s = _
      unfold X9_one_b119
      rw [if_neg (gl_le (x := 5) (m := 5) rfl hi (by omega)), r.pp, e5m, e5m, if_pos (gl_inb (show B.pp * 5 + i < 25 by omega) (by omega)), if_pos (gl_inb (show i * 5 + B.pp < 25 by omega) (by omega)), nl_cl (by omega), nl_cl (by omega), nI_1]
      rfl
    · have g' := g a ha
      rw [← g']
      funext k
      show (sI (sI s 67 (B.pp * 5 + i) (nI 0)) 67 (i * 5 + B.pp) (nI 0)).1 a k = s.1 a k
      rw [sI_adr ha, sI_adr ha]
  · intro v hv
    obtain ⟨x, s⟩ := v
    obtain ⟨e, r, g⟩ := hv
    have e : x = nI 5 := e
    subst e
    refine ⟨s, ?_, r, g⟩
    show X9_one_b119 (nI 5) s = _
    unfold X9_one_b119
    rw [if_pos (show (5 : Int32) ≤ nI 5 from by decide)]
theorem m_oneY {A : Ab} {s : mSG} {tc k x l : Nat} (h : RM A s) (ok : AbOK A tc) (h5 : A.pp < 5) (hk : k ≤ 5) (hx : x ≤ 999) (hl : l ≤ 9) : ∃ s', X9_one (nI k) (nI x) (nI l) s = some (nI A.pp, s') ∧ RM (aOne A k (x / 10) (x % 10) l) s' := by
  unfold X9_one
  have e10 : nI x / 10 = nI (x / 10) := nl_div (d := 10) (by omega) (by omega) (by omega)
  have em : nI x - nI (x / 10) * 10 = nI (x % 10) := by rw [← e10]; exact nl_rem (d := 10) (by omega) (by omega) (by omega)
  rw [show X9_in (nI k).toInt64 0 5 = _ from b_dec (m_inR (nI k) 5 5 rfl), decide_eq_true ((inR_nI (show k < 2147483648 by omega) (show 5 < 2147483648 by omega)).mpr hk), if_pos rfl, show X9_in (nI x).toInt64 0 999 = _ from b_dec (m_inR (nI x) 999 999 rfl), decide_eq_true ((inR_nI (show x < 2147483648 by omega) (show 999 < 2147483648 by omega)).mpr hx), if_pos rfl, show X9_in (nI l).toInt64 0 9 = _ from b_dec (m_inR (nI l) 9 9 rfl), decide_eq_true ((inR_nI (show l < 2147483648 by omega) (show 9 < 2147483648 by omega)).mpr hl), if_pos rfl, h.pp, if_neg (show ¬ nI A.pp = 5 from by show ¬ nI A.pp = nI 5; rw [nl_eq (by omega) (by omega)]; omega), if_pos (gl_inb h5 (by omega)), nl_cl (by omega), e10, em]
  have r1 := RM_put_wt (RM_put_st (RM_put_ld (RM_put_nu (RM_put_yd (RM_put_kd h A.pp k) A.pp (x / 10)) A.pp (x % 10)) A.pp l) A.pp 0) A.pp 0
  obtain ⟨s', e, r2, g⟩ := m_oneL (B := aOneB A A.pp k (x / 10) (x % 10) l) r1 h5 ok.owz
  rw [ob (show X9_one_l119 (0, sI (sI (sI (sI (sI (sI s 61 A.pp (nI k)) 63 A.pp (nI (x / 10))) 62 A.pp (nI (x % 10))) 64 A.pp (nI l)) 65 A.pp 0) 66 A.pp 0) = some s' from e)]
  have p15 : s'.1 56 15 = nI A.pp := r2.pp
  rw [p15, nI_1, show nI (A.pp + 1) - 1 = nI A.pp from nI_pred A.pp]
  refine ⟨_, rfl, ?_⟩
  refine RM_put_pp (A := aOneB A A.pp k (x / 10) (x % 10) l) r2 ?_ ?_ ?_ ?_ ?_ ?_
  · show s'.1 61 A.pp = nI (if A.pp = A.pp then k else A.kd A.pp)
    rw [if_pos rfl, g 61 (by decide), sI_adr (by decide), sI_adr (by decide), sI_adr (by decide), sI_adr (by decide), sI_adr (by decide), sI_same]
  · show s'.1 62 A.pp = nI (if A.pp = A.pp then x % 10 else A.nu A.pp)
    rw [if_pos rfl, g 62 (by decide), sI_adr (by decide), sI_adr (by decide), sI_adr (by decide), sI_same]
  · show s'.1 63 A.pp = nI (if A.pp = A.pp then x / 10 else A.yd A.pp)
    rw [if_pos rfl, g 63 (by decide), sI_adr (by decide), sI_adr (by decide), sI_adr (by decide), sI_adr (by decide), sI_same]
  · show s'.1 64 A.pp = nI (if A.pp = A.pp then l else A.ld A.pp)
    rw [if_pos rfl, g 64 (by decide), sI_adr (by decide), sI_adr (by decide), sI_same]
  · show s'.1 65 A.pp = nI (if A.pp = A.pp then 0 else A.st A.pp)
    rw [if_pos rfl, g 65 (by decide), sI_adr (by decide), sI_same]
  · show s'.1 66 A.pp = nI (if A.pp = A.pp then 0 else A.wt A.pp)
    rw [if_pos rfl, g 66 (by decide), sI_same]
theorem L_one {t : mTX} {s : mSG} (h : INV t s) (x y z : Int32) : ∃ v s1 s2, X8_one x y z s = some (v, s1) ∧ X9_one x y z s1 = some (v, s2) ∧ INV t s2 := by
  have hI := h
  obtain ⟨tc, V, A, hk, K, ts, tp, sk, sn, si, hv⟩ := h
  have hw := hv
  obtain ⟨_, ⟨b1, b2, b3⟩, _⟩ := hw
  by_cases q : inR x 5 ∧ inR y 999 ∧ inR z 9
  · obtain ⟨k, hk', rfl⟩ := inR_of q.1 (by omega)
    obtain ⟨y, hy, rfl⟩ := inR_of q.2.1 (by omega)
    obtain ⟨l, hl, rfl⟩ := inR_of q.2.2 (by omega)
    by_cases h5 : A.pp < 5
    · obtain ⟨s1, e1, r1⟩ := c_oneY b1 h5 hk' hy hl
      have f1 := FR_X8_one _ _ _ _ _ e1
      have m1 := RM_fr b2 f1 (fun _ => rfl) (fun _ => rfl) (fun _ => rfl) (fun _ => rfl) (fun _ => rfl) (fun _ => rfl) (fun _ => rfl) (fun _ => rfl) (fun _ => rfl) rfl rfl rfl
      obtain ⟨s2, e2, r2⟩ := m_oneY m1 b3 h5 hk' hy hl
      have f2 := FR_X9_one _ _ _ _ _ e2
      have c2 := RS_fr r1 f2 (fun _ => rfl) (fun _ => rfl) (fun _ => rfl) (fun _ => rfl) (fun _ => rfl)
      exact ⟨_, s1, s2, e1, e2, L_now hv f1 f2 rfl rfl c2 r2 (aOne_ok b3 h5 hk' (by omega) (by omega) hl) (by show A.pp ≤ A.pp + 1; omega) (fun p hp => by show (if p = A.pp then _ else A.kd p) = A.kd p; rw [if_neg (by omega)])⟩
    · have p5 : A.pp = 5 := by have := b3.pp; omega
      refine ⟨-4, s, s, ?_, ?_, hI⟩
      · unfold X8_one
        rw [show X8_isWithin (nI k) 5 = _ from c_within (nI k) 5, decide_eq_true q.1, if_pos rfl, show X8_isWithin (nI y) 999 = _ from c_within (nI y) 999, decide_eq_true q.2.1, if_pos rfl, show X8_isWithin (nI l) 9 = _ from c_within (nI l) 9, decide_eq_true q.2.2, if_pos rfl, b1.pp, p5, if_neg (show ¬ nI 5 < 5 by decide)]
      · unfold X9_one
        rw [show X9_in (nI k).toInt64 0 5 = _ from b_dec (m_inR (nI k) 5 5 rfl), decide_eq_true q.1, if_pos rfl, show X9_in (nI y).toInt64 0 999 = _ from b_dec (m_inR (nI y) 999 999 rfl), decide_eq_true q.2.1, if_pos rfl, show X9_in (nI l).toInt64 0 9 = _ from b_dec (m_inR (nI l) 9 9 rfl), decide_eq_true q.2.2, if_pos rfl, b2.pp, p5, if_pos (show nI 5 = 5 by decide)]
  · refine ⟨-2, s, s, ?_, ?_, hI⟩
    · unfold X8_one
      rw [show X8_isWithin x 5 = _ from c_within x 5, show X8_isWithin y 999 = _ from c_within y 999, show X8_isWithin z 9 = _ from c_within z 9]
      by_cases q1 : inR x 5
      · by_cases q2 : inR y 999
        · rw [decide_eq_true q1, decide_eq_true q2, decide_eq_false (fun q3 => q ⟨q1, q2, q3⟩)]
          rfl
        · rw [decide_eq_true q1, decide_eq_false q2]
          rfl
      · rw [decide_eq_false q1]
        rfl
    · unfold X9_one
      rw [show X9_in x.toInt64 0 5 = _ from b_dec (m_inR x 5 5 rfl), show X9_in y.toInt64 0 999 = _ from b_dec (m_inR y 999 999 rfl), show X9_in z.toInt64 0 9 = _ from b_dec (m_inR z 9 9 rfl)]
      by_cases q1 : inR x 5
      · by_cases q2 : inR y 999
        · rw [decide_eq_true q1, decide_eq_true q2, decide_eq_false (fun q3 => q ⟨q1, q2, q3⟩)]
          rfl
        · rw [decide_eq_true q1, decide_eq_false q2]
          rfl
      · rw [decide_eq_false q1]
        rfl
