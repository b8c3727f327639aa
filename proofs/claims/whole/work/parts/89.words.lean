/-! WORDS OF THE MODEL -/
theorem spl_i {b : Nat → Nat} {x y k : Nat} : spl b x y k = true ↔ (y - x = wE k - wS k ∧ ∀ j, j < wE k - wS k → wL (wS k + j) = b (x + j)) := by
  unfold spl
  rw [Bool.and_eq_true, decide_eq_true_eq, allB_iff]
  exact ⟨fun h => ⟨h.1, fun j hj => of_decide_eq_true (h.2 j hj)⟩, fun h => ⟨h.1, fun j hj => decide_eq_true (h.2 j hj)⟩⟩
theorem wrd_d : ∀ w, w < 12 → ∀ w', w' < 12 → wE w - wS w = wE w' - wS w' → (∀ j, j < 5 → j < wE w - wS w → wL (wS w + j) = wL (wS w' + j)) → w = w' := by decide +kernel
theorem wrd_l : ∀ w, w < 12 → wE w - wS w ≤ 5 ∧ ∀ j, j < 5 → j < wE w - wS w → 97 ≤ wL (wS w + j) ∧ wL (wS w + j) ≤ 122 := by decide +kernel
theorem spl_u {b : Nat → Nat} {x y w w' : Nat} (hw : w < 12) (hw' : w' < 12) (h : spl b x y w = true) (h' : spl b x y w' = true) : w = w' := by
  obtain ⟨h1, h2⟩ := spl_i.mp h
  obtain ⟨g1, g2⟩ := spl_i.mp h'
  exact wrd_d w hw w' hw' (by omega) (fun j _ hj => by rw [h2 j hj, g2 j (by omega)])
theorem wtk_c {b : Nat → Nat} {x y w : Nat} : ∀ K, wtk b x y K = 256 + w → w < K ∧ spl b x y w = true
  | 0, h => absurd (show 1 = 256 + w from h) (by omega)
  | K + 1, h => by
    have h : (if spl b x y K = true then 256 + K else wtk b x y K) = 256 + w := h
    by_cases q : spl b x y K = true
    · rw [if_pos q] at h
      have e : K = w := by omega
      subst e
      exact ⟨by omega, q⟩
    · rw [if_neg q] at h
      have := wtk_c K h
      exact ⟨by omega, this.2⟩
theorem wtk_s {b : Nat → Nat} {x y w : Nat} (h : spl b x y w = true) : ∀ K, K ≤ 12 → w < K → wtk b x y K = 256 + w
  | 0, _, hw => absurd hw (by omega)
  | K + 1, hK, hw => by
    show (if spl b x y K = true then 256 + K else wtk b x y K) = 256 + w
    by_cases q : spl b x y K = true
    · rw [if_pos q, spl_u (by omega) (by omega) q h]
    · rw [if_neg q]
      have ne : w ≠ K := fun e => q (by rw [← e]; exact h)
      exact wtk_s h K (by omega) (by omega)
theorem kd_c {b : Nat → Nat} {n i : Nat} : (kdT b n i = 0 ∧ tC b n i = 0 ∧ n ≤ tA b n i) ∨ (kdT b n i = 1 ∧ tC b n i = wtk b (tA b n i) (tN b n i) 12 ∧ tA b n i < n ∧ isL b (tA b n i) = true ∧ tN b n i = scn (isL b) n (tA b n i)) ∨ (kdT b n i = 2 ∧ tC b n i = 2 ∧ tA b n i < n ∧ isD b (tA b n i) = true ∧ tN b n i = scn (isD b) n (tA b n i) ∧ tN b n i - tA b n i ≤ 4) ∨ (kdT b n i = 3 ∧ tC b n i = b (tA b n i) ∧ isS (tC b n i) = true ∧ tA b n i < n) ∨ (kdT b n i = 4 ∧ tC b n i = 1 ∧ tA b n i < n) := by
  have hN : tN b n i = if tA b n i < n then (if isL b (tA b n i) = true then scn (isL b) n (tA b n i) else if isD b (tA b n i) = true then scn (isD b) n (tA b n i) else tA b n i + 1) else tA b n i := rfl
  have hC : tC b n i = if tA b n i < n then (if isL b (tA b n i) = true then wtk b (tA b n i) (tN b n i) 12 else if isD b (tA b n i) = true then (if tN b n i - tA b n i ≤ 4 then 2 else 1) else if isS (b (tA b n i)) = true then b (tA b n i) else 1) else 0 := rfl
  have hK : kdT b n i = if tA b n i < n then (if isL b (tA b n i) = true then 1 else if isD b (tA b n i) = true then (if tN b n i - tA b n i ≤ 4 then 2 else 4) else if isS (b (tA b n i)) = true then 3 else 4) else 0 := rfl
  by_cases q : tA b n i < n
  · rw [if_pos q] at hN hC hK
    by_cases qL : isL b (tA b n i) = true
    · rw [if_pos qL] at hN hC hK
      exact Or.inr (Or.inl ⟨hK, hC, q, qL, hN⟩)
    · rw [if_neg qL] at hN hC hK
      by_cases qD : isD b (tA b n i) = true
      · rw [if_pos qD] at hN hC hK
        by_cases q4 : tN b n i - tA b n i ≤ 4
        · rw [if_pos q4] at hC hK
          exact Or.inr (Or.inr (Or.inl ⟨hK, hC, q, qD, hN, q4⟩))
        · rw [if_neg q4] at hC hK
          exact Or.inr (Or.inr (Or.inr (Or.inr ⟨hK, hC, q⟩)))
      · rw [if_neg qD] at hN hC hK
        by_cases qS : isS (b (tA b n i)) = true
        · rw [if_pos qS] at hC hK
          exact Or.inr (Or.inr (Or.inr (Or.inl ⟨hK, hC, by rw [hC]; exact qS, q⟩)))
        · rw [if_neg qS] at hC hK
          exact Or.inr (Or.inr (Or.inr (Or.inr ⟨hK, hC, q⟩)))
  · rw [if_neg q] at hC hK
    exact Or.inl ⟨hK, hC, by omega⟩
theorem isS_n {c : Nat} (h : isS c = true) : 40 ≤ c ∧ c ≤ 61 := by
  have := of_decide_eq_true h
  omega
section
variable {k n : Nat} {b : Nat → Nat}
theorem m_sign {s : mSG} {i c : Nat} {x : Int32} (hx : x = nI c) (h : AM n b i s) (hb : s.1 56 31 = 0) (hc : isS c = true) : X9_isSign x s = decide (tC b n i = c) := by
  subst hx
  have hS := isS_n hc
  have hl := tC_b (b := b) (n := n) (i := i)
  obtain ⟨h28, h27, h26, h2, h3⟩ := h
  unfold X9_isSign
  rw [if_pos hb, h27]
  rcases kd_c (b := b) (n := n) (i := i) with ⟨kk, cc, _⟩ | ⟨kk, cc, _⟩ | ⟨kk, cc, _⟩ | ⟨kk, cc, _⟩ | ⟨kk, cc, _⟩
  · rw [kk, if_neg (show ¬ nI 0 = 3 by decide), decide_eq_false (show ¬ tC b n i = c by omega)]
  · have := wtk_b (b := b) (x := tA b n i) (y := tN b n i) 12
    rw [kk, if_neg (show ¬ nI 1 = 3 by decide), decide_eq_false (show ¬ tC b n i = c by omega)]
  · rw [kk, if_neg (show ¬ nI 2 = 3 by decide), decide_eq_false (show ¬ tC b n i = c by omega)]
  · rw [kk, if_pos (show nI 3 = 3 from rfl), h3 kk, nI_l (by omega)]
    by_cases q : tC b n i = c
    · rw [if_pos ((lgc_eq _ _).mpr (by rw [q])), decide_eq_true q]
    · rw [if_neg (fun g => q ((lN_eq (by omega) (by omega)).mp ((lgc_eq _ _).mp g))), decide_eq_false q]
  · rw [kk, if_neg (show ¬ nI 4 = 3 by decide), decide_eq_false (show ¬ tC b n i = c by omega)]
theorem m_signB {s : mSG} {x : Int32} (hb : s.1 56 31 = 1) : X9_isSign x s = false := by
  unfold X9_isSign
  rw [hb, if_neg (by decide)]
theorem m_wordB {s : mSG} {x0 x1 x2 x3 x4 x5 x6 x7 : Int32} (hb : s.1 56 31 = 1) : X9_isWord x0 x1 x2 x3 x4 x5 x6 x7 s = some false := by
  unfold X9_isWord
  rw [hb, if_neg (by decide)]
/-- a letter of the word, 0 past it -/
def xn (w m : Nat) : Nat := if m < wE w - wS w then wL (wS w + m) else 0
def chT (b : Nat → Nat) (x y m : Nat) : Nat := if y ≤ x + m then 0 else b (x + m)
theorem m_letter {s : mSG} {i m c : Nat} (ht : TM k n b s) (h : AM n b i s) (hk : kdT b n i = 1) (hi : i ≤ n) (hm : m < 8) (hc : c ≤ 255) : X9_isLetter (nI m) (nI c) s = some (decide (chT b (tA b n i) (tN b n i) m = c)) := by
  obtain ⟨h28, h27, h26, h2, h3⟩ := h
  have hn := ht.2.2.1
  have hA := tA_b (b := b) hi
  have hN := tN_b (b := b) hi
  unfold X9_isLetter chT
  rw [h26 (by omega), h28, nI_add]
  by_cases q : tN b n i ≤ tA b n i + m
  · rw [if_pos (nI_le q (by omega)), if_pos q]
    by_cases q0 : 0 = c
    · subst q0
      rw [if_pos nI_0, decide_eq_true rfl]
    · rw [if_neg (nI_ne0 (by omega) (by omega)), decide_eq_false q0]
  · rw [if_neg (nI_ge (by omega) (by omega)), ob (m_byte ht (by omega)), if_neg q, if_pos (show tA b n i + m < n by omega)]
    have bb := (ht.2.2.2.2 (tA b n i + m) (by omega)).2
    have e : (nI (b (tA b n i + m)) = nI c) = (b (tA b n i + m) = c) := nl_eq (by omega) (by omega)
    by_cases q0 : b (tA b n i + m) = c
    · rw [if_pos (e.mpr q0), decide_eq_true q0]
    · rw [if_neg (fun g => q0 (e.mp g)), decide_eq_false q0]
theorem m_word {s : mSG} {i w : Nat} {x0 x1 x2 x3 x4 x5 x6 x7 : Int32} (ht : TM k n b s) (h : AM n b i s) (hb : s.1 56 31 = 0) (hi : i ≤ n) (hw : w < 12) (h0 : x0 = nI (xn w 0)) (h1 : x1 = nI (xn w 1)) (h2 : x2 = nI (xn w 2)) (h3 : x3 = nI (xn w 3)) (h4 : x4 = nI (xn w 4)) (h5 : x5 = nI (xn w 5)) (h6 : x6 = nI (xn w 6)) (h7 : x7 = nI (xn w 7)) : X9_isWord x0 x1 x2 x3 x4 x5 x6 x7 s = some (decide (tC b n i = 256 + w)) := by
  subst h0 h1 h2 h3 h4 h5 h6 h7
  have hn := ht.2.2.1
  have hA := tA_b (b := b) hi
  have hN := tN_b (b := b) hi
  obtain ⟨wl, wc⟩ := wrd_l w hw
  have c27 := h.2.1
  unfold X9_isWord
  rw [if_pos hb, c27]
  rcases kd_c (b := b) (n := n) (i := i) with ⟨kk, cc, _⟩ | ⟨kk, cc, q1, q2, q3⟩ | ⟨kk, cc, _⟩ | ⟨kk, cc, cs, _⟩ | ⟨kk, cc, _⟩
  · rw [kk, if_neg (show ¬ nI 0 = 1 by decide), decide_eq_false (show ¬ tC b n i = 256 + w by omega)]
  · rw [kk, if_pos (show nI 1 = 1 from rfl), h.1, h.2.2.1 (by omega), show nI (tA b n i) + 8 = nI (tA b n i + 8) from nI_add _ 8]
    have ek : tC b n i = 256 + w ↔ spl b (tA b n i) (tN b n i) w = true := ⟨fun g => (wtk_c 12 (cc ▸ g)).2, fun g => by rw [cc]; exact wtk_s g 12 (Nat.le_refl _) hw⟩
    have lt := (scn_b (p := isL b) (show tA b n i ≤ n by omega)).2.2.1
    rw [← q3] at lt
    by_cases q8 : tA b n i + 8 < tN b n i
    · rw [if_pos (nI_lt q8 (by omega)), decide_eq_false (fun g => by have := (spl_i.mp (ek.mp g)).1; omega)]
    · rw [if_neg (nI_nlt (by omega) (by omega))]
      have es : tC b n i = 256 + w ↔ ∀ m, m < 8 → chT b (tA b n i) (tN b n i) m = xn w m := by
        rw [ek, spl_i]
        constructor
        · intro g m hm
          unfold chT xn
          by_cases qm : m < wE w - wS w
          · rw [if_neg (by omega), if_pos qm, g.2 m qm]
          · rw [if_pos (by omega), if_neg qm]
        · intro g
          have e1 : tN b n i - tA b n i = wE w - wS w := by
            by_cases a1 : tN b n i - tA b n i < wE w - wS w
            · have g1 := g (tN b n i - tA b n i) (by omega)
              unfold chT xn at g1
              rw [if_pos (by omega), if_pos a1] at g1
              have := (wc (tN b n i - tA b n i) (by omega) a1).1
              omega
            · by_cases a2 : wE w - wS w < tN b n i - tA b n i
              · have g1 := g (wE w - wS w) (by omega)
                unfold chT xn at g1
                rw [if_neg (by omega), if_neg (Nat.lt_irrefl _)] at g1
                have := of_decide_eq_true (lt (tA b n i + (wE w - wS w)) (by omega) (by omega))
                omega
              · omega
          refine ⟨e1, fun j hj => ?_⟩
          have g1 := g j (by omega)
          unfold chT xn at g1
          rw [if_neg (by omega), if_pos hj] at g1
          exact g1.symm
      have xb : ∀ m, m < 8 → xn w m ≤ 255 := fun m hm => by
        unfold xn
        by_cases qm : m < wE w - wS w
        · rw [if_pos qm]; have := (wc m (by omega) qm).2; omega
        · rw [if_neg qm]; omega
      have ly : ∀ m, m < 8 → chT b (tA b n i) (tN b n i) m = xn w m → X9_isLetter (nI m) (nI (xn w m)) s = some true := fun m hm e => by rw [m_letter ht h kk hi hm (xb m hm), decide_eq_true e]
      have ln : ∀ m, m < 8 → ¬ chT b (tA b n i) (tN b n i) m = xn w m → X9_isLetter (nI m) (nI (xn w m)) s = some false ∧ decide (tC b n i = 256 + w) = false := fun m hm e => ⟨by rw [m_letter ht h kk hi hm (xb m hm), decide_eq_false e], decide_eq_false (fun g => e (es.mp g m hm))⟩
      rw [show (0 : Int32) = nI 0 from rfl, show (1 : Int32) = nI 1 from rfl, show (2 : Int32) = nI 2 from rfl, show (3 : Int32) = nI 3 from rfl, show (4 : Int32) = nI 4 from rfl, show (5 : Int32) = nI 5 from rfl, show (6 : Int32) = nI 6 from rfl, show (7 : Int32) = nI 7 from rfl]
      by_cases p0 : chT b (tA b n i) (tN b n i) 0 = xn w 0
      · rw [ob (ly 0 (by omega) p0), if_pos rfl]
        by_cases p1 : chT b (tA b n i) (tN b n i) 1 = xn w 1
        · rw [ob (ly 1 (by omega) p1), if_pos rfl]
          by_cases p2 : chT b (tA b n i) (tN b n i) 2 = xn w 2
          · rw [ob (ly 2 (by omega) p2), if_pos rfl]
            by_cases p3 : chT b (tA b n i) (tN b n i) 3 = xn w 3
            · rw [ob (ly 3 (by omega) p3), if_pos rfl]
              by_cases p4 : chT b (tA b n i) (tN b n i) 4 = xn w 4
              · rw [ob (ly 4 (by omega) p4), if_pos rfl]
                by_cases p5 : chT b (tA b n i) (tN b n i) 5 = xn w 5
                · rw [ob (ly 5 (by omega) p5), if_pos rfl]
                  by_cases p6 : chT b (tA b n i) (tN b n i) 6 = xn w 6
                  · rw [ob (ly 6 (by omega) p6), if_pos rfl]
                    by_cases p7 : chT b (tA b n i) (tN b n i) 7 = xn w 7
                    · rw [ob (ly 7 (by omega) p7), if_pos rfl, decide_eq_true (es.mpr (fun m hm => by
                        have hc : m = 0 ∨ m = 1 ∨ m = 2 ∨ m = 3 ∨ m = 4 ∨ m = 5 ∨ m = 6 ∨ m = 7 := by omega
                        rcases hc with rfl | rfl | rfl | rfl | rfl | rfl | rfl | rfl
                        · exact p0
                        · exact p1
                        · exact p2
                        · exact p3
                        · exact p4
                        · exact p5
                        · exact p6
                        · exact p7))]
                    · rw [ob (ln 7 (by omega) p7).1, (ln 7 (by omega) p7).2]; rfl
                  · rw [ob (ln 6 (by omega) p6).1, (ln 6 (by omega) p6).2]; rfl
                · rw [ob (ln 5 (by omega) p5).1, (ln 5 (by omega) p5).2]; rfl
              · rw [ob (ln 4 (by omega) p4).1, (ln 4 (by omega) p4).2]; rfl
            · rw [ob (ln 3 (by omega) p3).1, (ln 3 (by omega) p3).2]; rfl
          · rw [ob (ln 2 (by omega) p2).1, (ln 2 (by omega) p2).2]; rfl
        · rw [ob (ln 1 (by omega) p1).1, (ln 1 (by omega) p1).2]; rfl
      · rw [ob (ln 0 (by omega) p0).1, (ln 0 (by omega) p0).2]; rfl
  · rw [kk, if_neg (show ¬ nI 2 = 1 by decide), decide_eq_false (show ¬ tC b n i = 256 + w by omega)]
  · have := isS_n cs
    rw [kk, if_neg (show ¬ nI 3 = 1 by decide), decide_eq_false (show ¬ tC b n i = 256 + w by omega)]
  · rw [kk, if_neg (show ¬ nI 4 = 1 by decide), decide_eq_false (show ¬ tC b n i = 256 + w by omega)]
theorem w_y {p : Prop} [hd : Decidable p] {o : Option Bool} (h : o = some (decide p)) (hp : p) : o = some true := by rw [h, decide_eq_true hp]
theorem w_n {p : Prop} [hd : Decidable p] {o : Option Bool} (h : o = some (decide p)) (hp : ¬ p) : o = some false := by rw [h, decide_eq_false hp]
theorem m_name {s : mSG} {i : Nat} (ht : TM k n b s) (h : AM n b i s) (hb : s.1 56 31 = 0) (hi : i ≤ n) : (∀ e, e < 6 → tC b n i = 256 + e → X9_name s = some (s.1 56 (18 + e), s)) ∧ ((∀ e, e < 6 → ¬ tC b n i = 256 + e) → X9_name s = some (0, sI (sI s 56 31 1) 56 32 (s.1 56 28))) := by
  have W0 : X9_isWord 109 117 100 0 0 0 0 0 s = some (decide (tC b n i = 256 + 0)) := m_word ht h hb hi (by omega) rfl rfl rfl rfl rfl rfl rfl rfl
  have W1 : X9_isWord 119 101 116 0 0 0 0 0 s = some (decide (tC b n i = 256 + 1)) := m_word ht h hb hi (by omega) rfl rfl rfl rfl rfl rfl rfl rfl
  have W2 : X9_isWord 108 111 97 100 0 0 0 0 s = some (decide (tC b n i = 256 + 2)) := m_word ht h hb hi (by omega) rfl rfl rfl rfl rfl rfl rfl rfl
  have W3 : X9_isWord 114 97 105 110 0 0 0 0 s = some (decide (tC b n i = 256 + 3)) := m_word ht h hb hi (by omega) rfl rfl rfl rfl rfl rfl rfl rfl
  have W4 : X9_isWord 102 114 111 109 0 0 0 0 s = some (decide (tC b n i = 256 + 4)) := m_word ht h hb hi (by omega) rfl rfl rfl rfl rfl rfl rfl rfl
  have W5 : X9_isWord 116 111 0 0 0 0 0 0 s = some (decide (tC b n i = 256 + 5)) := m_word ht h hb hi (by omega) rfl rfl rfl rfl rfl rfl rfl rfl
  constructor
  · intro e he hc
    unfold X9_name
    have hcs : e = 0 ∨ e = 1 ∨ e = 2 ∨ e = 3 ∨ e = 4 ∨ e = 5 := by omega
    rcases hcs with rfl | rfl | rfl | rfl | rfl | rfl
    · rw [ob (w_y W0 hc)]; rfl
    · rw [ob (w_n W0 (by omega)), if_neg (by decide), ob (w_y W1 hc)]; rfl
    · rw [ob (w_n W0 (by omega)), if_neg (by decide), ob (w_n W1 (by omega)), if_neg (by decide), ob (w_y W2 hc)]; rfl
    · rw [ob (w_n W0 (by omega)), if_neg (by decide), ob (w_n W1 (by omega)), if_neg (by decide), ob (w_n W2 (by omega)), if_neg (by decide), ob (w_y W3 hc)]; rfl
    · rw [ob (w_n W0 (by omega)), if_neg (by decide), ob (w_n W1 (by omega)), if_neg (by decide), ob (w_n W2 (by omega)), if_neg (by decide), ob (w_n W3 (by omega)), if_neg (by decide), ob (w_y W4 hc)]; rfl
    · rw [ob (w_n W0 (by omega)), if_neg (by decide), ob (w_n W1 (by omega)), if_neg (by decide), ob (w_n W2 (by omega)), if_neg (by decide), ob (w_n W3 (by omega)), if_neg (by decide), ob (w_n W4 (by omega)), if_neg (by decide), ob (w_y W5 hc)]; rfl
  · intro hc
    unfold X9_name X9_fail
    rw [ob (w_n W0 (hc 0 (by omega))), if_neg (by decide), ob (w_n W1 (hc 1 (by omega))), if_neg (by decide), ob (w_n W2 (hc 2 (by omega))), if_neg (by decide), ob (w_n W3 (hc 3 (by omega))), if_neg (by decide), ob (w_n W4 (hc 4 (by omega))), if_neg (by decide), ob (w_n W5 (hc 5 (by omega))), if_neg (by decide), if_pos hb]
    rfl
end
