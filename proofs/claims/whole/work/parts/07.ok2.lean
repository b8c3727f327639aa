/-! stores, arithmetic, branches -/
theorem mGet_mSet : ∀ (L : mLV) (i j : Nat) (v : Option Value), i < L.length → mGet (mSet L i v) j = if j = i then v else mGet L j
  | [], i, j, v, h => by simp at h
  | x :: l, 0, 0, v, _ => rfl
  | x :: l, 0, j + 1, v, _ => by simp [mSet, mGet]
  | x :: l, i + 1, 0, v, _ => by simp [mSet, mGet]
  | x :: l, i + 1, j + 1, v, h => by
    have := mGet_mSet l i j v (by simpa using h)
    simp only [mSet, mGet, this, Nat.add_right_cancel_iff]
theorem mSet_len : ∀ (L : mLV) (i : Nat) (v : Option Value), (mSet L i v).length = L.length
  | [], _, _ => rfl
  | _ :: _, 0, _ => rfl
  | x :: l, i + 1, v => by simp [mSet, mSet_len l i v]
theorem mGet_lt : ∀ {L : mLV} {i : Nat} {v : Value}, mGet L i = some v → i < L.length
  | [], _, _, h => by simp [mGet] at h
  | _ :: _, 0, _, _ => by simp
  | _ :: l, i + 1, _, h => by
    have := mGet_lt (L := l) (i := i) h
    simpa using this
/-- what the locals hold, listed -/
def mAl (w : mWd) : Nat → mLV → List (Nat × Value)
  | _, [] => []
  | k, none :: l => mAl w (k + 1) l
  | k, some v :: l => (k, rl w v) :: mAl w (k + 1) l
theorem mAl_of {w : mWd} : ∀ (L : mLV) (k : Nat) (q : Nat × Value), q ∈ mAl w k L → ∃ i v, q = (k + i, rl w v) ∧ mGet L i = some v
  | [], k, q, h => by simp [mAl] at h
  | none :: l, k, q, h => by
    obtain ⟨i, v, e, g⟩ := mAl_of l (k + 1) q h
    exact ⟨i + 1, v, by rw [e, Nat.add_assoc, Nat.add_comm 1 i], g⟩
  | some x :: l, k, q, h => by
    rcases List.mem_cons.mp h with h | h
    · exact ⟨0, x, h, rfl⟩
    · obtain ⟨i, v, e, g⟩ := mAl_of l (k + 1) q h
      exact ⟨i + 1, v, by rw [e, Nat.add_assoc, Nat.add_comm 1 i], g⟩
theorem mAl_in {w : mWd} : ∀ (L : mLV) (k i : Nat) (v : Value), mGet L i = some v → (k + i, rl w v) ∈ mAl w k L
  | [], _, _, _, h => by simp [mGet] at h
  | none :: l, k, 0, v, h => by simp [mGet] at h
  | none :: l, k, i + 1, v, h => by
    have := mAl_in (w := w) l (k + 1) i v h
    rw [show k + (i + 1) = k + 1 + i by omega]
    exact this
  | some x :: l, k, 0, v, h => by
    have e : x = v := by simpa [mGet] using h
    subst e
    exact List.mem_cons_self
  | some x :: l, k, i + 1, v, h => by
    have := mAl_in (w := w) l (k + 1) i v h
    rw [show k + (i + 1) = k + 1 + i by omega]
    exact List.mem_cons_of_mem _ this
theorem mLrel.has {w : mWd} {hl : Bool} {ls : Array Slot} {L : mLV} (h : mLrel w hl ls L) : lv_has ls L.length (mAl w 0 L) := by
  refine ⟨h.1, h.2.1, fun q hq => ?_⟩
  obtain ⟨i, v, e, g⟩ := mAl_of L 0 q hq
  rw [e, Nat.zero_add]
  exact h.2.2.1 i v g
theorem rl_cat {w : mWd} (hF : (wF w).category = 1) (v : Value) : (rl w v).category = v.category := by
  cases v <;> first | rfl | exact hF
theorem mLrel.store1 {w : mWd} {hl : Bool} {ls ls' : Array Slot} {L : mLV} {i : Nat} {v : Value} (hF : (wF w).category = 1) (h : mLrel w hl ls L) (hi : i < L.length) (hc : v.category = 1) (hn : hl = true → ∀ k u, i = k + 1 → mGet L k = some u → u.category = 1)
    (h' : lv_has ls' L.length ((i, rl w v) :: (mAl w 0 L).filter (fun q => !(q.1 == i) && !(q.1 + 1 == i && q.2.category == 2)))) : mLrel w hl ls' (mSet L i (some v)) := by
  refine ⟨by rw [mSet_len]; exact h'.1, h'.2.1, fun j u hj => ?_, fun hl0 j u hj => ?_⟩
  · rw [mGet_mSet L i j _ hi] at hj
    by_cases e : j = i
    · subst e
      rw [if_pos rfl] at hj
      cases hj
      exact h'.2.2 (j, rl w v) List.mem_cons_self
    · rw [if_neg e] at hj
      refine h'.2.2 (j, rl w u) (List.mem_cons_of_mem _ (List.mem_filter.mpr ⟨by simpa using mAl_in (w := w) L 0 j u hj, ?_⟩))
      have h1 : (j == i) = false := by simpa using e
      rw [h1]
      by_cases e2 : j + 1 = i
      · have hcu : u.category = 1 := by
          cases hl with
          | true => exact hn rfl j u e2.symm hj
          | false => exact h.2.2.2 rfl j u hj
        have : (rl w u).category = 1 := by rw [rl_cat hF]; exact hcu
        simp [this]
      · have h2 : (j + 1 == i) = false := by simpa using e2
        simp [h2]
  · rw [mGet_mSet L i j _ hi] at hj
    by_cases e : j = i
    · subst e
      rw [if_pos rfl] at hj
      cases hj
      exact hc
    · rw [if_neg e] at hj
      exact h.2.2.2 hl0 j u hj
theorem mLrel.drop {w : mWd} {hl : Bool} {ls : Array Slot} {L : mLV} (h : mLrel w hl ls L) (k : Nat) (hk : k < L.length) : mLrel w hl ls (mSet L k none) := by
  refine ⟨by rw [mSet_len]; exact h.1, h.2.1, fun j u hj => ?_, fun hl0 j u hj => ?_⟩
  · rw [mGet_mSet L k j _ hk] at hj
    by_cases e : j = k
    · rw [if_pos e] at hj; cases hj
    · rw [if_neg e] at hj; exact h.2.2.1 j u hj
  · rw [mGet_mSet L k j _ hk] at hj
    by_cases e : j = k
    · rw [if_pos e] at hj; cases hj
    · rw [if_neg e] at hj; exact h.2.2.2 hl0 j u hj
theorem mLong_iff {o : Option Value} (h : ¬ mLong o = true) {u : Value} (ho : o = some u) : u.category = 1 := by
  subst ho
  cases u <;> simp_all [mLong, Value.category]
section OKS
variable {cc : ByteArray} {own : String} {hl : Bool} {nL : Nat} {rt : Option FieldType} {ini : Bool} {pc : Nat}
theorem mES.fmt {w : mWd} {s : State} (h : mES w s) : (wF w).category = 1 := h.2.2.2.2.2.2.2.2.2.2.2.2.2.2.2.2.2.2.2.2.2.2.2
theorem ok_istore_n {k : Fin 4} {i : Nat} (hd : decode cc pc = .ok (.istore_n k, 1)) (hi : (k : Nat) = i) (hin : i < nL) : mOK cc own false nL rt ini pc (mcStoreI i (pc + 1)) := by
  intro w d p l e R s m args below meth c Q r n0 l0 hml hini X C hC K hK L S σ Y h hLn hn hs ls H locs hL hR hS
  unfold mcStoreI at h
  split at h
  · rename_i x S'
    refine lv_istore_n X.1 X.2.1 hd hi hL.has (by omega) rfl (fun ls' h' => ?_)
    exact hK _ _ _ _ _ h (by rw [mSet_len]; exact hLn) hn hs ls' H locs (mLrel.store1 (v := .int x) X.2.2.2.2.1.fmt hL (by omega) rfl (fun h => by cases h) h') hR hS
  · exact h.elim
theorem ok_istore {i : Nat} (hd : decode cc pc = .ok (.istore i, 2)) (hin : i < nL) : mOK cc own false nL rt ini pc (mcStoreI i (pc + 2)) := by
  intro w d p l e R s m args below meth c Q r n0 l0 hml hini X C hC K hK L S σ Y h hLn hn hs ls H locs hL hR hS
  unfold mcStoreI at h
  split at h
  · rename_i x S'
    refine lv_istore X.1 X.2.1 hd hL.has (by omega) rfl (fun ls' h' => ?_)
    exact hK _ _ _ _ _ h (by rw [mSet_len]; exact hLn) hn hs ls' H locs (mLrel.store1 (v := .int x) X.2.2.2.2.1.fmt hL (by omega) rfl (fun h => by cases h) h') hR hS
  · exact h.elim
theorem ok_astore_n {k : Fin 4} {i : Nat} (hd : decode cc pc = .ok (.astore_n k, 1)) (hi : (k : Nat) = i) (hin : i < nL) : mOK cc own false nL rt ini pc (mcStoreA i (pc + 1)) := by
  intro w d p l e R s m args below meth c Q r n0 l0 hml hini X C hC K hK L S σ Y h hLn hn hs ls H locs hL hR hS
  unfold mcStoreA at h
  split at h
  · rename_i x S'
    refine lv_astore_n X.1 X.2.1 hd hi hL.has (by omega) rfl (fun ls' h' => ?_)
    exact hK _ _ _ _ _ h (by rw [mSet_len]; exact hLn) hn hs ls' H locs (mLrel.store1 (v := .ref x) X.2.2.2.2.1.fmt hL (by omega) rfl (fun h => by cases h) h') hR hS
  · exact h.elim
theorem ok_astore {i : Nat} (hd : decode cc pc = .ok (.astore i, 2)) (hin : i < nL) : mOK cc own false nL rt ini pc (mcStoreA i (pc + 2)) := by
  intro w d p l e R s m args below meth c Q r n0 l0 hml hini X C hC K hK L S σ Y h hLn hn hs ls H locs hL hR hS
  unfold mcStoreA at h
  split at h
  · rename_i x S'
    refine lv_astore X.1 X.2.1 hd hL.has (by omega) rfl (fun ls' h' => ?_)
    exact hK _ _ _ _ _ h (by rw [mSet_len]; exact hLn) hn hs ls' H locs (mLrel.store1 (v := .ref x) X.2.2.2.2.1.fmt hL (by omega) rfl (fun h => by cases h) h') hR hS
  · exact h.elim
theorem ok_iinc {i : Nat} {n : Int} {v : Int32} (hd : decode cc pc = .ok (.iinc i n, 3)) (hv : Int32.ofInt n = v) (hin : i < nL) : mOK cc own false nL rt ini pc (mcIinc i v (pc + 3)) := by
  intro w d p l e R s m args below meth c Q r n0 l0 hml hini X C hC K hK L S σ Y h hLn hn hs ls H locs hL hR hS
  unfold mcIinc at h
  split at h
  · rename_i x hx
    have hmem := mAl_in (w := w) L 0 i _ hx
    rw [Nat.zero_add] at hmem
    obtain ⟨kk, hkk⟩ := List.getElem?_of_mem hmem
    refine lv_iinc (x := x) X.1 X.2.1 hd hL.has hkk (by rw [hv]) (by omega) rfl (fun ls' h' => ?_)
    exact hK _ _ _ _ _ h (by rw [mSet_len]; exact hLn) hn hs ls' H locs (mLrel.store1 (v := .int (x + v)) X.2.2.2.2.1.fmt hL (by omega) rfl (fun h => by cases h) h') hR hS
  · exact h.elim
theorem mPut_len (L : mLV) (i : Nat) (v : Value) : (mPut L i v).length = L.length := by
  cases i with
  | zero => exact mSet_len _ _ _
  | succ k => unfold mPut; dsimp only; split <;> simp [mSet_len]
theorem mLrel.put1 {w : mWd} {hl : Bool} {ls ls' : Array Slot} {L : mLV} {i : Nat} {v : Value} (hF : (wF w).category = 1) (h : mLrel w hl ls L) (hi : i < L.length) (hc : v.category = 1)
    (h' : lv_has ls' L.length ((i, rl w v) :: (mAl w 0 L).filter (fun q => !(q.1 == i) && !(q.1 + 1 == i && q.2.category == 2)))) : mLrel w hl ls' (mPut L i v) := by
  cases i with
  | zero => exact mLrel.store1 hF h hi hc (fun _ k u e => by omega) h'
  | succ k =>
    unfold mPut
    dsimp only
    split
    · rename_i hlg
      have hk : k < L.length := by omega
      have hd := h.drop k hk
      refine mLrel.store1 hF hd (by rw [mSet_len]; exact hi) hc (fun _ k' u e hg => ?_) ?_
      · have : k' = k := by omega
        subst this
        rw [mGet_mSet L k' k' _ hk, if_pos rfl] at hg
        cases hg
      · rw [mSet_len]
        refine ⟨h'.1, h'.2.1, fun q hq => ?_⟩
        rcases List.mem_cons.mp hq with rfl | hq
        · exact h'.2.2 _ List.mem_cons_self
        · obtain ⟨q1, q2⟩ := List.mem_filter.mp hq
          refine h'.2.2 q (List.mem_cons_of_mem _ (List.mem_filter.mpr ⟨?_, q2⟩))
          obtain ⟨j, u, e, g⟩ := mAl_of _ 0 q q1
          rw [mGet_mSet L k j _ hk] at g
          by_cases ej : j = k
          · rw [if_pos ej] at g; cases g
          · rw [if_neg ej] at g
            rw [e]
            exact mAl_in L 0 j u g
    · rename_i hlg
      exact mLrel.store1 hF h hi hc (fun _ k' u e hg => by
        have : k' = k := by omega
        subst this
        exact mLong_iff hlg hg) h'
theorem mLrel.put2 {w : mWd} {hl : Bool} {ls ls' : Array Slot} {L : mLV} {i : Nat} {v : Value} (hF : (wF w).category = 1) (ht : hl = true) (h : mLrel w hl ls L) (hi : i + 1 < L.length)
    (h' : lv_has ls' L.length ((i, rl w v) :: (mAl w 0 L).filter (fun q => !(q.1 == i) && (!(q.1 == i + 1) && !(q.1 + 1 == i && q.2.category == 2))))) : mLrel w hl ls' (mSet (mPut L i v) (i + 1) none) := by
  subst ht
  have key : ∀ j u, j ≠ i → j ≠ i + 1 → mGet L j = some u → (j + 1 = i → u.category = 1) → ls'[j]? = some (.val (rl w u)) := by
    intro j u h1 h2 hg h3
    refine h'.2.2 (j, rl w u) (List.mem_cons_of_mem _ (List.mem_filter.mpr ⟨by simpa using mAl_in (w := w) L 0 j u hg, ?_⟩))
    have e1 : (j == i) = false := by simpa using h1
    have e2 : (j == i + 1) = false := by simpa using h2
    simp only [e1, e2, Bool.not_false, Bool.true_and]
    by_cases e3 : j + 1 = i
    · have : (rl w u).category = 1 := by rw [rl_cat hF]; exact h3 e3
      simp [this]
    · have : (j + 1 == i) = false := by simpa using e3
      simp [this]
  refine ⟨by rw [mSet_len, mPut_len]; exact h'.1, h'.2.1, fun j u hj => ?_, fun hl0 => by cases hl0⟩
  rw [mGet_mSet _ (i + 1) j _ (by rw [mPut_len]; exact hi)] at hj
  by_cases e : j = i + 1
  · rw [if_pos e] at hj; cases hj
  · rw [if_neg e] at hj
    have hv : ls'[i]? = some (.val (rl w v)) := h'.2.2 (i, rl w v) List.mem_cons_self
    cases i with
    | zero =>
      change mGet (mSet L 0 (some v)) j = some u at hj
      rw [mGet_mSet L 0 j _ (by omega)] at hj
      by_cases e0 : j = 0
      · rw [if_pos e0] at hj; cases hj; rw [e0]; exact hv
      · rw [if_neg e0] at hj; exact key j u e0 e hj (fun q => by omega)
    | succ k =>
      unfold mPut at hj
      dsimp only at hj
      split at hj
      · rw [mGet_mSet _ (k + 1) j _ (by rw [mSet_len]; omega)] at hj
        by_cases e0 : j = k + 1
        · rw [if_pos e0] at hj; cases hj; rw [e0]; exact hv
        · rw [if_neg e0, mGet_mSet _ k j _ (by omega)] at hj
          by_cases e1 : j = k
          · rw [if_pos e1] at hj; cases hj
          · rw [if_neg e1] at hj; exact key j u e0 e hj (fun q => by omega)
      · rename_i hlg
        rw [mGet_mSet _ (k + 1) j _ (by omega)] at hj
        by_cases e0 : j = k + 1
        · rw [if_pos e0] at hj; cases hj; rw [e0]; exact hv
        · rw [if_neg e0] at hj
          refine key j u e0 e hj (fun q => ?_)
          have : j = k := by omega
          subst this
          exact mLong_iff hlg hj
theorem ok_istoreH {i : Nat} (hd : decode cc pc = .ok (.istore i, 2)) (hin : i < nL) : mOK cc own hl nL rt ini pc (mcStoreIH i (pc + 2)) := by
  intro w d p l e R s m args below meth c Q r n0 l0 hml hini X C hC K hK L S σ Y h hLn hn hs ls H locs hL hR hS
  unfold mcStoreIH at h
  split at h
  · rename_i x S'
    refine lv_istore X.1 X.2.1 hd hL.has (by omega) rfl (fun ls' h' => ?_)
    exact hK _ _ _ _ _ h (by rw [mPut_len]; exact hLn) hn hs ls' H locs (mLrel.put1 (v := .int x) X.2.2.2.2.1.fmt hL (by omega) rfl h') hR hS
  · exact h.elim
theorem ok_iincH {i : Nat} {n : Int} {v : Int32} (hd : decode cc pc = .ok (.iinc i n, 3)) (hv : Int32.ofInt n = v) (hin : i < nL) : mOK cc own hl nL rt ini pc (mcIincH i v (pc + 3)) := by
  intro w d p l e R s m args below meth c Q r n0 l0 hml hini X C hC K hK L S σ Y h hLn hn hs ls H locs hL hR hS
  unfold mcIincH at h
  split at h
  · rename_i x hx
    have hmem := mAl_in (w := w) L 0 i _ hx
    rw [Nat.zero_add] at hmem
    obtain ⟨kk, hkk⟩ := List.getElem?_of_mem hmem
    refine lv_iinc (x := x) X.1 X.2.1 hd hL.has hkk (by rw [hv]) (by omega) rfl (fun ls' h' => ?_)
    exact hK _ _ _ _ _ h (by rw [mPut_len]; exact hLn) hn hs ls' H locs (mLrel.put1 (v := .int (x + v)) X.2.2.2.2.1.fmt hL (by omega) rfl h') hR hS
  · exact h.elim
theorem ok_lstoreH {i : Nat} (ht : hl = true) (hd : decode cc pc = .ok (.lstore i, 2)) (hin : i + 1 < nL) : mOK cc own hl nL rt ini pc (mcStoreJH i (pc + 2)) := by
  intro w d p l e R s m args below meth c Q r n0 l0 hml hini X C hC K hK L S σ Y h hLn hn hs ls H locs hL hR hS
  unfold mcStoreJH at h
  split at h
  · rename_i x S'
    refine lv_lstore X.1 X.2.1 hd hL.has (by omega) rfl (fun ls' h' => ?_)
    exact hK _ _ _ _ _ h (by rw [mSet_len, mPut_len]; exact hLn) hn hs ls' H locs (mLrel.put2 (v := .long x) X.2.2.2.2.1.fmt ht hL (by omega) h') hR hS
  · exact h.elim
end OKS
