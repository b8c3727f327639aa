/-! arrays -/
theorem mTys_0 (w : mWd) : (mTys w)[0]? = some (wA w 20, .int) := rfl
theorem mTys_1 (w : mWd) : (mTys w)[1]? = some (wA w 21, .boolean) := rfl
theorem mTys_2 (w : mWd) : (mTys w)[2]? = some (wA w 22, .object RX6) := rfl
theorem mTys_3 (w : mWd) : (mTys w)[3]? = some (wA w 23, .object RX4) := rfl
theorem mES.K {w : mWd} {s : State} (h : mES w s) : va_K (wD w) vwCl (mTys w) s := h.1
theorem mES.T0 {w : mWd} {s : State} (h : mES w s) {a : Nat} (ha : a < 2) : va_T .int (mRho w a) (wK w a).2 (fun j => .int (wC w a j)) (mSet0 w) s s.heap := by
  rcases (show a = 0 ∨ a = 1 by omega) with rfl | rfl
  · exact h.2.2.1
  · exact h.2.2.2.1
theorem mES.str {w : mWd} {s : State} (h : mES w s) : vk_S 2 [38, 55] [mBt0, mBt1] (fun i => wR w (2 + i)) (fun i => wR w (4 + i)) (mSet0 w) s s.heap := h.2.2.2.2.2.2.2.1
theorem mES.T4 {w : mWd} {s : State} (h : mES w s) {a : Nat} (ha : a = 4 ∨ a = 5) : va_T .byte (mRho w a) (wK w a).2 (fun j => .int (wC w a j)) (mSet0 w) s s.heap := by
  have hs := h.str
  obtain ⟨-, -, -, -, -, -, -, -, -, -, -, -, -, -, -, -, -, -, k4, k5, b4, b5, -⟩ := h
  rcases ha with rfl | rfl
  · have := (hs.1 0 (by decide)).2.2.2
    rw [k4]
    have e : (fun j => Value.int (wC w 4 j)) = (fun j => Value.int ((([mBt0, mBt1] : List (List Int32)).getD 0 []).getD j 0)) := by funext j; rw [b4]; rfl
    rw [e]; exact this
  · have := (hs.1 1 (by decide)).2.2.2
    rw [k5]
    have e : (fun j => Value.int (wC w 5 j)) = (fun j => Value.int ((([mBt0, mBt1] : List (List Int32)).getD 1 []).getD j 0)) := by funext j; rw [b5]; rfl
    rw [e]; exact this
section OKS
variable {cc : ByteArray} {own : String} {hl : Bool} {nL : Nat} {rt : Option FieldType} {ini : Bool} {pc : Nat}
theorem ok_iald (hd : decode cc pc = .ok (.iaload, 1)) : mOK cc own hl nL rt ini pc (mcIald (pc + 1)) := by
  intro w d p l e R s m args below meth c Q r n0 l0 hml hini X C' hC K hK L S σ Y h hLn hn hs ls H locs hL hR hS
  have hE := X.2.2.2.2.1
  unfold mcIald at h
  split at h
  · rename_i i a S'
    split at h
    · rename_i hkd
      have hat := mRep.at hE hR hkd (by omega)
      rw [mE_int hkd (by omega) (by omega)] at hat
      exact va_iald X.1 X.2.1 hE.K (va_P.one hat) 0 0 rfl (mTys_0 w) (mInb_in h.1) hd (hK _ _ _ _ _ h.2 hLn hn hs ls H locs hL hR hS)
    · split at h
      · rename_i ha
        have h6 : LT.lt (α := Nat) a 6 := Nat.lt_of_lt_of_le ha (by decide)
        have e1 := hR.2.2.2.1 a h6
        have e2 := hR.2.2.1 a i.toNatClampNeg h6
        refine va_ti X.1 X.2.1 (hE.T0 ha) hS (by rw [← e1]; exact mInb_in h.1) (v := .int (σ.1 a i.toNatClampNeg)) (by rw [e2]) hd (hK _ _ _ _ _ h.2 hLn hn hs ls H locs hL hR hS)
      · exact h.elim
  · exact h.elim
theorem ok_bald (hd : decode cc pc = .ok (.baload, 1)) : mOK cc own hl nL rt ini pc (mcBald (pc + 1)) := by
  intro w d p l e R s m args below meth c Q r n0 l0 hml hini X C' hC K hK L S σ Y h hLn hn hs ls H locs hL hR hS
  have hE := X.2.2.2.2.1
  unfold mcBald at h
  split at h
  · rename_i i a S'
    split at h
    · rename_i hkd
      have hat := mRep.at hE hR hkd (by omega)
      rw [mE_int hkd (by omega) (by omega)] at hat
      exact va_zald X.1 X.2.1 hE.K (va_P.one hat) 0 1 rfl (mTys_1 w) (mInb_in h.1) hd (hK _ _ _ _ _ h.2 hLn hn hs ls H locs hL hR hS)
    · split at h
      · rename_i ha
        have h6 : LT.lt (α := Nat) a 6 := by rcases ha with rfl | rfl <;> decide
        have e1 := hR.2.2.2.1 a h6
        have e2 := hR.2.2.1 a i.toNatClampNeg h6
        refine va_tb X.1 X.2.1 (hE.T4 ha) hS (by rw [← e1]; exact mInb_in h.1) (v := .int (σ.1 a i.toNatClampNeg)) (by rw [e2]) hd (hK _ _ _ _ _ h.2 hLn hn hs ls H locs hL hR hS)
      · exact h.elim
  · exact h.elim
theorem ok_alen (hd : decode cc pc = .ok (.arraylength, 1)) : mOK cc own hl nL rt ini pc (mcAlen (pc + 1)) := by
  intro w d p l e R s m args below meth c Q r n0 l0 hml hini X C' hC K hK L S σ Y h hLn hn hs ls H locs hL hR hS
  have hE := X.2.2.2.2.1
  unfold mcAlen at h
  split at h
  · rename_i a S'
    split at h
    · rename_i hkd
      obtain ⟨k1, k2⟩ := hkd
      have hat := mRep.at (a := a) hE hR rfl (by omega)
      have hg := hK _ _ _ _ _ h hLn hn hs ls H locs hL hR hS
      rcases (show (mKl Y a).1 = 20 ∨ (mKl Y a).1 = 21 ∨ (mKl Y a).1 = 22 ∨ (mKl Y a).1 = 23 by omega) with q | q | q | q
      · rw [mE_int q (by omega) (by omega)] at hat
        exact va_alen X.1 X.2.1 hE.K (va_P.one hat) 0 0 rfl (mTys_0 w) rfl hd hg
      · rw [mE_int q (by omega) (by omega)] at hat
        exact va_alen X.1 X.2.1 hE.K (va_P.one hat) 0 1 rfl (mTys_1 w) rfl hd hg
      · rw [mE_ref q (by omega)] at hat
        exact va_alen X.1 X.2.1 hE.K (va_P.one hat) 0 2 rfl (mTys_2 w) rfl hd hg
      · rw [mE_ref q (by omega)] at hat
        exact va_alen X.1 X.2.1 hE.K (va_P.one hat) 0 3 rfl (mTys_3 w) rfl hd hg
    · split at h
      · rename_i ha
        have e1 := hR.2.2.2.1 a (Nat.lt_of_lt_of_le ha (by decide))
        exact va_tlen X.1 X.2.1 (hE.T0 ha) hS (by rw [e1]) hd (hK _ _ _ _ _ h hLn hn hs ls H locs hL hR hS)
      · split at h
        · rename_i ha
          have e1 := hR.2.2.2.1 a (by rcases ha with rfl | rfl <;> decide)
          exact va_tlen X.1 X.2.1 (hE.T4 ha) hS (by rw [e1]) hd (hK _ _ _ _ _ h hLn hn hs ls H locs hL hR hS)
        · exact h.elim
  · exact h.elim
theorem mUp_row {f : Nat → Nat → Int32} {a i : Nat} {v : Int32} : mUp f a i v a = upd (f a) i v := by
  funext j
  simp [mUp, upd]
theorem mRep.arr {w : mWd} {σ : mSG} {Y : mLY} {H H1 : Heap} {a k : Nat} {g : Nat → Int32} (hR : mRep w σ Y H) (ha : 6 ≤ a) (hkd : (mKl Y a).1 = k) (hk1 : 20 ≤ k) (hk2 : k < 22) (hz : H1.size = H.size) (hq : ∀ q, q ≠ mRho w a → H1[q]? = H[q]?) (hv : H1[mRho w a]? = some (vp_cell (wA w k) ((mKl Y a).2, .inl g))) {σ' : mSG} (h1 : σ'.1 a = g) (h2 : ∀ b, b ≠ a → σ'.1 b = σ.1 b) (h3 : σ'.2 = σ.2) : mRep w σ' Y H1 := by
  refine hR.upd ha hz hq ?_ (fun b hb => mE_congr (h2 b hb) (by rw [h3]) (by rw [h3]) rfl rfl) (fun b j hb => by rw [h2 b hb]) rfl (fun _ => rfl)
  rw [mE_int hkd hk1 hk2, h1]
  exact hv
theorem ok_iast (hd : decode cc pc = .ok (.iastore, 1)) : mOK cc own hl nL rt ini pc (mcIast (pc + 1)) := by
  intro w d p l e R s m args below meth c Q r n0 l0 hml hini X C' hC K hK L S σ Y h hLn hn hs ls H locs hL hR hS
  have hE := X.2.2.2.2.1
  unfold mcIast at h
  split at h
  · rename_i x i a S'
    split at h
    · rename_i hkd
      obtain ⟨hi, h⟩ := h
      have hha := mRep.here hE hR hkd (by omega)
      have hat := mRep.at hE hR hkd (by omega)
      rw [mE_int hkd (by omega) (by omega)] at hat
      refine W.iast X.1 X.2.1 hat ((hE.K.2 0 _ (mTys_0 w)).1 _ (fun j => .int (σ.1 a j))) (fun q => by cases q) (by show ¬ (i < 0 ∨ (arrV _ _ _).slots.size ≤ _); rw [arrV_size]; exact mInb_in hi) rfl rfl hd fun H1 e1 z oq => ?_
      refine hK _ _ _ _ _ h hLn hn hs ls H1 _ hL (hR.arr hha.1 hkd (by omega) (by omega) z oq ?_ mUp_row (fun b hb => mUp_ne hb) rfl) (hS.put z oq (mRho_in hha.1))
      rw [e1, vp_cell_i, vp_cell_i, arrV_store]
      congr 2
      funext q
      by_cases hq : q = i.toNatClampNeg
      · subst hq; simp [updV, upd]
      · simp [updV, upd, hq]
    · exact h.elim
  · exact h.elim
theorem ok_zast (hd : decode cc pc = .ok (.bastore, 1)) : mOK cc own hl nL rt ini pc (mcZast (pc + 1)) := by
  intro w d p l e R s m args below meth c Q r n0 l0 hml hini X C' hC K hK L S σ Y h hLn hn hs ls H locs hL hR hS
  have hE := X.2.2.2.2.1
  unfold mcZast at h
  split at h
  · rename_i x i a S'
    split at h
    · rename_i hkd
      obtain ⟨hi, hx, h⟩ := h
      have hha := mRep.here hE hR hkd (by omega)
      have hat := mRep.at hE hR hkd (by omega)
      have hxn : narrow .boolean (.int x) = .int x := by rcases hx with rfl | rfl <;> decide
      rw [mE_int hkd (by omega) (by omega)] at hat
      refine W.zast X.1 X.2.1 hat ((hE.K.2 1 _ (mTys_1 w)).1 _ (fun j => .int (σ.1 a j))) (fun q => by cases q) (by show ¬ (i < 0 ∨ (arrV _ _ _).slots.size ≤ _); rw [arrV_size]; exact mInb_in hi) rfl rfl hd fun H1 e1 z oq => ?_
      refine hK _ _ _ _ _ h hLn hn hs ls H1 _ hL (hR.arr hha.1 hkd (by omega) (by omega) z oq ?_ mUp_row (fun b hb => mUp_ne hb) rfl) (hS.put z oq (mRho_in hha.1))
      rw [e1, vp_cell_i, vp_cell_i, arrV_store]
      congr 2
      funext q
      by_cases hq : q = i.toNatClampNeg
      · subst hq; simp [updV, upd, hxn]
      · simp [updV, upd, hq]
    · exact h.elim
  · exact h.elim
theorem ok_aald (hd : decode cc pc = .ok (.aaload, 1)) : mOK cc own hl nL rt ini pc (mcAald (pc + 1)) := by
  intro w d p l e R s m args below meth c Q r n0 l0 hml hini X C' hC K hK L S σ Y h hLn hn hs ls H locs hL hR hS
  have hE := X.2.2.2.2.1
  unfold mcAald at h
  split at h
  · rename_i i a S'
    split at h
    · rename_i hkd
      obtain ⟨hi, h⟩ := h
      have hat := mRep.at hE hR hkd (by omega)
      rw [mE_ref hkd (by omega)] at hat
      split at h
      · rename_i b hb
        refine va_aldq X.1 X.2.1 hE.K (va_P.one hat) 0 2 rfl (mTys_2 w) (mInb_in hi) hd ?_
        rw [hb]
        exact hK _ _ _ _ _ h hLn hn hs ls H locs hL hR hS
      · exact h.elim
    · split at h
      · rename_i hkd
        obtain ⟨hi, h⟩ := h
        have hat := mRep.at hE hR hkd (by omega)
        rw [mE_ref hkd (by omega)] at hat
        split at h
        · rename_i b hb
          refine va_aldq X.1 X.2.1 hE.K (va_P.one hat) 0 3 rfl (mTys_3 w) (mInb_in hi) hd ?_
          rw [hb]
          exact hK _ _ _ _ _ h hLn hn hs ls H locs hL hR hS
        · exact h.elim
      · exact h.elim
  · exact h.elim
end OKS
section AST
variable {p : Program} {l : Launch} {e : Env} {R : Room} {s : State} {m : MethodId} {args : Array Value} {below : List Frame} {meth : Method} {c : Code} {H : Heap} {locs : List Loc} {cells slots : Nat} {Q : State → Prop}
variable {cc : ByteArray} {pc : Nat} {ls : Array Slot} {rest : List Value}
/-- an object into an array of its class -/
theorem m_aast (hx : p.tables.exec = Jvm.exec) (hb : c.code = cc) {w : mWd} {σ : mSG} {Y : mLY} {a b k kb t0 : Nat} {i : Int32} {r : vw_C} (hE : mES w s) (hR : mRep w σ Y H) (hS : va_S (mSet0 w) s.heap H locs) (hka : (mKl Y a).1 = k) (hk1 : 22 ≤ k) (hk2 : k < 24) (hkb : (mKl Y b).1 = kb) (hkb2 : kb < 20) (hc : vwCl[kb]? = some r) (ht : (mTys w)[t0]? = some (wA w k, .object r.1)) (hin : vp_in i (mKl Y a).2) (hd : decode cc pc = .ok (.aastore, 1))
    (kk : ∀ (H1 : Heap) (locs1 : List Loc), mRep w (σ.1, mUp σ.2.1 a i.toNatClampNeg (some b), σ.2.2) Y H1 → va_S (mSet0 w) s.heap H1 locs1 → W p l e R s m args below meth c H1 locs1 cells slots Q (F0 m (pc + 1) ls rest)) : W p l e R s m args below meth c H locs cells slots Q (F0 m pc ls (.ref (mRho w b) :: .int i :: .ref (mRho w a) :: rest)) := by
  have hha := mRep.here hE hR hka (by omega)
  have hat := mRep.at hE hR hka (by omega)
  rw [mE_ref hka hk1] at hat
  have hbt := mRep.at hE hR hkb (by omega)
  rw [mE_obj hkb hkb2] at hbt
  have hlt : i.toNatClampNeg < (mKl Y a).2 := Nat.not_le.mp fun q => hin (Or.inr q)
  have h0 : ¬ i < 0 := fun q => hin (Or.inl q)
  obtain ⟨r', hr', cellV, g1, g2, g3, -⟩ := hbt
  have hcls := (hE.K.1 kb r hc).2
  obtain ⟨kA, comp, k1, k2, k3, -⟩ := (hE.K.2 t0 _ ht).2
  have hcomp : comp = (wD w).1 kb := Option.some.inj (k3.symm.trans hcls.1)
  subst hcomp
  obtain ⟨kC, hkC, -⟩ := hcls.2
  refine W.aast hx hb hat (fun q h => by cases h) (fun h => by cases h) k1 k2 rfl hkC ⟨h0, by show _ < (arrV _ _ _).slots.size; rw [arrV_size]; exact hlt⟩ g1 (fun q h => by rw [g3] at h; cases h) (by rw [g2]; exact hkC) (by rw [g2]; exact va_assign hcls) rfl rfl hd fun H1 e1 z oq => ?_
  refine kk H1 _ (hR.upd hha.1 z oq ?_ (fun b' hb' => mE_congr rfl (mUp_ne hb') rfl rfl rfl) (fun _ _ _ => rfl) rfl (fun _ => rfl)) (hS.put z oq (mRho_in hha.1))
  rw [mE_ref hka hk1]
  show H1[mRho w a]? = some (vp_cell _ _)
  rw [e1, vp_cell_q, vp_cell_q, arrV_store]
  congr 2
  funext q
  by_cases hq : q = i.toNatClampNeg
  · subst hq
    simp [updV, mUp, va_rf]
  · simp [updV, mUp, hq]
end AST
section OKS
variable {cc : ByteArray} {own : String} {hl : Bool} {nL : Nat} {rt : Option FieldType} {ini : Bool} {pc : Nat}
theorem ok_aast (hd : decode cc pc = .ok (.aastore, 1)) : mOK cc own hl nL rt ini pc (mcAast (pc + 1)) := by
  intro w d p l e R s m args below meth c Q r n0 l0 hml hini X C' hC K hK L S σ Y h hLn hn hs ls H locs hL hR hS
  have hE := X.2.2.2.2.1
  unfold mcAast at h
  split at h
  · rename_i b i a S'
    split at h
    · rename_i hka
      split at h
      · rename_i hkb
        exact m_aast X.1 X.2.1 hE hR hS hka (by omega) (by omega) hkb (by omega) (r := (RX6, TX6, 2)) rfl (mTys_2 w) (mInb_in h.1) hd (fun H1 locs1 hR1 hS1 => hK _ _ _ _ _ h.2 hLn hn hs ls H1 locs1 hL hR1 hS1)
      · exact h.elim
    · split at h
      · rename_i hka
        split at h
        · rename_i hkb
          exact m_aast X.1 X.2.1 hE hR hS hka (by omega) (by omega) hkb (by omega) (r := (RX4, TX4, 3)) rfl (mTys_3 w) (mInb_in h.1) hd (fun H1 locs1 hR1 hS1 => hK _ _ _ _ _ h.2 hLn hn hs ls H1 locs1 hL hR1 hS1)
        · exact h.elim
      · exact h.elim
  · exact h.elim
end OKS
