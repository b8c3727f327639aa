/-! fields -/
def mCl (ci : Nat) (C : String) (T : u_T) (N : Nat) (ty : Nat → FieldType) : Prop := vwCl[ci]? = some (C, T, N) ∧ (∀ x ∈ u_ws C T N, x ∈ mGW) ∧ (∀ k, k < N → parseFieldDescriptor (T k).2.2.1 = some (ty k)) ∧ (∀ a, a < N → ∀ b, b < N → a ≠ b → (T a).2.1 ≠ (T b).2.1) ∧ mNf ci = N ∧ ci < 20
theorem mES.kinds {w : mWd} {s : State} (h : mES w s) {a : Nat} (ha : a < 6) : 30 ≤ (wK w a).1 ∧ (wK w a).1 < 33 := by
  obtain ⟨-, -, -, -, -, -, -, -, -, -, -, -, -, -, h0, h1, h2, h3, h4, h5, -⟩ := h
  rcases (show a = 0 ∨ a = 1 ∨ a = 2 ∨ a = 3 ∨ a = 4 ∨ a = 5 by omega) with rfl | rfl | rfl | rfl | rfl | rfl
  · rw [h0]; omega
  · rw [h1]; exact ⟨by decide, by decide⟩
  · rw [h2]; exact ⟨by decide, by decide⟩
  · rw [h3]; exact ⟨by decide, by decide⟩
  · rw [h4]; exact ⟨by decide, by decide⟩
  · rw [h5]; exact ⟨by decide, by decide⟩
theorem mRep.here {w : mWd} {s : State} {σ : mSG} {Y : mLY} {H : Heap} {a k : Nat} (hE : mES w s) (hR : mRep w σ Y H) (hk : (mKl Y a).1 = k) (hc : k < 30) : 6 ≤ a ∧ a < Y.1 := by
  obtain ⟨-, -, -, h1, h2, -⟩ := hR
  constructor
  · rcases Nat.lt_or_ge a 6 with q | q
    · have := (hE.kinds q).1
      rw [← h1 a q, hk] at this
      omega
    · exact q
  · rcases Nat.lt_or_ge a Y.1 with q | q
    · exact q
    · have := h2 a q
      omega
theorem mRep.at {w : mWd} {s : State} {σ : mSG} {Y : mLY} {H : Heap} {a k : Nat} (hE : mES w s) (hR : mRep w σ Y H) (hk : (mKl Y a).1 = k) (hc : k < 30) : va_at (wD w) vwCl (mRho w a, mE w σ Y a) H := hR.2.2.2.2.2 a (mRep.here hE hR hk hc).1 (mRep.here hE hR hk hc).2
theorem mE_obj {w : mWd} {σ : mSG} {Y : mLY} {a k : Nat} (hk : (mKl Y a).1 = k) (hc : k < 20) : mE w σ Y a = .inr (k, mFs w σ Y a k) := by
  unfold mE
  rw [hk, if_pos hc]
theorem mE_int {w : mWd} {σ : mSG} {Y : mLY} {a k : Nat} (hk : (mKl Y a).1 = k) (hc : 20 ≤ k) (hc2 : k < 22) : mE w σ Y a = .inl (wA w k, (mKl Y a).2, .inl (σ.1 a)) := by
  unfold mE
  rw [hk, if_neg (by omega), if_pos hc2]
theorem mE_ref {w : mWd} {σ : mSG} {Y : mLY} {a k : Nat} (hk : (mKl Y a).1 = k) (hc : 22 ≤ k) : mE w σ Y a = .inl (wA w k, (mKl Y a).2, .inr (.inr (.inr (.inr (fun i => (σ.2.1 a i).map (mRho w)))))) := by
  unfold mE
  rw [hk, if_neg (by omega), if_neg (by omega)]
theorem mUp_ne {α : Type} {f : Nat → Nat → α} {a b i : Nat} {v : α} (h : b ≠ a) : mUp f a i v b = f b := by
  funext j
  simp [mUp, h]
theorem mUr_ne {α : Type} {f : Nat → Nat → α} {a b : Nat} {g : Nat → α} (h : b ≠ a) : mUr f a g b = f b := by simp [mUr, h]
theorem mUr_eq {α : Type} {f : Nat → Nat → α} {a : Nat} {g : Nat → α} : mUr f a g a = g := by simp [mUr]
theorem mE_congr {w : mWd} {σ σ' : mSG} {Y Y' : mLY} {b : Nat} (h1 : σ'.1 b = σ.1 b) (h2 : σ'.2.1 b = σ.2.1 b) (h3 : σ'.2.2 b = σ.2.2 b) (h4 : mKl Y' b = mKl Y b) (h5 : Y'.2.2.2 b = Y.2.2.2 b) : mE w σ' Y' b = mE w σ Y b := by
  have hf : ∀ c, mFs w σ' Y' b c = mFs w σ Y b c := by
    intro c
    unfold mFs
    refine List.map_congr_left (fun k _ => ?_)
    unfold mFld mRf
    rw [h1, h2, h3, h5]
  unfold mE
  rw [h4, h1, h2, hf]
theorem mFld_congr {w : mWd} {σ σ' : mSG} {Y Y' : mLY} {a c i : Nat} (h1 : σ'.1 a i = σ.1 a i) (h2 : σ'.2.1 a i = σ.2.1 a i) (h3 : σ'.2.2 a i = σ.2.2 a i) (h4 : mRf Y' a i = mRf Y a i) : mFld w σ' Y' a c i = mFld w σ Y a c i := by
  unfold mFld
  rw [h1, h2, h3, h4]
theorem mFld_0 {w : mWd} {σ : mSG} {Y : mLY} {a c k : Nat} (h : mTag c k = 0) : mFld w σ Y a c k = .int (σ.1 a k) := by
  unfold mFld
  rw [h]
  rfl
theorem mFld_1 {w : mWd} {σ : mSG} {Y : mLY} {a c k : Nat} (h : mTag c k = 1) : mFld w σ Y a c k = .long (σ.2.2 a k) := by
  unfold mFld
  rw [h]
  rfl
theorem mFld_2 {w : mWd} {σ : mSG} {Y : mLY} {a c k : Nat} (h : mTag c k = 2) : mFld w σ Y a c k = va_rf ((mRf Y a k).map (mRho w)) := by
  unfold mFld
  rw [h]
  rfl
theorem mFld_3 {w : mWd} {σ : mSG} {Y : mLY} {a c k : Nat} (h : mTag c k = 3) : mFld w σ Y a c k = va_rf ((σ.2.1 a k).map (mRho w)) := by
  unfold mFld
  rw [h]
  rfl
theorem mUp_at {α : Type} {f : Nat → Nat → α} {a i : Nat} {v : α} : mUp f a i v a i = v := by simp [mUp]
theorem mUp_off {α : Type} {f : Nat → Nat → α} {a i j : Nat} {v : α} (h : j ≠ i) : mUp f a i v a j = f a j := by simp [mUp, h]
theorem mFs_get {w : mWd} {σ : mSG} {Y : mLY} {a c k : Nat} (h : k < mNf c) : (mFs w σ Y a c)[k]? = some (mFld w σ Y a c k) := by
  unfold mFs
  rw [List.getElem?_map, List.getElem?_range h]
  rfl
theorem mFs_len {w : mWd} {σ : mSG} {Y : mLY} {a c : Nat} : (mFs w σ Y a c).length = mNf c := by simp [mFs]
theorem mFs_set {w : mWd} {σ σ' : mSG} {Y Y' : mLY} {a c k : Nat} {v : Value} (h1 : ∀ i, i ≠ k → mFld w σ' Y' a c i = mFld w σ Y a c i) (h2 : mFld w σ' Y' a c k = v) : mFs w σ' Y' a c = (mFs w σ Y a c).set k v := by
  refine List.ext_getElem? (fun i => ?_)
  by_cases hi : i < mNf c
  · rw [mFs_get hi]
    by_cases e : i = k
    · subst e
      rw [List.getElem?_set_self (by rw [mFs_len]; exact hi), h2]
    · rw [List.getElem?_set_ne (Ne.symm e), mFs_get hi, h1 i e]
  · rw [List.getElem?_eq_none (by rw [mFs_len]; omega), List.getElem?_eq_none (by rw [List.length_set, mFs_len]; omega)]
theorem va_P.one {D : va_G} {cl : List vw_C} {q : Nat × va_E} {H : Heap} (h : va_at D cl q H) : va_P D cl [q] H := by
  intro k x hx
  cases k with
  | zero => cases hx; exact h
  | succ k => simp at hx
theorem mRep.upd {w : mWd} {σ σ' : mSG} {Y Y' : mLY} {H H1 : Heap} {a : Nat} (hR : mRep w σ Y H) (ha : 6 ≤ a) (hz : H1.size = H.size) (hq : ∀ q, q ≠ mRho w a → H1[q]? = H[q]?) (hv : va_at (wD w) vwCl (mRho w a, mE w σ' Y' a) H1)
    (ho : ∀ b, b ≠ a → mE w σ' Y' b = mE w σ Y b) (h6 : ∀ b j, b ≠ a → σ'.1 b j = σ.1 b j) (hy1 : Y'.1 = Y.1) (hy2 : ∀ b, mKl Y' b = mKl Y b) : mRep w σ' Y' H1 := by
  obtain ⟨r1, r2, r3, r4, r5, r6⟩ := hR
  refine ⟨by rw [hy1]; exact r1, by rw [hz, hy1]; exact r2, fun b j hb => by rw [h6 b j (by omega)]; exact r3 b j hb, fun b hb => by rw [hy2]; exact r4 b hb, fun b hb => by rw [hy2]; exact r5 b (by rw [← hy1]; exact hb), fun b hb hb2 => ?_⟩
  by_cases e : b = a
  · subst e; exact hv
  · rw [ho b e]
    exact (r6 b hb (by rw [← hy1]; exact hb2)).kept (hq _ (fun q => e (mRho_inj hb ha q)))
section OKS
variable {cc : ByteArray} {own : String} {hl : Bool} {nL : Nat} {rt : Option FieldType} {ini : Bool} {pc : Nat} {ci k idx N : Nat} {C : String} {T : u_T} {ty : Nat → FieldType}
theorem ok_getI (hcl : mCl ci C T N ty) (hk : k < N) (htg : mTag ci k = 0) (ho : (T k).1 = C) (hw : Cond.fieldLink own idx C (T k).2.1 (T k).2.2.1 ∈ mGW) (hd : decode cc pc = .ok (.getfield idx, 3)) : mOK cc own hl nL rt ini pc (mcGetI ci k (pc + 3)) := by
  intro w d p l e R s m args below meth c Q r n0 l0 hml hini X C' hC K hK L S σ Y h hLn hn hs ls H locs hL hR hS
  obtain ⟨c1, c2, c3, c4, c5, c6⟩ := hcl
  unfold mcGetI at h
  split at h
  · rename_i a S'
    split at h
    · rename_i hkd
      have hat := mRep.at X.2.2.2.2.1 hR hkd (by omega)
      rw [mE_obj hkd c6] at hat
      refine va_get (v := .int (σ.1 a k)) X.1 X.2.1 X.2.2.2.1 c2 X.2.2.1 X.2.2.2.2.1.1 (va_P.one hat) 0 rfl c1 k hk (X.2.2.2.1 _ hw) (fun x hx => by rw [ho] at hx; exact hx) ?_ hd (hK _ _ _ _ _ h hLn hn hs ls H locs hL hR hS)
      rw [mFs_get (by rw [c5]; exact hk)]
      rw [mFld_0 htg]
    · exact h.elim
  · exact h.elim
theorem ok_getJ (hcl : mCl ci C T N ty) (hk : k < N) (htg : mTag ci k = 1) (ho : (T k).1 = C) (hw : Cond.fieldLink own idx C (T k).2.1 (T k).2.2.1 ∈ mGW) (hd : decode cc pc = .ok (.getfield idx, 3)) : mOK cc own hl nL rt ini pc (mcGetJ ci k (pc + 3)) := by
  intro w d p l e R s m args below meth c Q r n0 l0 hml hini X C' hC K hK L S σ Y h hLn hn hs ls H locs hL hR hS
  obtain ⟨c1, c2, c3, c4, c5, c6⟩ := hcl
  unfold mcGetJ at h
  split at h
  · rename_i a S'
    split at h
    · rename_i hkd
      have hat := mRep.at X.2.2.2.2.1 hR hkd (by omega)
      rw [mE_obj hkd c6] at hat
      refine va_get (v := .long (σ.2.2 a k)) X.1 X.2.1 X.2.2.2.1 c2 X.2.2.1 X.2.2.2.2.1.1 (va_P.one hat) 0 rfl c1 k hk (X.2.2.2.1 _ hw) (fun x hx => by rw [ho] at hx; exact hx) ?_ hd (hK _ _ _ _ _ h hLn hn hs ls H locs hL hR hS)
      rw [mFs_get (by rw [c5]; exact hk)]
      rw [mFld_1 htg]
    · exact h.elim
  · exact h.elim
theorem ok_getF (hcl : mCl ci C T N ty) (hk : k < N) (htg : mTag ci k = 2) (ho : (T k).1 = C) (hw : Cond.fieldLink own idx C (T k).2.1 (T k).2.2.1 ∈ mGW) (hd : decode cc pc = .ok (.getfield idx, 3)) : mOK cc own hl nL rt ini pc (mcGetF ci k (pc + 3)) := by
  intro w d p l e R s m args below meth c Q r n0 l0 hml hini X C' hC K hK L S σ Y h hLn hn hs ls H locs hL hR hS
  obtain ⟨c1, c2, c3, c4, c5, c6⟩ := hcl
  unfold mcGetF at h
  split at h
  · rename_i a S'
    split at h
    · rename_i hkd
      have hat := mRep.at X.2.2.2.2.1 hR hkd (by omega)
      rw [mE_obj hkd c6] at hat
      split at h
      · rename_i b hb
        refine va_get (v := .ref (mRho w b)) X.1 X.2.1 X.2.2.2.1 c2 X.2.2.1 X.2.2.2.2.1.1 (va_P.one hat) 0 rfl c1 k hk (X.2.2.2.1 _ hw) (fun x hx => by rw [ho] at hx; exact hx) ?_ hd (hK _ _ _ _ _ h hLn hn hs ls H locs hL hR hS)
        rw [mFs_get (by rw [c5]; exact hk)]
        rw [mFld_2 htg, hb]; rfl
      · exact h.elim
    · exact h.elim
  · exact h.elim
theorem ok_getQ (hcl : mCl ci C T N ty) (hk : k < N) (htg : mTag ci k = 3) (ho : (T k).1 = C) (hw : Cond.fieldLink own idx C (T k).2.1 (T k).2.2.1 ∈ mGW) (hd : decode cc pc = .ok (.getfield idx, 3)) : mOK cc own hl nL rt ini pc (mcGetQ ci k (pc + 3)) := by
  intro w d p l e R s m args below meth c Q r n0 l0 hml hini X C' hC K hK L S σ Y h hLn hn hs ls H locs hL hR hS
  obtain ⟨c1, c2, c3, c4, c5, c6⟩ := hcl
  unfold mcGetQ at h
  split at h
  · rename_i a S'
    split at h
    · rename_i hkd
      have hat := mRep.at X.2.2.2.2.1 hR hkd (by omega)
      rw [mE_obj hkd c6] at hat
      split at h
      · rename_i b hb
        refine va_get (v := .ref (mRho w b)) X.1 X.2.1 X.2.2.2.1 c2 X.2.2.1 X.2.2.2.2.1.1 (va_P.one hat) 0 rfl c1 k hk (X.2.2.2.1 _ hw) (fun x hx => by rw [ho] at hx; exact hx) ?_ hd (hK _ _ _ _ _ h hLn hn hs ls H locs hL hR hS)
        rw [mFs_get (by rw [c5]; exact hk)]
        rw [mFld_3 htg, hb]; rfl
      · rename_i hb
        refine va_get (v := .null) X.1 X.2.1 X.2.2.2.1 c2 X.2.2.1 X.2.2.2.2.1.1 (va_P.one hat) 0 rfl c1 k hk (X.2.2.2.1 _ hw) (fun x hx => by rw [ho] at hx; exact hx) ?_ hd (hK _ _ _ _ _ h hLn hn hs ls H locs hL hR hS)
        rw [mFs_get (by rw [c5]; exact hk)]
        rw [mFld_3 htg, hb]; rfl
    · exact h.elim
  · exact h.elim
end OKS
section PUT
variable {p : Program} {l : Launch} {e : Env} {R : Room} {s : State} {m : MethodId} {args : Array Value} {below : List Frame} {meth : Method} {c : Code} {H : Heap} {locs : List Loc} {cells slots : Nat} {Q : State → Prop}
variable {cc : ByteArray} {pc : Nat} {ls : Array Slot} {rest : List Value} {D : va_G} {a : Nat} {tys : List (ClassId × FieldType)}
/-- a field is written: the cell's new picture, and that no other cell changes -/
theorem m_put (hx : p.tables.exec = Jvm.exec) (hb : c.code = cc) {own C : String} {T : u_T} {N ci idx : Nat} {ty : Nat → FieldType} (hcl : mCl ci C T N ty) (hts : ∀ x ∈ mGW, x.before args s = true) (hown : s.vm.findClass own = some m.cls) (hK : va_K D vwCl tys s) {fs : List Value} (hat : va_at D vwCl (a, .inr (ci, fs)) H) (k : Nat) (hk : k < N)
    (hw : Cond.fieldLink own idx C (T k).2.1 (T k).2.2.1 ∈ mGW) (ho : (T k).1 = C) (hfin : (T k).2.2.2 = false ∨ ((T k).2.2.2 = true ∧ meth.name = "<init>" ∧ C = own)) {v : Value} (hn : narrow (ty k) v = v) (hfit : fits (ty k) v = true) (hl : k < fs.length) (hd : decode cc pc = .ok (.putfield idx, 3))
    (kk : ∀ (H1 : Heap) (i : Nat), va_at D vwCl (a, .inr (ci, fs.set k v)) H1 → H1.size = H.size → (∀ q, q ≠ a → H1[q]? = H[q]?) → W p l e R s m args below meth c H1 (locs ++ [⟨a, i⟩]) cells slots Q (F0 m (pc + 3) ls rest)) : W p l e R s m args below meth c H locs cells slots Q (F0 m pc ls (v :: .ref a :: rest)) := by
  obtain ⟨c1, c2, c3, c4, c5, c6⟩ := hcl
  have hap := va_apart (own := own) hts c2 ty c3 c4 hK c1
  obtain ⟨r, g1, cell, q1, q2, q3, q4⟩ := hat
  have hr : r = (C, T, N) := Option.some.inj (g1.symm.trans c1)
  subst hr
  obtain ⟨hS, hfc, kC, hkC, hkind⟩ := hK.1 ci _ c1
  obtain ⟨cf, kf, fi, f, hi, hsl⟩ := hS k hk
  have hst := (u_facts hfc hkC (u_lays hts c2 hk) hi).1
  have hlay := hts _ (c2 _ (u_in_lay hk))
  unfold u_lay at hlay
  have hlnk := hts _ hw
  have hi' : s.fieldFound? C (T k).2.1 (T k).2.2.1 = some (cf, kf, fi, f) := by rw [← ho]; exact hi
  have hfinal : ∀ (H' : Heap), H'[a]? = some (cell.setSlot f.slot v) → va_at D vwCl (a, .inr (ci, fs.set k v)) H' := by
    intro H' e1
    rw [hsl] at e1
    exact ⟨_, c1, t_OB.to (V := updV (vp_V fs) k v) ⟨_, e1, q2, q3, t_set q4 hap hk v⟩ (fun j _ => vp_updV_set hl v j)⟩
  rcases hfin with hfin | ⟨hfin, hin2, hC⟩
  · rw [if_neg (by rw [hfin]; decide)] at hlay
    have h6 := u_store hfc hkC hkind hlay hi (c3 k hk) hn hfit
    exact W.putK hx hb (f := f) ⟨hown, hlnk, ⟨_, _, _, hi'⟩, hst⟩ (by rw [q2]; exact h6) q1 q3 (by rw [hsl]; exact k2_hasslot (q4 k hk)) rfl rfl hd fun H' e1 e2 e3 => kk H' _ (hfinal H' e1) e2 e3
  · rw [if_pos hfin] at hlay
    have hcf : m.cls = cf := by
      obtain ⟨_, _, c', _, _, _, -, -, hf', -, -, -, hown2, -⟩ := Cond.laysFinal_spec hlay
      have e1 : c' = cf := by have := hi.symm.trans hf'; simp at this; exact this.1.symm
      rw [ho, hC] at hown2
      rw [← e1]; exact Option.some.inj (hown.symm.trans hown2)
    have h6 := u_fits hfc hkC hkind (Or.inr hlay) hi (c3 k hk) hn hfit
    exact W.putFinK hx hb hown hlnk hi' hst hcf hin2 (by rw [q2]; exact h6) q1 q3 (by rw [hsl]; exact k2_hasslot (q4 k hk)) rfl rfl hd fun H' e1 e2 e3 => kk H' _ (hfinal H' e1) e2 e3
end PUT
section OKS
variable {cc : ByteArray} {own : String} {hl : Bool} {nL : Nat} {rt : Option FieldType} {ini : Bool} {pc : Nat} {ci k idx N : Nat} {C : String} {T : u_T} {ty : Nat → FieldType}
theorem ok_putI (hcl : mCl ci C T N ty) (hk : k < N) (htg : mTag ci k = 0) (ho : (T k).1 = C) (hfin : (T k).2.2.2 = false) (hty : ty k = .int) (hw : Cond.fieldLink own idx C (T k).2.1 (T k).2.2.1 ∈ mGW) (hd : decode cc pc = .ok (.putfield idx, 3)) : mOK cc own hl nL rt ini pc (mcPutI ci k (pc + 3)) := by
  intro w d p l e R s m args below meth c Q r n0 l0 hml hini X C' hC K hK L S σ Y h hLn hn hs ls H locs hL hR hS
  unfold mcPutI at h
  split at h
  · rename_i x a S'
    split at h
    · rename_i hkd
      have c5 : mNf ci = N := hcl.2.2.2.2.1
      have c6 : ci < 20 := hcl.2.2.2.2.2
      have hat := mRep.at X.2.2.2.2.1 hR hkd (by omega)
      have hha := mRep.here X.2.2.2.2.1 hR hkd (by omega)
      rw [mE_obj hkd c6] at hat
      refine m_put (v := .int x) X.1 X.2.1 hcl X.2.2.2.1 X.2.2.1 X.2.2.2.2.1.1 hat k hk hw ho (Or.inl hfin) (by rw [hty]; rfl) (by rw [hty]; rfl) (by rw [mFs_len, c5]; exact hk) hd (fun H1 i g1 g2 g3 => ?_)
      refine hK _ _ _ _ _ h hLn hn hs ls H1 _ hL (hR.upd hha.1 g2 g3 ?_ (fun b hb => mE_congr (mUp_ne hb) rfl rfl rfl rfl) (fun b j hb => by simp [mUp, hb]) rfl (fun _ => rfl)) (hS.put g2 g3 (mRho_in hha.1))
      rw [mE_obj hkd c6, mFs_set (v := .int x) (k := k) (σ := σ) (Y := Y) (fun i hi => ?_) ?_]
      · exact g1
      · rw [mFld_0 htg]; exact congrArg _ mUp_at
      · exact mFld_congr (mUp_off hi) rfl rfl rfl
    · exact h.elim
  · exact h.elim
theorem ok_putZ (hcl : mCl ci C T N ty) (hk : k < N) (htg : mTag ci k = 0) (ho : (T k).1 = C) (hfin : (T k).2.2.2 = false) (hty : ty k = .boolean) (hw : Cond.fieldLink own idx C (T k).2.1 (T k).2.2.1 ∈ mGW) (hd : decode cc pc = .ok (.putfield idx, 3)) : mOK cc own hl nL rt ini pc (mcPutZ ci k (pc + 3)) := by
  intro w d p l e R s m args below meth c Q r n0 l0 hml hini X C' hC K hK L S σ Y h hLn hn hs ls H locs hL hR hS
  unfold mcPutZ at h
  split at h
  · rename_i x a S'
    split at h
    · rename_i hkd
      obtain ⟨hx, h⟩ := h
      have c5 : mNf ci = N := hcl.2.2.2.2.1
      have c6 : ci < 20 := hcl.2.2.2.2.2
      have hat := mRep.at X.2.2.2.2.1 hR hkd (by omega)
      have hha := mRep.here X.2.2.2.2.1 hR hkd (by omega)
      rw [mE_obj hkd c6] at hat
      refine m_put (v := .int x) X.1 X.2.1 hcl X.2.2.2.1 X.2.2.1 X.2.2.2.2.1.1 hat k hk hw ho (Or.inl hfin) (by rw [hty]; rcases hx with rfl | rfl <;> decide) (by rw [hty]; rcases hx with rfl | rfl <;> decide) (by rw [mFs_len, c5]; exact hk) hd (fun H1 i g1 g2 g3 => ?_)
      refine hK _ _ _ _ _ h hLn hn hs ls H1 _ hL (hR.upd hha.1 g2 g3 ?_ (fun b hb => mE_congr (mUp_ne hb) rfl rfl rfl rfl) (fun b j hb => by simp [mUp, hb]) rfl (fun _ => rfl)) (hS.put g2 g3 (mRho_in hha.1))
      rw [mE_obj hkd c6, mFs_set (v := .int x) (k := k) (σ := σ) (Y := Y) (fun i hi => ?_) ?_]
      · exact g1
      · rw [mFld_0 htg]; exact congrArg _ mUp_at
      · exact mFld_congr (mUp_off hi) rfl rfl rfl
    · exact h.elim
  · exact h.elim
theorem ok_putJ (hcl : mCl ci C T N ty) (hk : k < N) (htg : mTag ci k = 1) (ho : (T k).1 = C) (hfin : (T k).2.2.2 = false) (hty : ty k = .long) (hw : Cond.fieldLink own idx C (T k).2.1 (T k).2.2.1 ∈ mGW) (hd : decode cc pc = .ok (.putfield idx, 3)) : mOK cc own hl nL rt ini pc (mcPutJ ci k (pc + 3)) := by
  intro w d p l e R s m args below meth c Q r n0 l0 hml hini X C' hC K hK L S σ Y h hLn hn hs ls H locs hL hR hS
  unfold mcPutJ at h
  split at h
  · rename_i x a S'
    split at h
    · rename_i hkd
      have c5 : mNf ci = N := hcl.2.2.2.2.1
      have c6 : ci < 20 := hcl.2.2.2.2.2
      have hat := mRep.at X.2.2.2.2.1 hR hkd (by omega)
      have hha := mRep.here X.2.2.2.2.1 hR hkd (by omega)
      rw [mE_obj hkd c6] at hat
      refine m_put (v := .long x) X.1 X.2.1 hcl X.2.2.2.1 X.2.2.1 X.2.2.2.2.1.1 hat k hk hw ho (Or.inl hfin) (by rw [hty]; rfl) (by rw [hty]; rfl) (by rw [mFs_len, c5]; exact hk) hd (fun H1 i g1 g2 g3 => ?_)
      refine hK _ _ _ _ _ h hLn hn hs ls H1 _ hL (hR.upd hha.1 g2 g3 ?_ (fun b hb => mE_congr rfl rfl (mUp_ne hb) rfl rfl) (fun b j hb => rfl) rfl (fun _ => rfl)) (hS.put g2 g3 (mRho_in hha.1))
      rw [mE_obj hkd c6, mFs_set (v := .long x) (k := k) (σ := σ) (Y := Y) (fun i hi => ?_) ?_]
      · exact g1
      · rw [mFld_1 htg]; exact congrArg _ mUp_at
      · exact mFld_congr rfl rfl (mUp_off hi) rfl
    · exact h.elim
  · exact h.elim
theorem ok_putQ (hcl : mCl ci C T N ty) (hk : k < N) (htg : mTag ci k = 3) (ho : (T k).1 = C) (hfin : (T k).2.2.2 = false) (hty : (∃ n, ty k = .object n) ∨ ∃ t, ty k = .array t) (hw : Cond.fieldLink own idx C (T k).2.1 (T k).2.2.1 ∈ mGW) (hd : decode cc pc = .ok (.putfield idx, 3)) : mOK cc own hl nL rt ini pc (mcPutQ ci k (pc + 3)) := by
  intro w d p l e R s m args below meth c Q r n0 l0 hml hini X C' hC K hK L S σ Y h hLn hn hs ls H locs hL hR hS
  unfold mcPutQ at h
  split at h
  · rename_i x a S'
    split at h
    · rename_i hkd
      have c5 : mNf ci = N := hcl.2.2.2.2.1
      have c6 : ci < 20 := hcl.2.2.2.2.2
      have hat := mRep.at X.2.2.2.2.1 hR hkd (by omega)
      have hha := mRep.here X.2.2.2.2.1 hR hkd (by omega)
      rw [mE_obj hkd c6] at hat
      refine m_put (v := .ref (mRho w x)) X.1 X.2.1 hcl X.2.2.2.1 X.2.2.1 X.2.2.2.2.1.1 hat k hk hw ho (Or.inl hfin) (by rcases hty with ⟨n, q⟩ | ⟨n, q⟩ <;> rw [q] <;> rfl) (by rcases hty with ⟨n, q⟩ | ⟨n, q⟩ <;> rw [q] <;> rfl) (by rw [mFs_len, c5]; exact hk) hd (fun H1 i g1 g2 g3 => ?_)
      refine hK _ _ _ _ _ h hLn hn hs ls H1 _ hL (hR.upd hha.1 g2 g3 ?_ (fun b hb => mE_congr rfl (mUp_ne hb) rfl rfl rfl) (fun b j hb => rfl) rfl (fun _ => rfl)) (hS.put g2 g3 (mRho_in hha.1))
      rw [mE_obj hkd c6, mFs_set (v := .ref (mRho w x)) (k := k) (σ := σ) (Y := Y) (fun i hi => ?_) ?_]
      · exact g1
      · rw [mFld_3 htg]; show va_rf ((mUp σ.2.1 a k (some x) a k).map (mRho w)) = _; rw [mUp_at]; rfl
      · exact mFld_congr rfl (mUp_off hi) rfl rfl
    · exact h.elim
  · exact h.elim
theorem ok_putF (hi0 : ini = true) (hcl : mCl ci C T N ty) (hk : k < N) (htg : mTag ci k = 2) (ho : (T k).1 = C) (hfin : (T k).2.2.2 = true) (hCo : C = own) (hty : (∃ n, ty k = .object n) ∨ ∃ t, ty k = .array t) (hw : Cond.fieldLink own idx C (T k).2.1 (T k).2.2.1 ∈ mGW) (hd : decode cc pc = .ok (.putfield idx, 3)) : mOK cc own hl nL rt ini pc (mcPutF ci k (pc + 3)) := by
  intro w d p l e R s m args below meth c Q r n0 l0 hml hini X C' hC K hK L S σ Y h hLn hn hs ls H locs hL hR hS
  unfold mcPutF at h
  split at h
  · rename_i x a S'
    split at h
    · rename_i hkd
      have c5 : mNf ci = N := hcl.2.2.2.2.1
      have c6 : ci < 20 := hcl.2.2.2.2.2
      have hat := mRep.at X.2.2.2.2.1 hR hkd (by omega)
      have hha := mRep.here X.2.2.2.2.1 hR hkd (by omega)
      rw [mE_obj hkd c6] at hat
      refine m_put (v := .ref (mRho w x)) X.1 X.2.1 hcl X.2.2.2.1 X.2.2.1 X.2.2.2.2.1.1 hat k hk hw ho (Or.inr ⟨hfin, hini hi0, hCo⟩) (by rcases hty with ⟨n, q⟩ | ⟨n, q⟩ <;> rw [q] <;> rfl) (by rcases hty with ⟨n, q⟩ | ⟨n, q⟩ <;> rw [q] <;> rfl) (by rw [mFs_len, c5]; exact hk) hd (fun H1 i g1 g2 g3 => ?_)
      have hkd' : (mKl (mSetF Y a k x) a).1 = ci := hkd
      refine hK _ _ _ _ _ h hLn hn hs ls H1 _ hL (hR.upd (Y' := mSetF Y a k x) hha.1 g2 g3 ?_ (fun b hb => mE_congr rfl rfl rfl rfl (mUp_ne hb)) (fun b j hb => rfl) rfl (fun _ => rfl)) (hS.put g2 g3 (mRho_in hha.1))
      rw [mE_obj hkd' c6, mFs_set (v := .ref (mRho w x)) (k := k) (σ := σ) (Y := Y) (fun i hi => ?_) ?_]
      · exact g1
      · rw [mFld_2 htg]; show va_rf ((mUp Y.2.2.2 a k (some x) a k).map (mRho w)) = _; rw [mUp_at]; rfl
      · exact mFld_congr rfl rfl rfl (mUp_off hi)
    · exact h.elim
  · exact h.elim
end OKS
