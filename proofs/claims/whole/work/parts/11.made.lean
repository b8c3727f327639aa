/-! what is made; copies -/
theorem mAdd_kl {Y : mLY} {kd len sl b : Nat} (h : b ≠ Y.1) : mKl (mAdd Y kd len sl) b = mKl Y b := if_neg h
theorem mAdd_at {Y : mLY} {kd len sl : Nat} : mKl (mAdd Y kd len sl) Y.1 = (kd, len) := if_pos rfl
/-- one cell more, at the heap's end -/
theorem mRep.add {w : mWd} {σ σ' : mSG} {Y : mLY} {kd len sl : Nat} {H H1 : Heap} (hR : mRep w σ Y H) (hz : H1.size = H.size + 1) (hq : ∀ q, q < H.size → H1[q]? = H[q]?) (hv : va_at (wD w) vwCl (mRho w Y.1, mE w σ' (mAdd Y kd len sl) Y.1) H1)
    (h1 : ∀ b, b ≠ Y.1 → σ'.1 b = σ.1 b) (h2 : ∀ b, b ≠ Y.1 → σ'.2.1 b = σ.2.1 b) (h3 : ∀ b, b ≠ Y.1 → σ'.2.2 b = σ.2.2 b) : mRep w σ' (mAdd Y kd len sl) H1 := by
  obtain ⟨r1, r2, r3, r4, r5, r6⟩ := hR
  have hy : (mAdd Y kd len sl).1 = Y.1 + 1 := rfl
  refine ⟨by rw [hy]; omega, by rw [hz, hy, r2]; omega, fun b j hb => by rw [h1 b (by omega)]; exact r3 b j hb, fun b hb => by rw [mAdd_kl (by omega)]; exact r4 b hb, fun b hb => ?_, fun b hb hb2 => ?_⟩
  · rw [hy] at hb
    rw [mAdd_kl (by omega)]
    exact r5 b (by omega)
  · by_cases e : b = Y.1
    · subst e; exact hv
    · rw [hy] at hb2
      rw [mE_congr (Y := Y) (h1 b e) (h2 b e) (h3 b e) (mAdd_kl e) (mUr_ne e)]
      refine (r6 b hb (by omega)).kept (hq _ ?_)
      rw [mRho_new hb, r2]
      omega
theorem mRho_top {w : mWd} {σ : mSG} {Y : mLY} {H : Heap} (hR : mRep w σ Y H) : mRho w Y.1 = H.size := by rw [mRho_new hR.1, hR.2.1]
theorem va_S.push {A : Nat → Prop} {H0 H H1 : Heap} {locs : List Loc} (hS : va_S A H0 H locs) (hz : H1.size = H.size + 1) (hq : ∀ q, q < H.size → H1[q]? = H[q]?) : va_S A H0 H1 locs := ⟨Nat.le_trans hS.1 (by omega), fun x h1 h2 => (hq x (Nat.lt_of_lt_of_le h1 hS.1)).trans (hS.2.1 x h1 h2), hS.2.2⟩
section OKS
variable {cc : ByteArray} {own : String} {hl : Bool} {nL : Nat} {rt : Option FieldType} {ini : Bool} {pc : Nat}
theorem ok_newI {at0 : ArrayType} {kd : Nat} (hat : (at0 = .int ∧ kd = 20) ∨ (at0 = .boolean ∧ kd = 21)) (hw : Cond.arrayClass (newarray.typeOf at0) ∈ mGW) (hd : decode cc pc = .ok (.newarray at0, 2)) : mOK cc own hl nL rt ini pc (mcNewA kd (pc + 2)) := by
  intro w d p l e R s m args below meth c Q r n0 l0 hml hini X C' hC K hK L S σ Y h hLn hn hs ls H locs hL hR hS
  have hE := X.2.2.2.2.1
  unfold mcNewA at h
  split at h
  · rename_i n S'
    obtain ⟨⟨h0, h1, h2, h3⟩, h⟩ := h
    have e1 : (mAdd Y kd n.toNatClampNeg n.toNatClampNeg).1 = Y.1 + 1 := rfl
    have e2 : (mAdd Y kd n.toNatClampNeg n.toNatClampNeg).2.1 = Y.2.1 + n.toNatClampNeg := rfl
    rw [e1] at h2
    rw [e2] at h3
    have c1 := X.2.2.2.2.2.2.2.1
    have c2 := X.2.2.2.2.2.2.2.2.1
    have top := mRho_top hR
    refine va_newaK X.1 X.2.1 (X.2.2.2.1 _ hw) rfl hd rfl h0 rfl ?_ (by omega) (by omega) rfl fun H1 cA g1 g2 g3 g4 g5 => ?_
    · rcases hat with ⟨rfl, -⟩ | ⟨rfl, -⟩ <;> simp [newarray.typeOf, componentBytes] <;> omega
    have hA : cA = wA w kd := by
      rcases hat with ⟨rfl, rfl⟩ | ⟨rfl, rfl⟩
      · exact Option.some.inj (g5.symm.trans (hE.K.2 0 _ (mTys_0 w)).2)
      · exact Option.some.inj (g5.symm.trans (hE.K.2 1 _ (mTys_1 w)).2)
    have hrep : mRep w (mNew σ Y.1) (mAdd Y kd n.toNatClampNeg n.toNatClampNeg) H1 := by
      refine hR.add g2 g3 ?_ (fun b hb => mUr_ne hb) (fun b hb => mUr_ne hb) (fun b hb => mUr_ne hb)
      have hk : (mKl (mAdd Y kd n.toNatClampNeg n.toNatClampNeg) Y.1).1 = kd := by rw [mAdd_at]
      rw [mE_int hk (by rcases hat with ⟨-, rfl⟩ | ⟨-, rfl⟩ <;> decide) (by rcases hat with ⟨-, rfl⟩ | ⟨-, rfl⟩ <;> decide), mAdd_at, top]
      show H1[H.size]? = some (vp_cell _ _)
      rw [g1, hA, vp_cell_i]
      congr 2
      funext j
      have : (mNew σ Y.1).1 Y.1 = fun _ => 0 := mUr_eq
      rw [this]
      rcases hat with ⟨rfl, -⟩ | ⟨rfl, -⟩ <;> rfl
    have hg := hK _ _ _ _ _ h hLn (by rw [e1]; omega) (by rw [e2]; omega) ls H1 locs hL hrep (hS.push g2 g3)
    rw [e1, e2, show Y.1 + 1 - n0 = Y.1 - n0 + 1 by omega, show Y.2.1 + n.toNatClampNeg - l0 = Y.2.1 - l0 + n.toNatClampNeg by omega] at hg
    rw [← top]
    exact hg
  · exact h.elim
theorem ok_newQ {C : String} {idx kd t0 : Nat} (hk1 : 22 ≤ kd) (ht : ∀ w, (mTys w)[t0]? = some (wA w kd, .object C)) (hao : ∀ w s, mES w s → va_AO C s) (hw : Cond.classLink own idx C ∈ mGW) (hd : decode cc pc = .ok (.anewarray idx, 3)) : mOK cc own hl nL rt ini pc (mcNewA kd (pc + 3)) := by
  intro w d p l e R s m args below meth c Q r n0 l0 hml hini X C' hC K hK L S σ Y h hLn hn hs ls H locs hL hR hS
  have hE := X.2.2.2.2.1
  unfold mcNewA at h
  split at h
  · rename_i n S'
    obtain ⟨⟨h0, h1, h2, h3⟩, h⟩ := h
    have e1 : (mAdd Y kd n.toNatClampNeg n.toNatClampNeg).1 = Y.1 + 1 := rfl
    have e2 : (mAdd Y kd n.toNatClampNeg n.toNatClampNeg).2.1 = Y.2.1 + n.toNatClampNeg := rfl
    rw [e1] at h2
    rw [e2] at h3
    have c1 := X.2.2.2.2.2.2.2.1
    have c2 := X.2.2.2.2.2.2.2.2.1
    have top := mRho_top hR
    refine W.anew X.1 X.2.1 X.2.2.1 (X.2.2.2.1 _ hw) (va_AO.use (hao w s hE)) rfl hd rfl h0 (by omega) (by omega) (by omega) fun cA kA comp f1 f2 f3 f4 => ?_
    generalize hH1 : H.push ({ cls := cA, slots := Array.replicate n.toNatClampNeg .null, vm := .none } : Cell) = H1
    have z1 : H1.size = H.size + 1 := by rw [← hH1, Array.size_push]
    have g1 : H1[H.size]? = some (arrV cA n.toNatClampNeg (fun _ => .null)) := by rw [← hH1, Array.getElem?_push_size, ← arrV_new]
    have g3 : ∀ q : Nat, q < H.size → H1[q]? = H[q]? := fun q hq => by rw [← hH1, Array.getElem?_push, if_neg (Nat.ne_of_lt hq)]
    have hA : cA = wA w kd := by
      obtain ⟨kA', comp', q1, q2, q3, q4⟩ := (hE.K.2 t0 _ (ht w)).2
      exact Option.some.inj (f1.symm.trans q4)
    have hrep : mRep w (mNew σ Y.1) (mAdd Y kd n.toNatClampNeg n.toNatClampNeg) H1 := by
      refine hR.add z1 g3 ?_ (fun b hb => mUr_ne hb) (fun b hb => mUr_ne hb) (fun b hb => mUr_ne hb)
      have hk : (mKl (mAdd Y kd n.toNatClampNeg n.toNatClampNeg) Y.1).1 = kd := by rw [mAdd_at]
      rw [mE_ref hk hk1, mAdd_at, top]
      show H1[H.size]? = some (vp_cell _ _)
      rw [g1, hA, vp_cell_q]
      congr 2
      funext j
      have : (mNew σ Y.1).2.1 Y.1 = fun _ => none := mUr_eq
      rw [this]
      rfl
    have hg := hK _ _ _ _ _ h hLn (by rw [e1]; omega) (by rw [e2]; omega) ls H1 locs hL hrep (hS.push z1 g3)
    rw [e1, e2, show Y.1 + 1 - n0 = Y.1 - n0 + 1 by omega, show Y.2.1 + n.toNatClampNeg - l0 = Y.2.1 - l0 + n.toNatClampNeg by omega] at hg
    rw [← top]
    exact hg
  · exact h.elim
def mDef (t : Nat) : Value := match t with
  | 0 => .int 0
  | 1 => .long 0
  | _ => .null
theorem ok_new {ci N idx : Nat} {C : String} {T : u_T} {ty : Nat → FieldType} (hcl : mCl ci C T N ty) (hdf : ∀ k, k < N → defaultValue (ty k) = mDef (mTag ci k)) (hw1 : Cond.classLink own idx C ∈ mGW) (hw2 : Cond.instantiable C N ∈ mGW) (hw3 : Cond.initialized C ∈ mGW) (hd : decode cc pc = .ok (.new idx, 3)) : mOK cc own hl nL rt ini pc (mcNew ci N (pc + 3)) := by
  intro w d p l e R s m args below meth c Q r n0 l0 hml hini X C' hC K hK L S σ Y h hLn hn hs ls H locs hL hR hS
  have hE := X.2.2.2.2.1
  obtain ⟨k1, k2, k3, k4, k5, k6⟩ := hcl
  unfold mcNew at h
  obtain ⟨⟨h2, h3⟩, h⟩ := h
  have e1 : (mAdd Y ci N N).1 = Y.1 + 1 := rfl
  have e2 : (mAdd Y ci N N).2.1 = Y.2.1 + N := rfl
  rw [e1] at h2
  rw [e2] at h3
  have c1 := X.2.2.2.2.2.2.2.1
  have c2 := X.2.2.2.2.2.2.2.2.1
  have top := mRho_top hR
  have hKn := hE.K.1 ci _ k1
  refine W.newcK X.1 X.2.1 X.2.2.1 (X.2.2.2.1 _ hw1) (X.2.2.2.1 _ hw2) (X.2.2.2.1 _ hw3) rfl hd (by omega) (by omega) hKn.2.1 rfl fun H1 kC hkC g1 g2 g3 => ?_
  have hrep : mRep w (mNew σ Y.1) (mAdd Y ci N N) H1 := by
    refine hR.add g2 g3 ?_ (fun b hb => mUr_ne hb) (fun b hb => mUr_ne hb) (fun b hb => mUr_ne hb)
    have hk : (mKl (mAdd Y ci N N) Y.1).1 = ci := by rw [mAdd_at]
    rw [mE_obj hk k6, top]
    refine ⟨_, k1, (u_born ty X.2.2.2.1 k2 hKn hkC g1 k3).to (fun k hkN => ?_)⟩
    have hf : (mFs w (mNew σ Y.1) (mAdd Y ci N N) Y.1 ci)[k]? = some (mFld w (mNew σ Y.1) (mAdd Y ci N N) Y.1 ci k) := mFs_get (by rw [k5]; exact hkN)
    rw [hdf k hkN]
    have hv : vp_V (mFs w (mNew σ Y.1) (mAdd Y ci N N) Y.1 ci) k = mFld w (mNew σ Y.1) (mAdd Y ci N N) Y.1 ci k := by
      unfold vp_V
      rw [List.getD_eq_getElem?_getD, hf]
      rfl
    rw [hv]
    have z1 : (mNew σ Y.1).1 Y.1 k = 0 := by
      have : (mNew σ Y.1).1 Y.1 = fun _ => 0 := mUr_eq
      rw [this]
    have z2 : (mNew σ Y.1).2.1 Y.1 k = none := by
      have : (mNew σ Y.1).2.1 Y.1 = fun _ => none := mUr_eq
      rw [this]
    have z3 : (mNew σ Y.1).2.2 Y.1 k = 0 := by
      have : (mNew σ Y.1).2.2 Y.1 = fun _ => 0 := mUr_eq
      rw [this]
    have z4 : mRf (mAdd Y ci N N) Y.1 k = none := by
      have : (mAdd Y ci N N).2.2.2 Y.1 = fun _ => none := mUr_eq
      unfold mRf
      rw [this]
    unfold mFld mDef
    rw [z1, z2, z3, z4]
    generalize mTag ci k = t
    match t with
    | 0 => rfl
    | 1 => rfl
    | 2 => rfl
    | t + 3 => rfl
  have hg := hK _ _ _ _ _ h hLn (by rw [e1]; omega) (by rw [e2]; omega) ls H1 locs hL hrep (hS.push g2 g3)
  rw [e1, e2, show Y.1 + 1 - n0 = Y.1 - n0 + 1 by omega, show Y.2.1 + N - l0 = Y.2.1 - l0 + N by omega] at hg
  show W p l e R s m args below meth c H1 locs _ _ Q (F0 m (pc + 3) ls (.ref H.size :: S.map (rl w)))
  rw [← top]
  exact hg
theorem rl_sum {w : mWd} (hF : (wF w).category = 1) (S : List Value) : ((S.map (rl w)).map fun v => v.category).sum = (S.map Value.category).sum := by
  induction S with
  | nil => rfl
  | cons v S ih => simp only [List.map_cons, List.sum_cons, rl_cat hF]; rw [ih]
theorem ok_castA {idx : Nat} (hw : Cond.classLink own idx "[I" ∈ mGW) (hd : decode cc pc = .ok (.checkcast idx, 3)) : mOK cc own hl nL rt ini pc (mcCastA (pc + 3)) := by
  intro w d p l e R s m args below meth c Q r n0 l0 hml hini X C' hC K hK L S σ Y h hLn hn hs ls H locs hL hR hS
  have hE := X.2.2.2.2.1
  unfold mcCastA at h
  split at h
  · rename_i a S'
    split at h
    · rename_i hkd
      have hat := mRep.at hE hR hkd (by omega)
      rw [mE_int hkd (by omega) (by omega)] at hat
      exact va_castA X.1 X.2.1 X.2.2.1 (X.2.2.2.1 _ hw) (va_P.one hat) 0 rfl (hE.K.2 0 _ (mTys_0 w)).2 hd (hK _ _ _ _ _ h hLn hn hs ls H locs hL hR hS)
    · exact h.elim
  · exact h.elim
theorem nn_of {z : Int32} (hz : ¬ z < 0) : z.toInt = (z.toNatClampNeg : Int) := by
  have hz0 : (0 : Int) ≤ z.toInt := by
    have := Int32.not_lt.mp hz
    simpa using Int32.le_iff_toInt_le.mp this
  show z.toInt = ((z.toInt.toNat : Nat) : Int)
  omega
theorem ok_copy {idx : Nat} (hw1 : Cond.methodLink own idx arraycopyName ∈ mGW) (hw2 : Cond.native arraycopyName ∈ mGW) (hw3 : Cond.static arraycopyName ∈ mGW) (hw4 : Cond.initialized "java/lang/System" ∈ mGW) (hd : decode cc pc = .ok (.invokestatic idx, 3)) : mOK cc own hl nL rt ini pc (mcCopy (pc + 3)) := by
  intro w d p l e R s m args below meth c Q r n0 l0 hml hini X C' hC K hK L S σ Y h hLn hn hs ls H locs hL hR hS
  have hE := X.2.2.2.2.1
  unfold mcCopy at h
  split at h
  · rename_i n dp b sp a S'
    split at h
    · rename_i hkd
      obtain ⟨ka, kb⟩ := hkd
      obtain ⟨⟨h1, h2, h3, h4, h5⟩, h8, h⟩ := h
      have hha := mRep.here hE hR ka (by omega)
      have hhb := mRep.here hE hR kb (by omega)
      have hat := mRep.at hE hR ka (by omega)
      rw [mE_int ka (by omega) (by omega)] at hat
      have hbt := mRep.at hE hR kb (by omega)
      rw [mE_int kb (by omega) (by omega)] at hbt
      have hc0 : H[mRho w a]? = some (vp_cell (wA w 20) ((mKl Y a).2, .inl (σ.1 a))) := hat
      have hc1 : H[mRho w b]? = some (vp_cell (wA w 20) ((mKl Y b).2, .inl (σ.1 b))) := hbt
      intro T hT Z
      obtain ⟨-, k0, hk0, cm0, hkk0⟩ := (hE.K.2 0 _ (mTys_0 w)).1 (mKl Y a).2 (fun j => .int (σ.1 a j))
      have hfr := X.2.2.2.2.2.1
      have hlo := X.2.2.2.2.2.2.1
      have hsum := rl_sum hE.fmt S'
      obtain ⟨vm', Z', step⟩ := Z.arraycopy X.1 X.2.2.1 (X.2.2.2.1 _ hw1) (X.2.2.2.1 _ hw2) (X.2.2.2.1 _ hw3) (X.2.2.2.1 _ hw4) (src := mRho w a) (dst := mRho w b) (cs := vp_cell (wA w 20) ((mKl Y a).2, .inl (σ.1 a))) (cd := vp_cell (wA w 20) ((mKl Y b).2, .inl (σ.1 b))) (srcPos := sp) (destPos := dp) (n := n) (by rw [hT]; exact hc0) (by rw [hT]; exact hc1)
        (fun _ q => by cases q) (fun _ q => by cases q) (fun q => by cases q) (fun q => by cases q) hk0 hk0 hkk0 hkk0 (by simp [refKind]) h1 h2 h3
        (by rw [nn_of h1, nn_of h3]; show ¬ _ > ((arrV (wA w 20) (mKl Y a).2 (fun j => .int (σ.1 a j))).slots.size : Int); rw [arrV_size]; omega)
        (by rw [nn_of h2, nn_of h3]; show ¬ _ > ((arrV (wA w 20) (mKl Y b).2 (fun j => .int (σ.1 b j))).slots.size : Int); rw [arrV_size]; omega)
        (fun vm₁ _ i hi => by
          have e : (vp_cell (wA w 20) ((mKl Y a).2, .inl (σ.1 a))).slots.getD (sp.toNatClampNeg + i) .null = .int (σ.1 a (sp.toNatClampNeg + i)) := by
            show (arrV (wA w 20) (mKl Y a).2 (fun j => .int (σ.1 a j))).slots.getD _ _ = _
            rw [Array.getD_eq_getD_getElem?, arrV_read _ _ (by omega)]
            rfl
          refine ⟨?_, ?_⟩
          · rw [e]
            rfl
          · rw [e]
            exact trivial)
        (g := F0 m pc ls (.int n :: .int dp :: .ref (mRho w b) :: .int sp :: .ref (mRho w a) :: S'.map (rl w))) rfl (by show ls.size = _; rw [hml, hL.1]; exact hLn) (rest := S'.map (rl w)) rfl (by rw [X.2.1]; exact hd) (by omega) (by
          show 2 * 0 + _ + _ ≤ _
          rw [hsum]
          have : nativeFrameWords "java/lang/System" "arraycopy" 5 ≤ 40 := by decide +kernel
          omega)
      have e1 : copied (vp_cell (wA w 20) ((mKl Y a).2, .inl (σ.1 a))) (vp_cell (wA w 20) ((mKl Y b).2, .inl (σ.1 b))) sp dp n = vp_cell (wA w 20) ((mKl Y b).2, .inl (va_cpy (σ.1 a) (σ.1 b) sp.toNatClampNeg dp.toNatClampNeg n.toNatClampNeg)) := va_copied (fun z => .int z) _ _ _ _ h4
      rw [e1] at Z' step
      generalize hcell : vp_cell (wA w 20) ((mKl Y b).2, .inl (va_cpy (σ.1 a) (σ.1 b) sp.toNatClampNeg dp.toNatClampNeg n.toNatClampNeg)) = cN at Z' step
      have hlt : mRho w b < H.size := (Array.getElem?_eq_some_iff.mp hc1).1
      have oq : ∀ q : Nat, q ≠ mRho w b → (H.setIfInBounds (mRho w b) cN)[q]? = H[q]? := fun q hq => by simp [Array.getElem?_setIfInBounds, Ne.symm hq]
      have ez : (H.setIfInBounds (mRho w b) cN).size = H.size := by simp
      have hrep : mRep w (mUr σ.1 b (va_cpy (σ.1 a) (σ.1 b) sp.toNatClampNeg dp.toNatClampNeg n.toNatClampNeg), σ.2.1, σ.2.2) Y (H.setIfInBounds (mRho w b) cN) := by
        refine hR.arr hhb.1 kb (by omega) (by omega) ez oq ?_ mUr_eq (fun x hx => mUr_ne hx) rfl
        rw [← hcell]
        simp [Array.getElem?_setIfInBounds, hlt]
      have hheap : ((T.setVm vm').setCell (mRho w b) cN).heap = H.setIfInBounds (mRho w b) cN := by rw [← hT]; rfl
      obtain ⟨t, a1, b1⟩ := hK _ _ _ _ _ h hLn hn hs ls _ _ hL hrep ⟨by rw [ez]; exact hS.1, fun q g1 g2 => by
          rw [oq q (fun e => g2 (by rw [e]; exact mRho_in hhb.1))]
          exact hS.2.1 q g1 g2, fun q hq => by
          rcases List.mem_append.mp hq with g | g
          · exact hS.2.2 q g
          · obtain ⟨z, -, hz⟩ := List.mem_map.mp g
            rw [← hz]
            exact mRho_in hhb.1⟩ _ hheap Z'
      exact ⟨t, step t a1, b1⟩
    · exact h.elim
  · exact h.elim
theorem ok_clone {idx : Nat} (hw1 : Cond.methodLink own idx ⟨"[I", "clone", "()Ljava/lang/Object;"⟩ ∈ mGW) (hw2 : Cond.sameMethod "[I" "java/lang/Object" "clone" "()Ljava/lang/Object;" ∈ mGW) (hw3 : Cond.native ⟨"java/lang/Object", "clone", "()Ljava/lang/Object;"⟩ ∈ mGW) (hw4 : Cond.instanceMethod ⟨"java/lang/Object", "clone", "()Ljava/lang/Object;"⟩ ∈ mGW) (hw5 : Cond.selects "[I" ⟨"[I", "clone", "()Ljava/lang/Object;"⟩ ⟨"java/lang/Object", "clone", "()Ljava/lang/Object;"⟩ ∈ mGW) (hd : decode cc pc = .ok (.invokevirtual idx, 3)) : mOK cc own hl nL rt ini pc (mcClone (pc + 3)) := by
  intro w d p l e R s m args below meth c Q r n0 l0 hml hini X C' hC K hK L S σ Y h hLn hn hs ls H locs hL hR hS
  have hE := X.2.2.2.2.1
  unfold mcClone at h
  split at h
  · rename_i a S'
    split at h
    · rename_i ka
      obtain ⟨⟨h2, h3⟩, h8, h⟩ := h
      have e1 : (mAdd Y 20 (mKl Y a).2 (mKl Y a).2).1 = Y.1 + 1 := rfl
      have e2 : (mAdd Y 20 (mKl Y a).2 (mKl Y a).2).2.1 = Y.2.1 + (mKl Y a).2 := rfl
      rw [e1] at h2
      rw [e2] at h3
      have c1 := X.2.2.2.2.2.2.2.1
      have c2 := X.2.2.2.2.2.2.2.2.1
      have hfr := X.2.2.2.2.2.1
      have hlo := X.2.2.2.2.2.2.1
      have hsum := rl_sum hE.fmt S'
      have top := mRho_top hR
      have hat := mRep.at hE hR ka (by omega)
      rw [mE_int ka (by omega) (by omega)] at hat
      have hc0 : H[mRho w a]? = some (vp_cell (wA w 20) ((mKl Y a).2, .inl (σ.1 a))) := hat
      obtain ⟨c0, t0', f1, f2, f3⟩ := Cond.castable_spec (va_Nw.use (A := args) rfl hE.2.2.2.2.2.2.2.2.2.2.1)
      have hnm : s.vm.findClass "[I" = some (wA w 20) := (hE.K.2 0 _ (mTys_0 w)).2
      cases hnm.symm.trans f1
      intro T hT Z
      obtain ⟨-, kA, hkA, comp, hkind⟩ := State.isArrayOf_alike Z.warmed.alike ((hE.K.2 0 _ (mTys_0 w)).1 0 (fun _ => .null))
      obtain ⟨-, kS, hkS, compS, hkindS⟩ := (hE.K.2 0 _ (mTys_0 w)).1 0 (fun _ => .null)
      obtain ⟨vm', Z', st⟩ := Z.cloneArray X.1 X.2.2.1 (X.2.2.2.1 _ hw1) (X.2.2.2.1 _ hw2) (X.2.2.2.1 _ hw3) (X.2.2.2.1 _ hw4) (X.2.2.2.1 _ hw5) (a := mRho w a) (cell := vp_cell (wA w 20) ((mKl Y a).2, .inl (σ.1 a))) (by rw [hT]; exact hc0) (fun k q => by cases q) (fun q => by cases q) hnm f2 f3
        (fun i v hv => by
          have hk' : T.vm.classes[wA w 20]? = some kA := hkA
          have hfit : fits .int v = true := by
            have hv' : (arrV (wA w 20) (mKl Y a).2 (fun j => .int (σ.1 a j))).slots[i]? = some v := hv
            have hi : i < (mKl Y a).2 := by
              have := (Array.getElem?_eq_some_iff.mp hv').1
              rwa [arrV_size] at this
            rw [arrV_read _ _ hi] at hv'
            cases hv'
            rfl
          have : (vp_cell (wA w 20) ((mKl Y a).2, .inl (σ.1 a))).cls = wA w 20 := rfl
          rw [this]
          simpa [State.fitsSlot, State.slotType?, hk', hkind] using hfit)
        (g := F0 m pc ls (.ref (mRho w a) :: S'.map (rl w))) rfl (by show ls.size = _; rw [hml, hL.1]; exact hLn) rfl (by rw [X.2.1]; exact hd) (by omega) (by
          show 2 * 0 + _ + 14 ≤ _
          rw [hsum]
          omega) (by omega) (by
          have : (vp_cell (wA w 20) ((mKl Y a).2, .inl (σ.1 a))).slots.size = (mKl Y a).2 := arrV_size _ _ _
          rw [this]; omega) (hloader := Vm.clonesLoader_of_array hkS hkindS)
      have hsz : (vp_cell (wA w 20) ((mKl Y a).2, .inl (σ.1 a))).slots.size = (mKl Y a).2 := arrV_size _ _ _
      have hcellE : ({ cls := (vp_cell (wA w 20) ((mKl Y a).2, .inl (σ.1 a))).cls, slots := (vp_cell (wA w 20) ((mKl Y a).2, .inl (σ.1 a))).slots } : Cell) = vp_cell (wA w 20) ((mKl Y a).2, .inl (σ.1 a)) := rfl
      rw [hcellE, hsz] at Z'
      generalize hH1 : H.push (vp_cell (wA w 20) ((mKl Y a).2, .inl (σ.1 a))) = H1
      have z1 : H1.size = H.size + 1 := by rw [← hH1, Array.size_push]
      have g1 : H1[H.size]? = some (vp_cell (wA w 20) ((mKl Y a).2, .inl (σ.1 a))) := by rw [← hH1, Array.getElem?_push_size]
      have g3 : ∀ q : Nat, q < H.size → H1[q]? = H[q]? := fun q hq => by rw [← hH1, Array.getElem?_push, if_neg (Nat.ne_of_lt hq)]
      have hrep : mRep w (mUr σ.1 Y.1 (σ.1 a), (mNew σ Y.1).2) (mAdd Y 20 (mKl Y a).2 (mKl Y a).2) H1 := by
        refine hR.add z1 g3 ?_ (fun b hb => mUr_ne hb) (fun b hb => mUr_ne hb) (fun b hb => mUr_ne hb)
        have hk : (mKl (mAdd Y 20 (mKl Y a).2 (mKl Y a).2) Y.1).1 = 20 := by rw [mAdd_at]
        rw [mE_int hk (by decide) (by decide), mAdd_at, top]
        show H1[H.size]? = some (vp_cell (wA w 20) ((mKl Y a).2, .inl (mUr σ.1 Y.1 (σ.1 a) Y.1)))
        rw [mUr_eq]
        exact g1
      have hg := hK _ _ _ _ _ h hLn (by rw [e1]; omega) (by rw [e2]; omega) ls H1 locs hL hrep (hS.push z1 g3)
      rw [e1, e2, show Y.1 + 1 - n0 = Y.1 - n0 + 1 by omega, show Y.2.1 + (mKl Y a).2 - l0 = Y.2.1 - l0 + (mKl Y a).2 by omega] at hg
      obtain ⟨t, b1, b2⟩ := hg ((T.setVm vm').pushCell (vp_cell (wA w 20) ((mKl Y a).2, .inl (σ.1 a)))) (by rw [← hH1, ← hT]; rfl) Z'
      refine ⟨t, st t ?_, b2⟩
      rw [hcellE, hT, ← top]
      exact b1
    · exact h.elim
  · exact h.elim
end OKS
