/-! EACH INSTRUCTION OF THE MINI MACHINE IS ONE OF THE REAL ONE -/
def mWs (k : Nat) : List Cond := .code (mNm k) (mBy k) (mML k) (mRt k) :: mGW
def mRm (d : Nat) (Y Z : mLY) : Room := { frames := d, cells := Z.1 - Y.1, slots := Z.2.1 - Y.2.1, locals := 60 * d }
def mPc (w : mWd) (As : List Value) (s : mSG) (Y : mLY) : Array Value → State → Prop := va_Pc (As.map (rl w)) (fun U => mES w U ∧ mRep w s Y U.heap)
def mQc (w : mWd) (q : mRT) : Array Value → State → Outcome → State → Prop := fun _ st oc t => oc = .returned (q.1.map (rl w)) ∧ mRep w q.2.1 q.2.2 t.heap ∧ va_F (mSet0 w) st t
def mMet (w : mWd) (d : Nat) (l : Launch) (k : Nat) (As : List Value) (s : mSG) (Y : mLY) (q : mRT) : Prop := Met l (mNm k) (mWs k) (mRm d Y q.2.2) (mPc w As s Y) (mQc w q) (q.2.2.1 - Y.1) (q.2.2.2.1 - Y.2.1) (mSet0 w)
def mRetI (rt : Option FieldType) (i : Instr) (v : Option Value) : Prop :=
  (i = .ireturn ∧ ∃ (x : Int32) (ty : FieldType), v = some (.int x) ∧ rt = some ty ∧ narrow ty (.int x) = .int x) ∨ (i = .lreturn ∧ ∃ x : Int64, v = some (.long x) ∧ rt = some .long) ∨ (i = .return_ ∧ v = none ∧ rt = none) ∨ (i = .areturn ∧ ∃ (a : Nat) (ty : FieldType), v = some (.ref a) ∧ rt = some ty ∧ ((∃ n, ty = .object n) ∨ ∃ t, ty = .array t))
/-- a method at work: the machine, the code, the words, what was found at the start, the room, and what its end gives -/
def mCx (w : mWd) (d : Nat) (p : Program) (l : Launch) (e : Env) (R : Room) (s : State) (m : MethodId) (args : Array Value) (below : List Frame) (meth : Method) (c : Code) (cc : ByteArray) (own : String) (rt : Option FieldType) (Q : State → Prop) (r : mRT) (n0 l0 : Nat) : Prop :=
  p.tables.exec = Jvm.exec ∧ c.code = cc ∧ s.vm.findClass own = some m.cls ∧ (∀ x ∈ mGW, x.before args s = true) ∧ mES w s ∧ d + 1 ≤ R.frames ∧ 60 * (d + 1) ≤ R.locals ∧ r.2.2.1 - n0 ≤ R.cells ∧ r.2.2.2.1 - l0 ≤ R.slots ∧
  (∀ (pc : Nat) (ls : Array Slot) (H : Heap) (locs : List Loc) (i : Instr), decode cc pc = .ok (i, 1) → mRetI rt i r.1 → mRep w r.2.1 r.2.2 H → va_S (mSet0 w) s.heap H locs → W p l e R s m args below meth c H locs (r.2.2.1 - n0) (r.2.2.2.1 - l0) Q (F0 m pc ls (r.1.toList.map (rl w))))
def mLrel (w : mWd) (hl : Bool) (ls : Array Slot) (L : mLV) : Prop := ls.size = L.length ∧ lv_wf ls ∧ (∀ i v, mGet L i = some v → ls[i]? = some (.val (rl w v))) ∧ (hl = false → ∀ i v, mGet L i = some v → v.category = 1)
def mG (w : mWd) (hl : Bool) (nL : Nat) (p : Program) (l : Launch) (e : Env) (R : Room) (s : State) (m : MethodId) (args : Array Value) (below : List Frame) (meth : Method) (c : Code) (Q : State → Prop) (n0 l0 : Nat) : mKT := fun pc L S σ Y => L.length = nL → n0 ≤ Y.1 → l0 ≤ Y.2.1 → ∀ (ls : Array Slot) (H : Heap) (locs : List Loc), mLrel w hl ls L → mRep w σ Y H → va_S (mSet0 w) s.heap H locs → W p l e R s m args below meth c H locs (Y.1 - n0) (Y.2.1 - l0) Q (F0 m pc ls (S.map (rl w)))
def mOK (cc : ByteArray) (own : String) (hl : Bool) (nL : Nat) (rt : Option FieldType) (ini : Bool) (pc : Nat) (sem : mSem) : Prop :=
  ∀ (w : mWd) (d : Nat) (p : Program) (l : Launch) (e : Env) (R : Room) (s : State) (m : MethodId) (args : Array Value) (below : List Frame) (meth : Method) (c : Code) (Q : State → Prop) (r : mRT) (n0 l0 : Nat), c.maxLocals = nL → (ini = true → meth.name = "<init>") → mCx w d p l e R s m args below meth c cc own rt Q r n0 l0 →
  ∀ (C : mCT), (∀ k As σ Y q, C k As σ Y q → mMet w d l k As σ Y q) → ∀ K : mKT, (∀ pc L S σ Y, K pc L S σ Y → mG w hl nL p l e R s m args below meth c Q n0 l0 pc L S σ Y) →
  ∀ L S σ Y, sem C r K L S σ Y → mG w hl nL p l e R s m args below meth c Q n0 l0 pc L S σ Y
theorem ok_bad {cc : ByteArray} {own : String} {hl : Bool} {nL : Nat} {rt : Option FieldType} {ini : Bool} {pc : Nat} : mOK cc own hl nL rt ini pc mcBad := by
  intro w d p l e R s m args below meth c Q r n0 l0 hml hini X C hC K hK L S σ Y h
  exact h.elim
theorem ok_cond {cc : ByteArray} {own : String} {hl : Bool} {nL : Nat} {rt : Option FieldType} {ini : Bool} {pc : Nat} {b : Bool} {x y : mSem} (h1 : b = true → mOK cc own hl nL rt ini pc x) (h2 : mOK cc own hl nL rt ini pc y) : mOK cc own hl nL rt ini pc (bif b then x else y) := by
  cases b
  · exact h2
  · exact h1 rfl
/-- a leaf of a code table -/
theorem ok_leaf {cc : ByteArray} {own : String} {hl : Bool} {nL : Nat} {rt : Option FieldType} {ini : Bool} {pc : Nat} (n : Nat) {x : mSem} (h : mOK cc own hl nL rt ini n x) : mOK cc own hl nL rt ini pc (bif Nat.beq pc n then x else mcBad) := by
  cases hb : Nat.beq pc n
  · exact ok_bad
  · rw [Nat.eq_of_beq_eq_true hb]; exact h
theorem ok_node {cc : ByteArray} {own : String} {hl : Bool} {nL : Nat} {rt : Option FieldType} {ini : Bool} {pc : Nat} {b : Bool} {x y : mSem} (h1 : mOK cc own hl nL rt ini pc x) (h2 : mOK cc own hl nL rt ini pc y) : mOK cc own hl nL rt ini pc (bif b then x else y) := ok_cond (fun _ => h1) h2
section OKS
variable {cc : ByteArray} {own : String} {hl : Bool} {nL : Nat} {rt : Option FieldType} {ini : Bool} {pc : Nat}
theorem ok_iconst {n : Int} {v : Int32} (hd : decode cc pc = .ok (.iconst n, 1)) (hv : Int32.ofInt n = v) : mOK cc own hl nL rt ini pc (mcPush (.int v) (pc + 1)) := by
  intro w d p l e R s m args below meth c Q r n0 l0 hml hini X C hC K hK L S σ Y h hLn hn hs ls H locs hL hR hS
  exact lv_iconst X.1 X.2.1 hd hv (hK _ _ _ _ _ h hLn hn hs ls H locs hL hR hS)
theorem ok_bipush {n : Int} {v : Int32} (hd : decode cc pc = .ok (.bipush n, 2)) (hv : (Int8.ofInt n).toInt32 = v) : mOK cc own hl nL rt ini pc (mcPush (.int v) (pc + 2)) := by
  intro w d p l e R s m args below meth c Q r n0 l0 hml hini X C hC K hK L S σ Y h hLn hn hs ls H locs hL hR hS
  exact lv_bipush X.1 X.2.1 hd hv (hK _ _ _ _ _ h hLn hn hs ls H locs hL hR hS)
theorem ok_sipush {n : Int} {v : Int32} (hd : decode cc pc = .ok (.sipush n, 3)) (hv : (Int16.ofInt n).toInt32 = v) : mOK cc own hl nL rt ini pc (mcPush (.int v) (pc + 3)) := by
  intro w d p l e R s m args below meth c Q r n0 l0 hml hini X C hC K hK L S σ Y h hLn hn hs ls H locs hL hR hS
  exact lv_sipush X.1 X.2.1 hd hv (hK _ _ _ _ _ h hLn hn hs ls H locs hL hR hS)
theorem ok_ldc {i : Nat} {v : Int32} (hd : decode cc pc = .ok (.ldc i, 2)) (hw : Cond.constant own i v ∈ mGW) : mOK cc own hl nL rt ini pc (mcPush (.int v) (pc + 2)) := by
  intro w d p l e R s m args below meth c Q r n0 l0 hml hini X C hC K hK L S σ Y h hLn hn hs ls H locs hL hR hS
  exact lv_ldc X.1 X.2.1 X.2.2.1 (X.2.2.2.1 _ hw) hd (hK _ _ _ _ _ h hLn hn hs ls H locs hL hR hS)
theorem ok_ldcw {i : Nat} {v : Int32} (hd : decode cc pc = .ok (.ldc_w i, 3)) (hw : Cond.constant own i v ∈ mGW) : mOK cc own hl nL rt ini pc (mcPush (.int v) (pc + 3)) := by
  intro w d p l e R s m args below meth c Q r n0 l0 hml hini X C hC K hK L S σ Y h hLn hn hs ls H locs hL hR hS
  exact lv_ldcw X.1 X.2.1 X.2.2.1 (X.2.2.2.1 _ hw) hd (hK _ _ _ _ _ h hLn hn hs ls H locs hL hR hS)
theorem ok_ldc2 {i : Nat} {v : Int64} (hd : decode cc pc = .ok (.ldc2_w i, 3)) (hw : Cond.constantLong own i v ∈ mGW) : mOK cc own hl nL rt ini pc (mcPush (.long v) (pc + 3)) := by
  intro w d p l e R s m args below meth c Q r n0 l0 hml hini X C hC K hK L S σ Y h hLn hn hs ls H locs hL hR hS
  exact lv_ldc2 X.1 X.2.1 X.2.2.1 (X.2.2.2.1 _ hw) hd (hK _ _ _ _ _ h hLn hn hs ls H locs hL hR hS)
theorem ok_lconst {n : Fin 2} {v : Int64} (hd : decode cc pc = .ok (.lconst n, 1)) (hv : Int64.ofNat (n : Nat) = v) : mOK cc own hl nL rt ini pc (mcPush (.long v) (pc + 1)) := by
  intro w d p l e R s m args below meth c Q r n0 l0 hml hini X C hC K hK L S σ Y h hLn hn hs ls H locs hL hR hS
  exact lv_lconst X.1 X.2.1 hd hv (hK _ _ _ _ _ h hLn hn hs ls H locs hL hR hS)
theorem ok_ldcS0 (ho : own = RX8) (hd : decode cc pc = .ok (.ldc 63, 2)) : mOK cc own hl nL rt ini pc (mcPush (.ref 2) (pc + 2)) := by
  intro w d p l e R s m args below meth c Q r n0 l0 hml hini X C hC K hK L S σ Y h hLn hn hs ls H locs hL hR hS
  subst ho
  exact va_ldcS X.1 X.2.1 X.2.2.1 X.2.2.2.2.1.2.2.2.2.2.2.2.2.1 hd (hK _ _ _ _ _ h hLn hn hs ls H locs hL hR hS)
theorem ok_ldcS1 (ho : own = RX1) (hd : decode cc pc = .ok (.ldc 108, 2)) : mOK cc own hl nL rt ini pc (mcPush (.ref 3) (pc + 2)) := by
  intro w d p l e R s m args below meth c Q r n0 l0 hml hini X C hC K hK L S σ Y h hLn hn hs ls H locs hL hR hS
  subst ho
  exact va_ldcS X.1 X.2.1 X.2.2.1 X.2.2.2.2.1.2.2.2.2.2.2.2.2.2.1 hd (hK _ _ _ _ _ h hLn hn hs ls H locs hL hR hS)
-- statics
theorem ok_gsA {i : Nat} {ref : String} (hd : decode cc pc = .ok (.getstatic i, 3)) (hw : Cond.fieldLink own i RX2 "ABOVE" "[I" ∈ mGW) : mOK cc own hl nL rt ini pc (mcPush (.ref 1) (pc + 3)) := by
  intro w d p l e R s m args below meth c Q r n0 l0 hml hini X C hC K hK L S σ Y h hLn hn hs ls H locs hL hR hS
  exact va_gets X.1 X.2.1 X.2.2.2.2.1.2.2.2.2.1 hS X.2.2.1 (X.2.2.2.1 _ hw) (fun _ h => h) hd (hK _ _ _ _ _ h hLn hn hs ls H locs hL hR hS)
theorem ok_gsC {i : Nat} (hd : decode cc pc = .ok (.getstatic i, 3)) (hw : Cond.fieldLink own i RJ0 "COMPACT_STRINGS" "Z" ∈ mGW) : mOK cc own hl nL rt ini pc (mcPush (.int 1) (pc + 3)) := by
  intro w d p l e R s m args below meth c Q r n0 l0 hml hini X C hC K hK L S σ Y h hLn hn hs ls H locs hL hR hS
  exact va_gets X.1 X.2.1 X.2.2.2.2.1.2.2.2.2.2.1 hS X.2.2.1 (X.2.2.2.1 _ hw) (fun _ h => h) hd (hK _ _ _ _ _ h hLn hn hs ls H locs hL hR hS)
theorem ok_gsF {i : Nat} (hd : decode cc pc = .ok (.getstatic i, 3)) (hw : Cond.fieldLink own i RJ3 "SIOOBE_FORMATTER" "Ljava/util/function/BiFunction;" ∈ mGW) : mOK cc own hl nL rt ini pc (mcPush (.retAddr 0) (pc + 3)) := by
  intro w d p l e R s m args below meth c Q r n0 l0 hml hini X C hC K hK L S σ Y h hLn hn hs ls H locs hL hR hS
  exact va_gets X.1 X.2.1 X.2.2.2.2.1.2.2.2.2.2.2.1 hS X.2.2.1 (X.2.2.2.1 _ hw) (fun _ h => h) hd (hK _ _ _ _ _ h hLn hn hs ls H locs hL hR hS)
-- locals
theorem ok_iload_n {k : Fin 4} {i : Nat} (hd : decode cc pc = .ok (.iload_n k, 1)) (hi : (k : Nat) = i) : mOK cc own hl nL rt ini pc (mcLoadI i (pc + 1)) := by
  intro w d p l e R s m args below meth c Q r n0 l0 hml hini X C hC K hK L S σ Y h hLn hn hs ls H locs hL hR hS
  unfold mcLoadI at h
  split at h
  · rename_i x hx
    exact lv_iload_n X.1 X.2.1 hd hi (hL.2.2.1 _ _ hx) (hK _ _ _ _ _ h hLn hn hs ls H locs hL hR hS)
  · exact h.elim
theorem ok_iload {i : Nat} (hd : decode cc pc = .ok (.iload i, 2)) : mOK cc own hl nL rt ini pc (mcLoadI i (pc + 2)) := by
  intro w d p l e R s m args below meth c Q r n0 l0 hml hini X C hC K hK L S σ Y h hLn hn hs ls H locs hL hR hS
  unfold mcLoadI at h
  split at h
  · rename_i x hx
    exact lv_iload X.1 X.2.1 hd (hL.2.2.1 _ _ hx) (hK _ _ _ _ _ h hLn hn hs ls H locs hL hR hS)
  · exact h.elim
theorem ok_aload_n {k : Fin 4} {i : Nat} (hd : decode cc pc = .ok (.aload_n k, 1)) (hi : (k : Nat) = i) : mOK cc own hl nL rt ini pc (mcLoadA i (pc + 1)) := by
  intro w d p l e R s m args below meth c Q r n0 l0 hml hini X C hC K hK L S σ Y h hLn hn hs ls H locs hL hR hS
  unfold mcLoadA at h
  split at h
  · rename_i x hx
    exact lv_aload_n X.1 X.2.1 hd hi (hL.2.2.1 _ _ hx) (hK _ _ _ _ _ h hLn hn hs ls H locs hL hR hS)
  · exact h.elim
theorem ok_aload {i : Nat} (hd : decode cc pc = .ok (.aload i, 2)) : mOK cc own hl nL rt ini pc (mcLoadA i (pc + 2)) := by
  intro w d p l e R s m args below meth c Q r n0 l0 hml hini X C hC K hK L S σ Y h hLn hn hs ls H locs hL hR hS
  unfold mcLoadA at h
  split at h
  · rename_i x hx
    exact lv_aload X.1 X.2.1 hd (hL.2.2.1 _ _ hx) (hK _ _ _ _ _ h hLn hn hs ls H locs hL hR hS)
  · exact h.elim
theorem ok_lload_n {k : Fin 4} {i : Nat} (hd : decode cc pc = .ok (.lload_n k, 1)) (hi : (k : Nat) = i) : mOK cc own hl nL rt ini pc (mcLoadJ i (pc + 1)) := by
  intro w d p l e R s m args below meth c Q r n0 l0 hml hini X C hC K hK L S σ Y h hLn hn hs ls H locs hL hR hS
  unfold mcLoadJ at h
  split at h
  · rename_i x hx
    exact lv_lload_n X.1 X.2.1 hd hi (hL.2.2.1 _ _ hx) (hK _ _ _ _ _ h hLn hn hs ls H locs hL hR hS)
  · exact h.elim
theorem ok_lload {i : Nat} (hd : decode cc pc = .ok (.lload i, 2)) : mOK cc own hl nL rt ini pc (mcLoadJ i (pc + 2)) := by
  intro w d p l e R s m args below meth c Q r n0 l0 hml hini X C hC K hK L S σ Y h hLn hn hs ls H locs hL hR hS
  unfold mcLoadJ at h
  split at h
  · rename_i x hx
    exact lv_lload X.1 X.2.1 hd (hL.2.2.1 _ _ hx) (hK _ _ _ _ _ h hLn hn hs ls H locs hL hR hS)
  · exact h.elim
end OKS
