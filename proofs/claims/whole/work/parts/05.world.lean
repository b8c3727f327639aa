/-! THE REAL WORLD BEHIND THE MINI MACHINE -/
/-- class numbers and slots; array classes by kind; the first new cell; where the old things are; a reference that is only passed on; what the old rows hold; their kinds and lengths -/
abbrev mWd : Type := va_G × (Nat → ClassId) × Nat × (Nat → Nat) × Value × (Nat → Nat → Int32) × (Nat → Nat × Nat)
def wD (w : mWd) : va_G := w.1
def wA (w : mWd) : Nat → ClassId := w.2.1
def wB (w : mWd) : Nat := w.2.2.1
def wR (w : mWd) : Nat → Nat := w.2.2.2.1
def wF (w : mWd) : Value := w.2.2.2.2.1
def wC (w : mWd) : Nat → Nat → Int32 := w.2.2.2.2.2.1
def wK (w : mWd) : Nat → Nat × Nat := w.2.2.2.2.2.2
def mRho (w : mWd) (a : Nat) : Nat := if a < 6 then wR w a else wB w + (a - 6)
def mSet0 (w : mWd) : Nat → Prop := fun q => wB w ≤ q
def rl (w : mWd) : Value → Value
  | .ref a => .ref (mRho w a)
  | .retAddr _ => wF w
  | v => v
theorem mRho_new {w : mWd} {a : Nat} (h : 6 ≤ a) : mRho w a = wB w + (a - 6) := if_neg (by omega)
theorem mRho_in {w : mWd} {a : Nat} (h : 6 ≤ a) : mSet0 w (mRho w a) := by
  rw [mRho_new h]; exact Nat.le_add_right _ _
theorem mRho_inj {w : mWd} {a b : Nat} (ha : 6 ≤ a) (hb : 6 ≤ b) (h : mRho w a = mRho w b) : a = b := by
  rw [mRho_new ha, mRho_new hb] at h; omega
/-- how many fields, and of what sort each is: 0 an int or a boolean, 1 a long, 2 a final reference, 3 another reference -/
def mTagL : List (List Nat) := [[2, 2, 3, 0, 0, 0, 0, 0, 0], [2, 2, 0, 3, 0, 0, 0, 0, 0], [2, 2, 2, 2, 2, 2, 2, 2, 0, 0, 0, 0], [2, 0, 0], [2, 2, 2, 2, 0, 0, 0], [2, 2], [2, 0], [2, 2, 2, 2, 2, 2, 2, 2, 2, 2, 0, 0, 0], [0, 2, 2, 0, 0, 2, 0, 2, 2, 2, 2, 2, 2, 2, 2, 0, 0, 2, 0, 0, 0, 0, 0, 0, 0, 0, 0, 0, 0, 1, 0, 0, 0, 2, 2, 2, 0, 0, 2, 2, 2, 2, 0, 2, 2, 2, 2, 0, 0, 0, 2, 2, 2, 2]]
def mTag (c k : Nat) : Nat := (mTagL.getD c []).getD k 9
def mNf (c : Nat) : Nat := (mTagL.getD c []).length
def mFld (w : mWd) (s : mSG) (Y : mLY) (a c k : Nat) : Value := match mTag c k with
  | 0 => .int (s.1 a k)
  | 1 => .long (s.2.2 a k)
  | 2 => va_rf ((mRf Y a k).map (mRho w))
  | _ => va_rf ((s.2.1 a k).map (mRho w))
def mFs (w : mWd) (s : mSG) (Y : mLY) (a c : Nat) : List Value := (List.range (mNf c)).map (mFld w s Y a c)
def mE (w : mWd) (s : mSG) (Y : mLY) (a : Nat) : va_E := if (mKl Y a).1 < 20 then .inr ((mKl Y a).1, mFs w s Y a (mKl Y a).1) else if (mKl Y a).1 < 22 then .inl (wA w (mKl Y a).1, (mKl Y a).2, .inl (s.1 a)) else .inl (wA w (mKl Y a).1, (mKl Y a).2, .inr (.inr (.inr (.inr (fun i => (s.2.1 a i).map (mRho w))))))
def mRep (w : mWd) (s : mSG) (Y : mLY) (H : Heap) : Prop := 6 ≤ Y.1 ∧ H.size = wB w + (Y.1 - 6) ∧ (∀ a j, a < 6 → s.1 a j = wC w a j) ∧ (∀ a, a < 6 → mKl Y a = wK w a) ∧ (∀ a, Y.1 ≤ a → (mKl Y a).1 = 99) ∧ ∀ a, 6 ≤ a → a < Y.1 → va_at (wD w) vwCl (mRho w a, mE w s Y a) H
def mTys (w : mWd) : List (ClassId × FieldType) := [(wA w 20, .int), (wA w 21, .boolean), (wA w 22, .object RX6), (wA w 23, .object RX4)]
def mTx0 : String := "wants 0 ; takes wet ; lends 1 + rain ;"
def mTx1 : String := "mud wet load rain from to wants takes lends or and not "
def mBt0 : List Int32 := [119, 97, 110, 116, 115, 32, 48, 32, 59, 32, 116, 97, 107, 101, 115, 32, 119, 101, 116, 32, 59, 32, 108, 101, 110, 100, 115, 32, 49, 32, 43, 32, 114, 97, 105, 110, 32, 59]
def mBt1 : List Int32 := [109, 117, 100, 32, 119, 101, 116, 32, 108, 111, 97, 100, 32, 114, 97, 105, 110, 32, 102, 114, 111, 109, 32, 116, 111, 32, 119, 97, 110, 116, 115, 32, 116, 97, 107, 101, 115, 32, 108, 101, 110, 100, 115, 32, 111, 114, 32, 97, 110, 100, 32, 110, 111, 116, 32]
def mAbv : List Int32 := [-1, 0, 0, 1, 2, 1]
/-- links to private members of nest mates -/
def mNest : List Cond := [(Cond.methodLinkNest "RolledUp" (9 : Nat) ({ cls := "RolledUp$State", name := "<init>", desc := "()V" } : MethodName) "RolledUp"), (Cond.methodLinkNest "RolledUp" (40 : Nat) ({ cls := "RolledUp$Parser", name := "<init>", desc := "()V" } : MethodName) "RolledUp"), (Cond.methodLinkNest "RolledUp" (47 : Nat) ({ cls := "RolledUp$Goer", name := "<init>", desc := "()V" } : MethodName) "RolledUp"), (Cond.methodLinkNest "RolledUp" (57 : Nat) ({ cls := "RolledUp$Search", name := "<init>", desc := "()V" } : MethodName) "RolledUp"), (Cond.methodLinkNest "RolledUp$Search" (11 : Nat) ({ cls := "RolledUp$Ways", name := "<init>", desc := "()V" } : MethodName) "RolledUp"), (Cond.methodLinkNest "RolledUp" (62 : Nat) ({ cls := "RolledUp$Sheet", name := "<init>", desc := "()V" } : MethodName) "RolledUp"), (Cond.methodLinkNest "RolledUp$Parser" (29 : Nat) ({ cls := "RolledUp", name := "bounded", desc := "(III)I" } : MethodName) "RolledUp"), (Cond.methodLinkNest "RolledUp$State" (48 : Nat) ({ cls := "RolledUp", name := "areTwoStones", desc := "(II)Z" } : MethodName) "RolledUp"), (Cond.methodLinkNest "RolledUp$State" (40 : Nat) ({ cls := "RolledUp", name := "isWithin", desc := "(II)Z" } : MethodName) "RolledUp"), (Cond.methodLinkNest "RolledUp$Text" (16 : Nat) ({ cls := "RolledUp", name := "isWithin", desc := "(II)Z" } : MethodName) "RolledUp"), (Cond.methodLinkNest "RolledUp$Goer" (78 : Nat) ({ cls := "RolledUp", name := "bounded", desc := "(III)I" } : MethodName) "RolledUp"), (Cond.methodLinkNest "RolledUp$Rug" (25 : Nat) ({ cls := "RolledUp", name := "bounded", desc := "(III)I" } : MethodName) "RolledUp"), (Cond.methodLinkNest "RolledUp$Search" (57 : Nat) ({ cls := "RolledUp", name := "areTwoStones", desc := "(II)Z" } : MethodName) "RolledUp"), (Cond.methodLinkNest "RolledUp$Ways" (24 : Nat) ({ cls := "RolledUp", name := "isWithin", desc := "(II)Z" } : MethodName) "RolledUp"), (Cond.methodLinkNest "RolledUp$Ways" (37 : Nat) ({ cls := "RolledUp", name := "isStone", desc := "(I)Z" } : MethodName) "RolledUp"), (Cond.methodLinkNest "RolledUp$Sheet" (32 : Nat) ({ cls := "RolledUp", name := "isWithin", desc := "(II)Z" } : MethodName) "RolledUp"), (Cond.methodLinkNest "RolledUp$Search" (106 : Nat) ({ cls := "RolledUp", name := "isWithin", desc := "(II)Z" } : MethodName) "RolledUp"), (Cond.methodLinkNest "RolledUp$Sheet" (19 : Nat) ({ cls := "RolledUp", name := "bounded", desc := "(III)I" } : MethodName) "RolledUp"), (Cond.methodLinkNest "RolledUp$Rug" (9 : Nat) ({ cls := "RolledUp", name := "isWithin", desc := "(II)Z" } : MethodName) "RolledUp")]
/-- what a method finds at its start, besides its world -/
def mES (w : mWd) (s : State) : Prop :=
  va_K (wD w) vwCl (mTys w) s ∧ (∀ q ∈ mNest, va_Nw q s) ∧
  va_T .int (wR w 0) (wK w 0).2 (fun j => .int (wC w 0 j)) (mSet0 w) s s.heap ∧ va_T .int (wR w 1) (wK w 1).2 (fun j => .int (wC w 1 j)) (mSet0 w) s s.heap ∧
  va_Z RX2 "ABOVE" "[I" (.ref (wR w 1)) (mSet0 w) s s.heap ∧ va_Z RJ0 "COMPACT_STRINGS" "Z" (.int 1) (mSet0 w) s s.heap ∧ va_Z RJ3 "SIOOBE_FORMATTER" "Ljava/util/function/BiFunction;" (wF w) (mSet0 w) s s.heap ∧
  vk_S 2 [38, 55] [mBt0, mBt1] (fun i => wR w (2 + i)) (fun i => wR w (4 + i)) (mSet0 w) s s.heap ∧ vk_R RX8 63 mTx0 (wR w 2) s ∧ vk_R RX1 108 mTx1 (wR w 3) s ∧
  va_Nw (.castable "[I" "java/lang/Cloneable") s ∧ va_AO RX6 s ∧ va_AO RX4 s ∧ wB w ≤ s.heap.size ∧
  (wK w 0).1 = 30 ∧ wK w 1 = (30, 6) ∧ wK w 2 = (31, 0) ∧ wK w 3 = (31, 0) ∧ wK w 4 = (32, 38) ∧ wK w 5 = (32, 55) ∧ (∀ j, wC w 4 j = mBt0.getD j 0) ∧ (∀ j, wC w 5 j = mBt1.getD j 0) ∧ (∀ j, wC w 1 j = mAbv.getD j 0) ∧ (wF w).category = 1
theorem va_AO.warm {C : String} {s U : State} (hW : s.WarmedH U.vm) (h : va_AO C s) : va_AO C U := va_AO.moved hW.alike h
theorem mES.moved {w : mWd} {s U : State} (hW : s.WarmedH U.vm) (hq : ∀ a : Nat, a < s.heap.size → ¬ mSet0 w a → U.heap[a]? = s.heap[a]?) (hz : s.heap.size ≤ U.heap.size) (h : mES w s) : mES w U := by
  obtain ⟨h1, h2, h3, h4, h5, h6, h7, h8, h9, h10, h11, h12, h13, h14, h15⟩ := h
  have hv := hW.alike
  refine ⟨h1.moved hv, fun q hq => ?_, va_T.moved hv (h3.kept hq), va_T.moved hv (h4.kept hq), va_Z.moved hv (h5.kept hq), va_Z.moved hv (h6.kept hq), va_Z.moved hv (h7.kept hq), vk_S.moved hv (h8.kept hq), h9.warm hW, h10.warm hW, ?_, va_AO.warm hW h12, va_AO.warm hW h13, Nat.le_trans h14 hz, h15⟩
  · have hqs := h2 q hq
    simp only [mNest, List.mem_cons, List.not_mem_nil, or_false] at hq
    rcases hq with rfl | rfl | rfl | rfl | rfl | rfl | rfl | rfl | rfl | rfl | rfl | rfl | rfl | rfl | rfl | rfl | rfl | rfl | rfl <;> exact va_Nw.warmM hW hqs
  · exact va_tabs rfl (rfl : (s.setVm U.vm).vm = U.vm) (by rw [Cond.castable_setVm hv]; exact h11)
theorem mES.blind {w : mWd} {U : State} (g : JFrame) (mk : MethodId) (a : Array Value) (h : mES w U) : mES w (U.calling g mk a) := by
  have hh : (U.calling g mk a).heap = U.heap := rfl
  have hvm : (U.calling g mk a).vm = U.vm := rfl
  obtain ⟨h1, h2, h3, h4, h5, h6, h7, h8, h9, h10, h11, h12, h13, h14, h15⟩ := h
  have hv : U.vm.Alike (U.calling g mk a).vm := Vm.Alike.refl U.vm
  refine ⟨h1.moved hv, fun q hq => ?_, va_T.moved hv h3, va_T.moved hv h4, va_Z.moved hv h5, va_Z.moved hv h6, va_Z.moved hv h7, vk_S.moved hv h8, vk_R.same hvm h9, vk_R.same hvm h10, ?_, va_AO.moved hv h12, va_AO.moved hv h13, h14, h15⟩
  · have hqs := h2 q hq
    simp only [mNest, List.mem_cons, List.not_mem_nil, or_false] at hq
    rcases hq with rfl | rfl | rfl | rfl | rfl | rfl | rfl | rfl | rfl | rfl | rfl | rfl | rfl | rfl | rfl | rfl | rfl | rfl | rfl <;> exact va_Nw.same rfl hvm.symm hqs
  · exact va_Nw.same rfl hvm.symm h11
