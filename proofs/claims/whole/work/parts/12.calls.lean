/-! calls -/
/-- what is known of a method that is called: its code's word, its class is initialised, how many parameters, its locals -/
def mMf (k nA : Nat) : Prop := Cond.code (mNm k) (mBy k) (mML k) (mRt k) ∈ mGW ∧ Cond.initialized (mNm k).cls ∈ mGW ∧ ((mNm k).cls ≠ "java/lang/invoke/MethodHandle" ∧ (mNm k).cls ≠ "java/lang/invoke/VarHandle" ∧ (parseMethodDescriptor (mNm k).desc).map (fun d => d.parameters.length) = some nA) ∧ mML k ≤ 41
theorem mWs_good {k : Nat} (h : Cond.code (mNm k) (mBy k) (mML k) (mRt k) ∈ mGW) : GoodIn mGW (mWs k) := by
  intro x hx
  rcases List.mem_cons.mp hx with rfl | hx
  · exact mgw_good _ h
  · exact mgw_good x hx
theorem mPc_blind (w : mWd) (As : List Value) (σ : mSG) (Y : mLY) : FrameBlind (mPc w As σ Y) := fun a U g mk h => ⟨h.1, h.2.1.blind g mk a, h.2.2⟩
section CALL
variable {p : Program} {l : Launch} {e : Env} {R : Room} {s : State} {m : MethodId} {args : Array Value} {below : List Frame} {meth : Method} {c : Code} {H : Heap} {locs : List Loc} {cells slots : Nat} {Q : State → Prop}
variable {cc : ByteArray} {pc : Nat} {ls : Array Slot}
theorem mPc_pre {w : mWd} {As : List Value} {σ : mSG} {Y : mLY} (hE : mES w s) (hR : mRep w σ Y H) (hS : va_S (mSet0 w) s.heap H locs) : ∀ U : State, U.heap = H → s.WarmedH U.vm → mPc w As σ Y (As.map (rl w)).toArray U := fun U hU hW => ⟨rfl, hE.moved hW (fun a h1 h2 => by rw [hU]; exact hS.2.1 a h1 h2) (by rw [hU]; exact hS.1), by rw [hU]; exact hR⟩
theorem m_after {w : mWd} {q : mRT} {Y : mLY} {n0 l0 : Nat} {a : Array Value} {st rest : List Value} (hS : va_S (mSet0 w) s.heap H locs) (hn : n0 ≤ Y.1) (hs : l0 ≤ Y.2.1) (hq : mLe Y q.2.2)
    (hr : va_Run p l e R s m args below meth c H locs (Y.1 - n0) (Y.2.1 - l0) (q.2.2.1 - Y.1) (q.2.2.2.1 - Y.2.1) (F0 m pc ls st) (rest.map (rl w)) (mQc w q a) (mSet0 w))
    (kk : ∀ (H1 : Heap) (locs1 : List Loc), mRep w q.2.1 q.2.2 H1 → va_S (mSet0 w) s.heap H1 locs1 → W p l e R s m args below meth c H1 locs1 (q.2.2.1 - n0) (q.2.2.2.1 - l0) Q (F0 m (pc + 3) ls ((q.1.toList ++ rest).map (rl w)))) : W p l e R s m args below meth c H locs (Y.1 - n0) (Y.2.1 - l0) Q (F0 m pc ls st) := by
  intro T hT Z
  obtain ⟨v, st₀, t, T', Lc, h0, Z', hLc, e1, e2, ⟨hv, hR, hz, hk⟩, go⟩ := hr T hT Z
  rw [h0] at hz hk
  have hv' : v = q.1.map (rl w) := by cases hv; rfl
  have ea : Y.1 - n0 + (q.2.2.1 - Y.1) = q.2.2.1 - n0 := by have := hq.1; omega
  have eb : Y.2.1 - l0 + (q.2.2.2.1 - Y.2.1) = q.2.2.2.1 - l0 := by have := hq.2; omega
  rw [ea, eb] at Z'
  obtain ⟨t2, a1, b1⟩ := kk T'.heap (locs ++ Lc) (by rw [e1]; exact hR) ⟨Nat.le_trans hS.1 (by rw [e1]; exact hz), fun x h1 h2 => by rw [e1, hk x (Nat.lt_of_lt_of_le h1 hS.1) h2]; exact hS.2.1 x h1 h2, fun x hx => by
      rcases List.mem_append.mp hx with g | g
      · exact hS.2.2 x g
      · exact hLc x g⟩ T' rfl Z'
  refine ⟨t2, go t2 ?_, b1⟩
  have es : v.toList ++ rest.map (rl w) = (q.1.toList ++ rest).map (rl w) := by
    rw [hv']
    cases q.1 <;> simp
  show Steps p.tables e below (T'.setTop (F0 m (pc + 3) ls (v.toList ++ rest.map (rl w)))) t2
  rw [es]
  exact a1
end CALL
theorem take_rl (w : mWd) (S : List Value) (nA : Nat) : S.map (rl w) = (((S.take nA).reverse).map (rl w)).reverse ++ (S.drop nA).map (rl w) := by
  rw [← List.map_reverse, List.reverse_reverse, ← List.map_append, List.take_append_drop]
section OKS
variable {cc : ByteArray} {own : String} {hl : Bool} {nL : Nat} {rt : Option FieldType} {ini : Bool} {pc k nA idx ci : Nat}
theorem ok_callS (hf : mMf k nA) (hw1 : Cond.methodLink own idx (mNm k) ∈ mGW) (hw2 : Cond.static (mNm k) ∈ mGW) (hd : decode cc pc = .ok (.invokestatic idx, 3)) : mOK cc own hl nL rt ini pc (mcCallS k nA (pc + 3)) := by
  intro w d p l e R s m args below meth c Q r n0 l0 hml hini X C' hC K hK L S σ Y h hLn hn hs ls H locs hL hR hS
  have hE := X.2.2.2.2.1
  unfold mcCallS at h
  split at h
  · rename_i hg
    obtain ⟨q, hc, ⟨hq1, hq2⟩, h⟩ := h
    have c1 := X.2.2.2.2.2.2.2.1
    have c2 := X.2.2.2.2.2.2.2.2.1
    have hfr := X.2.2.2.2.2.1
    have hlo := X.2.2.2.2.2.2.1
    have m41 := hf.2.2.2
    obtain ⟨a1, a2⟩ := hq1
    obtain ⟨b1, b2⟩ := hq2
    have hM := hC _ _ _ _ _ hc
    refine m_after (rest := S.drop nA) hS hn hs ⟨a1, a2⟩ (va_runS (As := ((S.take nA).reverse).map (rl w)) ⟨X.1, X.2.1, hml, X.2.2.1, X.2.2.2.1⟩ hM ⟨callB_of nA X.2.2.2.1 (mWs_good hf.1) rfl rfl rfl (X.2.2.2.1 _ hf.2.1) (X.2.2.2.1 _ hw1) hf.2.2.1 ⟨by show d + 1 ≤ _; omega, by show 8 + (mML k + 11) + 60 * d ≤ _; omega⟩, X.2.2.2.1 _ hw2⟩ ⟨mPc_blind _ _ _ _, mPc_pre hE hR hS⟩ rfl (by rw [List.length_map, List.length_reverse, List.length_take]; omega) (by show ls.size = _; rw [hL.1]; exact hLn) (take_rl w S nA) (lv_room (by rw [rl_sum hE.fmt]; exact hg.2)) hd ⟨by omega, by omega⟩) (fun H1 locs1 hR1 hS1 => ?_)
    exact hK _ _ _ _ _ h hLn (by omega) (by omega) ls H1 locs1 hL hR1 hS1
  · exact h.elim
theorem ok_callSN {host : String} (hf : mMf k nA) (hw1 : Cond.methodLinkNest own idx (mNm k) host ∈ mNest) (hw2 : Cond.static (mNm k) ∈ mGW) (hd : decode cc pc = .ok (.invokestatic idx, 3)) : mOK cc own hl nL rt ini pc (mcCallS k nA (pc + 3)) := by
  intro w d p l e R s m args below meth c Q r n0 l0 hml hini X C' hC K hK L S σ Y h hLn hn hs ls H locs hL hR hS
  have hE := X.2.2.2.2.1
  unfold mcCallS at h
  split at h
  · rename_i hg
    obtain ⟨q, hc, ⟨hq1, hq2⟩, h⟩ := h
    have c1 := X.2.2.2.2.2.2.2.1
    have c2 := X.2.2.2.2.2.2.2.2.1
    have hfr := X.2.2.2.2.2.1
    have hlo := X.2.2.2.2.2.2.1
    have m41 := hf.2.2.2
    obtain ⟨a1, a2⟩ := hq1
    obtain ⟨b1, b2⟩ := hq2
    have hM := hC _ _ _ _ _ hc
    refine m_after (rest := S.drop nA) hS hn hs ⟨a1, a2⟩ (va_runSN (As := ((S.take nA).reverse).map (rl w)) ⟨X.1, X.2.1, hml, X.2.2.1, X.2.2.2.1⟩ hM ⟨va_cnB nA X.2.2.2.1 (mWs_good hf.1) rfl rfl rfl (hE.2.1 _ hw1) (X.2.2.2.1 _ hf.2.1) hf.2.2.1 ⟨by show d + 1 ≤ _; omega, by show 8 + (mML k + 11) + 60 * d ≤ _; omega⟩, X.2.2.2.1 _ hw2, trivial⟩ ⟨mPc_blind _ _ _ _, mPc_pre hE hR hS⟩ rfl (by rw [List.length_map, List.length_reverse, List.length_take]; omega) (by show ls.size = _; rw [hL.1]; exact hLn) (take_rl w S nA) (lv_room (by rw [rl_sum hE.fmt]; exact hg.2)) hd ⟨by omega, by omega⟩) (fun H1 locs1 hR1 hS1 => ?_)
    exact hK _ _ _ _ _ h hLn (by omega) (by omega) ls H1 locs1 hL hR1 hS1
  · exact h.elim
theorem drop_len {S rest : List Value} {nA : Nat} {v : Value} (h : S.drop nA = v :: rest) : nA ≤ S.length ∧ (((S.take nA).reverse).length = nA) := by
  have h1 : nA < S.length := by
    rcases Nat.lt_or_ge nA S.length with q | q
    · exact q
    · rw [List.drop_eq_nil_of_le q] at h; cases h
  exact ⟨by omega, by rw [List.length_reverse, List.length_take]; omega⟩
theorem stack_rl (w : mWd) {S rest : List Value} {nA a : Nat} (h : S.drop nA = .ref a :: rest) : S.map (rl w) = (((S.take nA).reverse).map (rl w)).reverse ++ .ref (mRho w a) :: rest.map (rl w) := by
  rw [take_rl w S nA, h]
  rfl

theorem ok_callV (hf : mMf k nA) (hci : ci < 20) {r0 : vw_C} (hcc : vwCl[ci]? = some r0) (hw1 : Cond.methodLink own idx (mNm k) ∈ mGW) (hw2 : Cond.instanceMethod (mNm k) ∈ mGW) (hw3 : Cond.selects r0.1 (mNm k) (mNm k) ∈ mGW) (hd : decode cc pc = .ok (.invokevirtual idx, 3)) : mOK cc own hl nL rt ini pc (mcCallV k ci nA (pc + 3)) := by
  intro w d p l e R s m args below meth c Q r n0 l0 hml hini X C' hC K hK L S σ Y h hLn hn hs ls H locs hL hR hS
  have hE := X.2.2.2.2.1
  unfold mcCallV at h
  split at h
  · rename_i a rest hdr
    split at h
    · rename_i hg
      obtain ⟨hka, hsm⟩ := hg
      obtain ⟨q, hc, ⟨hq1, hq2⟩, h⟩ := h
      have c1 := X.2.2.2.2.2.2.2.1
      have c2 := X.2.2.2.2.2.2.2.2.1
      have hfr := X.2.2.2.2.2.1
      have hlo := X.2.2.2.2.2.2.1
      have m41 := hf.2.2.2
      obtain ⟨a1, a2⟩ := hq1
      obtain ⟨b1, b2⟩ := hq2
      have hM := hC _ _ _ _ _ hc
      have hlen := (drop_len hdr).2
      have hpre := mPc_pre (As := .ref a :: (S.take nA).reverse) hE hR hS
      have hat := mRep.at hE hR hka (by omega)
      rw [mE_obj hka hci] at hat
      have hrec := va_recv hE.K (va_P.one hat) hcc (q0 := 0) rfl
      refine m_after (rest := rest) hS hn hs ⟨a1, a2⟩ (va_runV (b := mRho w a) (As := ((S.take nA).reverse).map (rl w)) ⟨X.1, X.2.1, hml, X.2.2.1, X.2.2.2.1⟩ hM ⟨callB_of nA X.2.2.2.1 (mWs_good hf.1) rfl rfl rfl (X.2.2.2.1 _ hf.2.1) (X.2.2.2.1 _ hw1) hf.2.2.1 ⟨by show d + 1 ≤ _; omega, by show 8 + (mML k + 11) + 60 * d ≤ _; omega⟩, X.2.2.2.1 _ hw2, X.2.2.2.1 _ hw3⟩ ⟨mPc_blind _ _ _ _, hrec, hpre⟩ rfl (by rw [List.length_map]; exact hlen) (by show ls.size = _; rw [hL.1]; exact hLn) (stack_rl w hdr) (lv_room (by rw [rl_sum hE.fmt]; exact hsm)) hd ⟨by omega, by omega⟩) (fun H1 locs1 hR1 hS1 => ?_)
      exact hK _ _ _ _ _ h hLn (by omega) (by omega) ls H1 locs1 hL hR1 hS1
    · exact h.elim
  · exact h.elim
theorem ok_callVN {host : String} (hf : mMf k nA) (hci : ci < 20) {r0 : vw_C} (hcc : vwCl[ci]? = some r0) (hw1 : Cond.methodLinkNest own idx (mNm k) host ∈ mNest) (hw2 : Cond.instanceMethod (mNm k) ∈ mGW) (hw3 : Cond.selects r0.1 (mNm k) (mNm k) ∈ mGW) (hd : decode cc pc = .ok (.invokevirtual idx, 3)) : mOK cc own hl nL rt ini pc (mcCallV k ci nA (pc + 3)) := by
  intro w d p l e R s m args below meth c Q r n0 l0 hml hini X C' hC K hK L S σ Y h hLn hn hs ls H locs hL hR hS
  have hE := X.2.2.2.2.1
  unfold mcCallV at h
  split at h
  · rename_i a rest hdr
    split at h
    · rename_i hg
      obtain ⟨hka, hsm⟩ := hg
      obtain ⟨q, hc, ⟨hq1, hq2⟩, h⟩ := h
      have c1 := X.2.2.2.2.2.2.2.1
      have c2 := X.2.2.2.2.2.2.2.2.1
      have hfr := X.2.2.2.2.2.1
      have hlo := X.2.2.2.2.2.2.1
      have m41 := hf.2.2.2
      obtain ⟨a1, a2⟩ := hq1
      obtain ⟨b1, b2⟩ := hq2
      have hM := hC _ _ _ _ _ hc
      have hlen := (drop_len hdr).2
      have hpre := mPc_pre (As := .ref a :: (S.take nA).reverse) hE hR hS
      have hat := mRep.at hE hR hka (by omega)
      rw [mE_obj hka hci] at hat
      have hrec := va_recv hE.K (va_P.one hat) hcc (q0 := 0) rfl
      refine m_after (rest := rest) hS hn hs ⟨a1, a2⟩ (va_runVN (b := mRho w a) (As := ((S.take nA).reverse).map (rl w)) ⟨X.1, X.2.1, hml, X.2.2.1, X.2.2.2.1⟩ hM ⟨va_cnB nA X.2.2.2.1 (mWs_good hf.1) rfl rfl rfl (hE.2.1 _ hw1) (X.2.2.2.1 _ hf.2.1) hf.2.2.1 ⟨by show d + 1 ≤ _; omega, by show 8 + (mML k + 11) + 60 * d ≤ _; omega⟩, X.2.2.2.1 _ hw2, X.2.2.2.1 _ hw3⟩ ⟨mPc_blind _ _ _ _, hrec, hpre⟩ rfl (by rw [List.length_map]; exact hlen) (by show ls.size = _; rw [hL.1]; exact hLn) (stack_rl w hdr) (lv_room (by rw [rl_sum hE.fmt]; exact hsm)) hd ⟨by omega, by omega⟩) (fun H1 locs1 hR1 hS1 => ?_)
      exact hK _ _ _ _ _ h hLn (by omega) (by omega) ls H1 locs1 hL hR1 hS1
    · exact h.elim
  · exact h.elim
theorem ok_callI (hf : mMf k nA) (hrn : mRt k = none) (hin : (mNm k).name = "<init>") (hw1 : Cond.methodLink own idx (mNm k) ∈ mGW) (hw2 : Cond.instanceMethod (mNm k) ∈ mGW) (hd : decode cc pc = .ok (.invokespecial idx, 3)) : mOK cc own hl nL rt ini pc (mcCallV k ci nA (pc + 3)) := by
  intro w d p l e R s m args below meth c Q r n0 l0 hml hini X C' hC K hK L S σ Y h hLn hn hs ls H locs hL hR hS
  have hE := X.2.2.2.2.1
  unfold mcCallV at h
  split at h
  · rename_i a rest hdr
    split at h
    · rename_i hg
      obtain ⟨hka, hsm⟩ := hg
      obtain ⟨q, hc, ⟨hq1, hq2⟩, h⟩ := h
      have c1 := X.2.2.2.2.2.2.2.1
      have c2 := X.2.2.2.2.2.2.2.2.1
      have hfr := X.2.2.2.2.2.1
      have hlo := X.2.2.2.2.2.2.1
      have m41 := hf.2.2.2
      obtain ⟨a1, a2⟩ := hq1
      obtain ⟨b1, b2⟩ := hq2
      have hM := hC _ _ _ _ _ hc
      have hlen := (drop_len hdr).2
      have hpre := mPc_pre (As := .ref a :: (S.take nA).reverse) hE hR hS

      refine m_after (rest := rest) hS hn hs ⟨a1, a2⟩ (va_runI (b := mRho w a) (As := ((S.take nA).reverse).map (rl w)) ⟨X.1, X.2.1, hml, X.2.2.1, X.2.2.2.1⟩ hM (by rw [← hrn]; exact ⟨callB_of nA X.2.2.2.1 (mWs_good hf.1) rfl rfl rfl (X.2.2.2.1 _ hf.2.1) (X.2.2.2.1 _ hw1) hf.2.2.1 ⟨by show d + 1 ≤ _; omega, by show 8 + (mML k + 11) + 60 * d ≤ _; omega⟩, hin, X.2.2.2.1 _ hw2⟩) ⟨mPc_blind _ _ _ _, hpre⟩ rfl (by rw [List.length_map]; exact hlen) (by show ls.size = _; rw [hL.1]; exact hLn) (stack_rl w hdr) (lv_room (by rw [rl_sum hE.fmt]; exact hsm)) hd ⟨by omega, by omega⟩) (fun H1 locs1 hR1 hS1 => ?_)
      exact hK _ _ _ _ _ h hLn (by omega) (by omega) ls H1 locs1 hL hR1 hS1
    · exact h.elim
  · exact h.elim
theorem ok_callIN {host : String} (hf : mMf k nA) (hrn : mRt k = none) (hin : (mNm k).name = "<init>") (hw1 : Cond.methodLinkNest own idx (mNm k) host ∈ mNest) (hw2 : Cond.instanceMethod (mNm k) ∈ mGW) (hd : decode cc pc = .ok (.invokespecial idx, 3)) : mOK cc own hl nL rt ini pc (mcCallV k ci nA (pc + 3)) := by
  intro w d p l e R s m args below meth c Q r n0 l0 hml hini X C' hC K hK L S σ Y h hLn hn hs ls H locs hL hR hS
  have hE := X.2.2.2.2.1
  unfold mcCallV at h
  split at h
  · rename_i a rest hdr
    split at h
    · rename_i hg
      obtain ⟨hka, hsm⟩ := hg
      obtain ⟨q, hc, ⟨hq1, hq2⟩, h⟩ := h
      have c1 := X.2.2.2.2.2.2.2.1
      have c2 := X.2.2.2.2.2.2.2.2.1
      have hfr := X.2.2.2.2.2.1
      have hlo := X.2.2.2.2.2.2.1
      have m41 := hf.2.2.2
      obtain ⟨a1, a2⟩ := hq1
      obtain ⟨b1, b2⟩ := hq2
      have hM := hC _ _ _ _ _ hc
      have hlen := (drop_len hdr).2
      have hpre := mPc_pre (As := .ref a :: (S.take nA).reverse) hE hR hS

      refine m_after (rest := rest) hS hn hs ⟨a1, a2⟩ (va_runIN (b := mRho w a) (As := ((S.take nA).reverse).map (rl w)) ⟨X.1, X.2.1, hml, X.2.2.1, X.2.2.2.1⟩ hM (by rw [← hrn]; exact ⟨va_cnB nA X.2.2.2.1 (mWs_good hf.1) rfl rfl rfl (hE.2.1 _ hw1) (X.2.2.2.1 _ hf.2.1) hf.2.2.1 ⟨by show d + 1 ≤ _; omega, by show 8 + (mML k + 11) + 60 * d ≤ _; omega⟩, hin, X.2.2.2.1 _ hw2⟩) ⟨mPc_blind _ _ _ _, hpre⟩ rfl (by rw [List.length_map]; exact hlen) (by show ls.size = _; rw [hL.1]; exact hLn) (stack_rl w hdr) (lv_room (by rw [rl_sum hE.fmt]; exact hsm)) hd ⟨by omega, by omega⟩) (fun H1 locs1 hR1 hS1 => ?_)
      exact hK _ _ _ _ _ h hLn (by omega) (by omega) ls H1 locs1 hL hR1 hS1
    · exact h.elim
  · exact h.elim
theorem ok_callStr (hf : mMf k nA) (hw1 : Cond.methodLink own idx (mNm k) ∈ mGW) (hw2 : Cond.instanceMethod (mNm k) ∈ mGW) (hw3 : Cond.selects RJ0 (mNm k) (mNm k) ∈ mGW) (hd : decode cc pc = .ok (.invokevirtual idx, 3)) : mOK cc own hl nL rt ini pc (mcCallStr k nA (pc + 3)) := by
  intro w d p l e R s m args below meth c Q r n0 l0 hml hini X C' hC K hK L S σ Y h hLn hn hs ls H locs hL hR hS
  have hE := X.2.2.2.2.1
  unfold mcCallStr at h
  split at h
  · rename_i a rest hdr
    split at h
    · rename_i hg
      obtain ⟨hka, hsm⟩ := hg
      obtain ⟨q, hc, ⟨hq1, hq2⟩, h⟩ := h
      have c1 := X.2.2.2.2.2.2.2.1
      have c2 := X.2.2.2.2.2.2.2.2.1
      have hfr := X.2.2.2.2.2.1
      have hlo := X.2.2.2.2.2.2.1
      have m41 := hf.2.2.2
      obtain ⟨a1, a2⟩ := hq1
      obtain ⟨b1, b2⟩ := hq2
      have hM := hC _ _ _ _ _ hc
      have hlen := (drop_len hdr).2
      have hpre := mPc_pre (As := .ref a :: (S.take nA).reverse) hE hR hS
      have hrec : ∃ cell : Cell, H[mRho w a]? = some cell ∧ cell.vm.isStatics = false ∧ s.vm.findClass RJ0 = some cell.cls := by
        rcases hka with rfl | rfl
        · exact vk_recv (i := 0) hE.str (by decide) hS
        · exact vk_recv (i := 1) hE.str (by decide) hS
      refine m_after (rest := rest) hS hn hs ⟨a1, a2⟩ (va_runV (b := mRho w a) (As := ((S.take nA).reverse).map (rl w)) ⟨X.1, X.2.1, hml, X.2.2.1, X.2.2.2.1⟩ hM ⟨callB_of nA X.2.2.2.1 (mWs_good hf.1) rfl rfl rfl (X.2.2.2.1 _ hf.2.1) (X.2.2.2.1 _ hw1) hf.2.2.1 ⟨by show d + 1 ≤ _; omega, by show 8 + (mML k + 11) + 60 * d ≤ _; omega⟩, X.2.2.2.1 _ hw2, X.2.2.2.1 _ hw3⟩ ⟨mPc_blind _ _ _ _, hrec, hpre⟩ rfl (by rw [List.length_map]; exact hlen) (by show ls.size = _; rw [hL.1]; exact hLn) (stack_rl w hdr) (lv_room (by rw [rl_sum hE.fmt]; exact hsm)) hd ⟨by omega, by omega⟩) (fun H1 locs1 hR1 hS1 => ?_)
      exact hK _ _ _ _ _ h hLn (by omega) (by omega) ls H1 locs1 hL hR1 hS1
    · exact h.elim
  · exact h.elim
theorem ok_obj (hw1 : Cond.methodLink own idx objectInit ∈ mGW) (hw2 : Cond.instanceMethod objectInit ∈ mGW) (hw3 : Cond.code objectInit ⟨#[0xb1]⟩ 1 none ∈ mGW) (hd : decode cc pc = .ok (.invokespecial idx, 3)) : mOK cc own hl nL rt ini pc (mcObj (pc + 3)) := by
  intro w d p l e R s m args below meth c Q r n0 l0 hml hini X C' hC K hK L S σ Y h hLn hn hs ls H locs hL hR hS
  have hE := X.2.2.2.2.1
  unfold mcObj at h
  split at h
  · rename_i a S'
    split at h
    · rename_i hsm
      have hfr := X.2.2.2.2.2.1
      have hlo := X.2.2.2.2.2.2.1
      refine W.objInit X.1 X.2.1 X.2.2.1 (X.2.2.2.1 _ hw1) (X.2.2.2.1 _ hw2) (X.2.2.2.1 _ hw3) rfl (by rw [hml]; show ls.size = _; rw [hL.1]; exact hLn) rfl hd (by omega) (by show 2 * 0 + _ + 12 ≤ _; rw [rl_sum hE.fmt]; omega) (hK _ _ _ _ _ h hLn hn hs ls H locs hL hR hS)
    · exact h.elim
  · exact h.elim
theorem ok_strV {i : Nat} (hw1 : Cond.fieldLink own i RJ0 "value" "[B" ∈ mGW) (hd : decode cc pc = .ok (.getfield i, 3)) : mOK cc own hl nL rt ini pc (mcStrV (pc + 3)) := by
  intro w d p l e R s m args below meth c Q r n0 l0 hml hini X C' hC K hK L S σ Y h hLn hn hs ls H locs hL hR hS
  have hE := X.2.2.2.2.1
  unfold mcStrV at h
  split at h
  · rename_i a S'
    split at h
    · rename_i ha
      subst ha
      exact vk_getf X.1 X.2.1 (hE.str.1 0 (by decide)).2.2.1 hS X.2.2.1 (X.2.2.2.1 _ hw1) (fun _ q => q) hd (hK _ _ _ _ _ h hLn hn hs ls H locs hL hR hS)
    · split at h
      · rename_i ha
        subst ha
        exact vk_getf X.1 X.2.1 (hE.str.1 1 (by decide)).2.2.1 hS X.2.2.1 (X.2.2.2.1 _ hw1) (fun _ q => q) hd (hK _ _ _ _ _ h hLn hn hs ls H locs hL hR hS)
      · exact h.elim
  · exact h.elim
theorem ok_strC {i : Nat} (hw1 : Cond.fieldLink own i RJ0 "coder" "B" ∈ mGW) (hd : decode cc pc = .ok (.getfield i, 3)) : mOK cc own hl nL rt ini pc (mcStrC (pc + 3)) := by
  intro w d p l e R s m args below meth c Q r n0 l0 hml hini X C' hC K hK L S σ Y h hLn hn hs ls H locs hL hR hS
  have hE := X.2.2.2.2.1
  unfold mcStrC at h
  split at h
  · rename_i a S'
    split at h
    · rename_i ha
      have hg := hK _ _ _ _ _ h hLn hn hs ls H locs hL hR hS
      rcases ha with rfl | rfl
      · exact vk_getf X.1 X.2.1 (hE.str.1 0 (by decide)).2.1 hS X.2.2.1 (X.2.2.2.1 _ hw1) (fun _ q => q) hd hg
      · exact vk_getf X.1 X.2.1 (hE.str.1 1 (by decide)).2.1 hS X.2.2.1 (X.2.2.2.1 _ hw1) (fun _ q => q) hd hg
    · exact h.elim
  · exact h.elim
end OKS
