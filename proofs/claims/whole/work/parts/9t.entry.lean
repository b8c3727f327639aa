/-! WHAT THE LAW FINDS AT ITS ENTRY -/
theorem tb_in {w : Cond} (h : w ∈ tables_1) : w ∈ lw_tbl := List.mem_append_right _ h
theorem tb_1 {w : Cond} (i : Nat) (h : tables_1_1[i]? = some w) : w ∈ lw_tbl := tb_in (List.mem_append_left _ (List.mem_of_getElem? h))
theorem tb_2 {w : Cond} (i : Nat) (h : tables_1_2[i]? = some w) : w ∈ lw_tbl := tb_in (List.mem_append_right _ (List.mem_append_left _ (List.mem_of_getElem? h)))
theorem tb_3 {w : Cond} (i : Nat) (h : tables_1_3[i]? = some w) : w ∈ lw_tbl := tb_in (List.mem_append_right _ (List.mem_append_right _ (List.mem_append_left _ (List.mem_of_getElem? h))))
theorem tb_4 {w : Cond} (i : Nat) (h : tables_1_4[i]? = some w) : w ∈ lw_tbl := tb_in (List.mem_append_right _ (List.mem_append_right _ (List.mem_append_right _ (List.mem_append_left _ (List.mem_of_getElem? h)))))
theorem nest_in : ∀ q ∈ mNest, q ∈ lw_tbl ∧ (∃ a i x h, q = Cond.methodLinkNest a i x h) := by
  intro q hq
  simp only [mNest, List.mem_cons, List.not_mem_nil, or_false] at hq
  rcases hq with rfl | rfl | rfl | rfl | rfl | rfl | rfl | rfl | rfl | rfl | rfl | rfl | rfl | rfl | rfl | rfl | rfl | rfl | rfl
  · exact ⟨tb_1 28 rfl, _, _, _, _, rfl⟩
  · exact ⟨tb_1 65 rfl, _, _, _, _, rfl⟩
  · exact ⟨tb_1 99 rfl, _, _, _, _, rfl⟩
  · exact ⟨tb_1 137 rfl, _, _, _, _, rfl⟩
  · exact ⟨tb_1 143 rfl, _, _, _, _, rfl⟩
  · exact ⟨tb_1 192 rfl, _, _, _, _, rfl⟩
  · exact ⟨tb_2 25 rfl, _, _, _, _, rfl⟩
  · exact ⟨tb_2 189 rfl, _, _, _, _, rfl⟩
  · exact ⟨tb_2 194 rfl, _, _, _, _, rfl⟩
  · exact ⟨tb_3 53 rfl, _, _, _, _, rfl⟩
  · exact ⟨tb_3 60 rfl, _, _, _, _, rfl⟩
  · exact ⟨tb_3 79 rfl, _, _, _, _, rfl⟩
  · exact ⟨tb_3 102 rfl, _, _, _, _, rfl⟩
  · exact ⟨tb_3 110 rfl, _, _, _, _, rfl⟩
  · exact ⟨tb_3 125 rfl, _, _, _, _, rfl⟩
  · exact ⟨tb_3 223 rfl, _, _, _, _, rfl⟩
  · exact ⟨tb_4 19 rfl, _, _, _, _, rfl⟩
  · exact ⟨tb_4 80 rfl, _, _, _, _, rfl⟩
  · exact ⟨tb_4 110 rfl, _, _, _, _, rfl⟩
def fl1 : List Cond := flatC (Jvm.Cond.and given_1 narrow_1)
def tAb : Term := Term.static RX2 "ABOVE" "[I"
def tSt (i : Nat) : Term := if i = 0 then Term.string RX8 63 else Term.string RX1 108
def tVl (i : Nat) : Term := Term.field (tSt i) "java/lang/String" "value" "[B"
theorem fl_ab : Cond.arrayOf tAb .int ∈ fl1 ∧ Cond.eq (.length tAb) (.int 6) ∈ fl1 ∧ ∀ j, j < 6 → Cond.eq (.elem tAb (.int (Int32.ofNat j))) (.int (mAbv.getD j 0)) ∈ fl1 := by decide +kernel
theorem fl_cs : Cond.eq (.static RJ0 "COMPACT_STRINGS" "Z") (.int 1) ∈ fl1 ∧ Cond.isRef (.static RJ3 "SIOOBE_FORMATTER" "Ljava/util/function/BiFunction;") ∈ fl1 ∧ Cond.not (Cond.eq (tSt 0) (tSt 1)) ∈ fl1 := by decide +kernel
theorem fl_s0 : Cond.exactly (tSt 0) "java/lang/String" ∈ fl1 ∧ Cond.eq (.field (tSt 0) "java/lang/String" "coder" "B") (.int 0) ∈ fl1 ∧ Cond.arrayOf (tVl 0) .byte ∈ fl1 ∧ Cond.eq (.length (tVl 0)) (.int 38) ∈ fl1 := by decide +kernel
theorem fl_s1 : Cond.exactly (tSt 1) "java/lang/String" ∈ fl1 ∧ Cond.eq (.field (tSt 1) "java/lang/String" "coder" "B") (.int 0) ∈ fl1 ∧ Cond.arrayOf (tVl 1) .byte ∈ fl1 ∧ Cond.eq (.length (tVl 1)) (.int 55) ∈ fl1 := by decide +kernel
theorem fl_e0 : ∀ j, j < 38 → Cond.eq (.elem (tVl 0) (.int (Int32.ofNat j))) (.int (mBt0.getD j 0)) ∈ fl1 := by decide +kernel
theorem fl_e1 : ∀ j, j < 55 → Cond.eq (.elem (tVl 1) (.int (Int32.ofNat j))) (.int (mBt1.getD j 0)) ∈ fl1 := by decide +kernel
