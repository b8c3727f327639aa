/-! THE WORLD AT THE LAW'S ENTRY -/
theorem mes_at {s : State} {b L : Nat} {xs : Nat → Int32} (hts : ∀ w ∈ lw_tbl, w.before #[Value.ref b] s = true) (hX : va_X b L xs s s.heap) (hbl : b < s.heap.size) (hgv : (Jvm.Cond.and given_1 narrow_1).before #[Value.ref b] s = true) : ∃ w : mWd, mES w s ∧ wB w = s.heap.size ∧ wR w 0 = b ∧ wK w 0 = (30, L) := by
  have hg : ∀ w ∈ mGW, w.before #[Value.ref b] s = true := fun w h => hts w (List.mem_filter.mp h).1
  have hf : ∀ w ∈ fl1, w.before #[Value.ref b] s = true := flat_of_before _ hgv
  have hA : ∀ a : Nat, a < s.heap.size → ¬ (fun q : Nat => s.heap.size ≤ q) a := fun a h => Nat.not_le.mpr h
  obtain ⟨c0, i0, K0⟩ := u_known (ws := mGW) hg mcl_0.2.1 (hg _ gin_RX0)
  obtain ⟨c1, i1, K1⟩ := u_known (ws := mGW) hg mcl_1.2.1 (hg _ gin_RX1)
  obtain ⟨c2, i2, K2⟩ := u_known (ws := mGW) hg mcl_2.2.1 (hg _ gin_RX3)
  obtain ⟨c3, i3, K3⟩ := u_known (ws := mGW) hg mcl_3.2.1 (hg _ gin_RX4)
  obtain ⟨c4, i4, K4⟩ := u_known (ws := mGW) hg mcl_4.2.1 (hg _ gin_RX5)
  obtain ⟨c5, i5, K5⟩ := u_known (ws := mGW) hg mcl_5.2.1 (hg _ gin_RX6)
  obtain ⟨c6, i6, K6⟩ := u_known (ws := mGW) hg mcl_6.2.1 (hg _ gin_RX7)
  obtain ⟨c7, i7, K7⟩ := u_known (ws := mGW) hg mcl_7.2.1 (hg _ gin_RX8)
  obtain ⟨c8, i8, K8⟩ := u_known (ws := mGW) hg mcl_8.2.1 (hg _ gin_RX9)
  obtain ⟨a20, k20, p20, f20, g20, e20⟩ := Cond.arrayClass_spec (args := #[Value.ref b]) (first := s) (o := none) (s := s) (idx := []) (hg _ ga_int)
  obtain ⟨a21, k21, p21, f21, g21, e21⟩ := Cond.arrayClass_spec (args := #[Value.ref b]) (first := s) (o := none) (s := s) (idx := []) (hg _ ga_boolean)
  obtain ⟨p22, a22, k22, f22, -, g22, e22, n22⟩ := Cond.arrayOver_spec (args := #[Value.ref b]) (first := s) (o := none) (s := s) (idx := []) (n := RX6) (hts _ (tb_1 60 rfl))
  obtain ⟨p23, a23, k23', f23, -, g23, e23, n23⟩ := Cond.arrayOver_spec (args := #[Value.ref b]) (first := s) (o := none) (s := s) (idx := []) (n := RX4) (hts _ (tb_1 62 rfl))
  obtain ⟨tA', hAe, hAT⟩ := va_Tof (N := 6) (f := fun j => .int (mAbv.getD j 0)) (A := fun q : Nat => s.heap.size ≤ q) (by decide) (hf _ fl_ab.1) (va_eqt (hf _ fl_ab.2.1)) (fun j hj => va_eqt (hf _ (fl_ab.2.2 j hj))) hA
  obtain ⟨vF, hFe, hFr⟩ := Cond.isRef_spec (args := #[Value.ref b]) (first := s) (o := none) (s := s) (idx := []) (hf _ fl_cs.2.1)
  obtain ⟨adK, adV, hSt, hStE⟩ := vk_Sof (N := 2) (tm := tSt) (len := [38, 55]) (byt := [mBt0, mBt1]) (A := fun q : Nat => s.heap.size ≤ q) (args := #[Value.ref b]) (s := s)
      (fun i hi => by rcases (show i = 0 ∨ i = 1 by omega) with rfl | rfl <;> decide)
      (fun i hi => by rcases (show i = 0 ∨ i = 1 by omega) with rfl | rfl; exact hf _ fl_s0.1; exact hf _ fl_s1.1)
      (fun i hi => by rcases (show i = 0 ∨ i = 1 by omega) with rfl | rfl; exact hf _ fl_s0.2.1; exact hf _ fl_s1.2.1)
      (fun i hi => by rcases (show i = 0 ∨ i = 1 by omega) with rfl | rfl; exact hf _ fl_s0.2.2.1; exact hf _ fl_s1.2.2.1)
      (fun i hi => by rcases (show i = 0 ∨ i = 1 by omega) with rfl | rfl; exact hf _ fl_s0.2.2.2; exact hf _ fl_s1.2.2.2)
      (fun i hi j hj => by rcases (show i = 0 ∨ i = 1 by omega) with rfl | rfl; exact hf _ (fl_e0 j hj); exact hf _ (fl_e1 j hj))
      (fun i j hi hj hij => by
        rcases (show i = 0 ∨ i = 1 by omega) with rfl | rfl
        · rcases (show j = 0 ∨ j = 1 by omega) with rfl | rfl
          · exact absurd rfl hij
          · exact Or.inl (hf _ fl_cs.2.2)
        · rcases (show j = 0 ∨ j = 1 by omega) with rfl | rfl
          · exact Or.inr (hf _ fl_cs.2.2)
          · exact absurd rfl hij) hA
  refine ⟨(((fun k => if k = 0 then c0 else if k = 1 then c1 else if k = 2 then c2 else if k = 3 then c3 else if k = 4 then c4 else if k = 5 then c5 else if k = 6 then c6 else if k = 7 then c7 else c8), (fun k => if k = 0 then i0 else if k = 1 then i1 else if k = 2 then i2 else if k = 3 then i3 else if k = 4 then i4 else if k = 5 then i5 else if k = 6 then i6 else if k = 7 then i7 else i8)), (fun k => if k = 20 then a20 else if k = 21 then a21 else if k = 22 then a22 else a23), s.heap.size, (fun a => if a = 0 then b else if a = 1 then tA' else if a = 2 then adK 0 else if a = 3 then adK 1 else if a = 4 then adV 0 else adV 1), vF, (fun a j => if a = 0 then xs j else if a = 1 then mAbv.getD j 0 else if a = 4 then mBt0.getD j 0 else if a = 5 then mBt1.getD j 0 else 0), (fun a => if a = 0 then (30, L) else if a = 1 then (30, 6) else if a = 2 then (31, 0) else if a = 3 then (31, 0) else if a = 4 then (32, 38) else (32, 55))), ⟨⟨?_, ?_⟩, ?_, ?_, ?_, ?_, ?_, ?_, ?_, ?_, ?_, ?_, ?_, ?_, Nat.le_refl _, rfl, rfl, rfl, rfl, rfl, rfl, fun j => rfl, fun j => rfl, fun j => rfl, ?_⟩, rfl, rfl, rfl⟩
  · intro c q hq
    match c, hq with
    | 0, hq => cases hq; exact K0
    | 1, hq => cases hq; exact K1
    | 2, hq => cases hq; exact K2
    | 3, hq => cases hq; exact K3
    | 4, hq => cases hq; exact K4
    | 5, hq => cases hq; exact K5
    | 6, hq => cases hq; exact K6
    | 7, hq => cases hq; exact K7
    | 8, hq => cases hq; exact K8
    | c + 9, hq => cases hq
  · intro k q hq
    match k, hq with
    | 0, hq => cases hq; exact ⟨fun n z => ⟨fun k h => (by cases h), k20, g20, p20, e20⟩, f20⟩
    | 1, hq => cases hq; exact ⟨fun n z => ⟨fun k h => (by cases h), k21, g21, p21, e21⟩, f21⟩
    | 2, hq => cases hq; exact ⟨fun n z => ⟨fun k h => (by cases h), k22, g22, p22, e22⟩, k22, p22, g22, e22, f22, n22⟩
    | 3, hq => cases hq; exact ⟨fun n z => ⟨fun k h => (by cases h), k23', g23, p23, e23⟩, k23', p23, g23, e23, f23, n23⟩
    | k + 4, hq => cases hq
  · intro q hq
    obtain ⟨h1, a, i, x, h, rfl⟩ := nest_in q hq
    exact va_Nw.of rfl (hts _ h1)
  · obtain ⟨scr, h1, h2, h3, h4, h5⟩ := hX
    exact ⟨scr, h1, h2, h3, by rw [h4]; exact Nat.le_refl _, by rw [h4]; rfl, h5, hA b hbl⟩
  · exact hAT
  · exact va_Zof (args := #[Value.ref b]) (hts _ (tb_4 112 rfl)) (hg _ gi_initialized_RX2) hAe hA
  · exact va_Zof (args := #[Value.ref b]) (hts _ (tb_1 219 rfl)) (hg _ gi_initialized_RJ0) (va_eqi (hf _ fl_cs.1)) hA
  · exact va_Zof (args := #[Value.ref b]) (hts _ (tb_1 235 rfl)) (hg _ gi_initialized_RJ3) hFe hA
  · refine ⟨fun i hi => ?_, fun i j hi hj e => ?_⟩
    · rcases (show i = 0 ∨ i = 1 by omega) with rfl | rfl
      · exact hSt.1 0 (by decide)
      · exact hSt.1 1 (by decide)
    · rcases (show i = 0 ∨ i = 1 by omega) with rfl | rfl
      · rcases (show j = 0 ∨ j = 1 by omega) with rfl | rfl
        · rfl
        · exact hSt.2 0 1 (by decide) (by decide) e
      · rcases (show j = 0 ∨ j = 1 by omega) with rfl | rfl
        · exact hSt.2 1 0 (by decide) (by decide) e
        · rfl
  · exact vk_R.of (A := #[Value.ref b]) (hts _ (tb_1 209 rfl)) (hStE 0 (by decide))
  · exact vk_R.of (A := #[Value.ref b]) (hts _ (tb_2 43 rfl)) (hStE 1 (by decide))
  · exact va_Nw.of rfl (hts _ (tb_2 110 rfl))
  · exact va_AO.of (hts _ (tb_1 60 rfl))
  · exact va_AO.of (hts _ (tb_1 62 rfl))
  · show vF.category = 1
    cases vF <;> simp_all [Value.isRef, Value.category]
