/-! arithmetic, stack, branches, switches, ends -/
section OKS
variable {cc : ByteArray} {own : String} {hl : Bool} {nL : Nat} {rt : Option FieldType} {ini : Bool} {pc : Nat}
theorem ok_iadd (hd : decode cc pc = .ok (.iadd, 1)) : mOK cc own hl nL rt ini pc (mcBin (fun x y => x + y) (pc + 1)) := by
  intro w d p l e R s m args below meth c Q r n0 l0 hml hini X C hC K hK L S σ Y h hLn hn hs ls H locs hL hR hS
  unfold mcBin at h
  split at h
  · exact lv_iadd X.1 X.2.1 hd (hK _ _ _ _ _ h hLn hn hs ls H locs hL hR hS)
  · exact h.elim
theorem ok_isub (hd : decode cc pc = .ok (.isub, 1)) : mOK cc own hl nL rt ini pc (mcBin (fun x y => x - y) (pc + 1)) := by
  intro w d p l e R s m args below meth c Q r n0 l0 hml hini X C hC K hK L S σ Y h hLn hn hs ls H locs hL hR hS
  unfold mcBin at h
  split at h
  · exact lv_isub X.1 X.2.1 hd (hK _ _ _ _ _ h hLn hn hs ls H locs hL hR hS)
  · exact h.elim
theorem ok_imul (hd : decode cc pc = .ok (.imul, 1)) : mOK cc own hl nL rt ini pc (mcBin (fun x y => x * y) (pc + 1)) := by
  intro w d p l e R s m args below meth c Q r n0 l0 hml hini X C hC K hK L S σ Y h hLn hn hs ls H locs hL hR hS
  unfold mcBin at h
  split at h
  · exact lv_imul X.1 X.2.1 hd (hK _ _ _ _ _ h hLn hn hs ls H locs hL hR hS)
  · exact h.elim
theorem ok_iand (hd : decode cc pc = .ok (.iand, 1)) : mOK cc own hl nL rt ini pc (mcBin (fun x y => x &&& y) (pc + 1)) := by
  intro w d p l e R s m args below meth c Q r n0 l0 hml hini X C hC K hK L S σ Y h hLn hn hs ls H locs hL hR hS
  unfold mcBin at h
  split at h
  · exact lv_iand X.1 X.2.1 hd (hK _ _ _ _ _ h hLn hn hs ls H locs hL hR hS)
  · exact h.elim
theorem ok_ior (hd : decode cc pc = .ok (.ior, 1)) : mOK cc own hl nL rt ini pc (mcBin (fun x y => x ||| y) (pc + 1)) := by
  intro w d p l e R s m args below meth c Q r n0 l0 hml hini X C hC K hK L S σ Y h hLn hn hs ls H locs hL hR hS
  unfold mcBin at h
  split at h
  · exact lv_ior X.1 X.2.1 hd (hK _ _ _ _ _ h hLn hn hs ls H locs hL hR hS)
  · exact h.elim
theorem ok_ixor (hd : decode cc pc = .ok (.ixor, 1)) : mOK cc own hl nL rt ini pc (mcBin (fun x y => x ^^^ y) (pc + 1)) := by
  intro w d p l e R s m args below meth c Q r n0 l0 hml hini X C hC K hK L S σ Y h hLn hn hs ls H locs hL hR hS
  unfold mcBin at h
  split at h
  · exact lv_ixor X.1 X.2.1 hd (hK _ _ _ _ _ h hLn hn hs ls H locs hL hR hS)
  · exact h.elim
theorem ok_ishl (hd : decode cc pc = .ok (.ishl, 1)) : mOK cc own hl nL rt ini pc (mcBin (fun x y => x <<< (y &&& 31)) (pc + 1)) := by
  intro w d p l e R s m args below meth c Q r n0 l0 hml hini X C hC K hK L S σ Y h hLn hn hs ls H locs hL hR hS
  unfold mcBin at h
  split at h
  · exact lv_ishl X.1 X.2.1 hd (hK _ _ _ _ _ h hLn hn hs ls H locs hL hR hS)
  · exact h.elim
theorem ok_ishr (hd : decode cc pc = .ok (.ishr, 1)) : mOK cc own hl nL rt ini pc (mcBin (fun x y => x >>> (y &&& 31)) (pc + 1)) := by
  intro w d p l e R s m args below meth c Q r n0 l0 hml hini X C hC K hK L S σ Y h hLn hn hs ls H locs hL hR hS
  unfold mcBin at h
  split at h
  · exact lv_ishr X.1 X.2.1 hd (hK _ _ _ _ _ h hLn hn hs ls H locs hL hR hS)
  · exact h.elim
theorem ok_iushr (hd : decode cc pc = .ok (.iushr, 1)) : mOK cc own hl nL rt ini pc (mcBin (fun x y => (x.toUInt32 >>> (y.toUInt32 &&& Int32.toUInt32 31)).toInt32) (pc + 1)) := by
  intro w d p l e R s m args below meth c Q r n0 l0 hml hini X C hC K hK L S σ Y h hLn hn hs ls H locs hL hR hS
  unfold mcBin at h
  split at h
  · exact lv_iushr X.1 X.2.1 hd rfl (hK _ _ _ _ _ h hLn hn hs ls H locs hL hR hS)
  · exact h.elim
theorem ok_idiv (hd : decode cc pc = .ok (.idiv, 1)) : mOK cc own hl nL rt ini pc (mcDiv (fun x y => x / y) (pc + 1)) := by
  intro w d p l e R s m args below meth c Q r n0 l0 hml hini X C hC K hK L S σ Y h hLn hn hs ls H locs hL hR hS
  unfold mcDiv at h
  split at h
  · exact lv_idiv X.1 X.2.1 hd h.1 (hK _ _ _ _ _ h.2 hLn hn hs ls H locs hL hR hS)
  · exact h.elim
theorem ok_irem (hd : decode cc pc = .ok (.irem, 1)) : mOK cc own hl nL rt ini pc (mcDiv (fun x y => x - x / y * y) (pc + 1)) := by
  intro w d p l e R s m args below meth c Q r n0 l0 hml hini X C hC K hK L S σ Y h hLn hn hs ls H locs hL hR hS
  unfold mcDiv at h
  split at h
  · exact lv_irem X.1 X.2.1 hd h.1 (hK _ _ _ _ _ h.2 hLn hn hs ls H locs hL hR hS)
  · exact h.elim
theorem ok_ineg (hd : decode cc pc = .ok (.ineg, 1)) : mOK cc own hl nL rt ini pc (mcUn (fun x => -x) (pc + 1)) := by
  intro w d p l e R s m args below meth c Q r n0 l0 hml hini X C hC K hK L S σ Y h hLn hn hs ls H locs hL hR hS
  unfold mcUn at h
  split at h
  · exact lv_ineg X.1 X.2.1 hd  (hK _ _ _ _ _ h hLn hn hs ls H locs hL hR hS)
  · exact h.elim
theorem ok_i2b (hd : decode cc pc = .ok (.i2b, 1)) : mOK cc own hl nL rt ini pc (mcUn (fun x => x.toInt8.toInt32) (pc + 1)) := by
  intro w d p l e R s m args below meth c Q r n0 l0 hml hini X C hC K hK L S σ Y h hLn hn hs ls H locs hL hR hS
  unfold mcUn at h
  split at h
  · exact lv_i2b X.1 X.2.1 hd rfl (hK _ _ _ _ _ h hLn hn hs ls H locs hL hR hS)
  · exact h.elim
theorem ok_i2s (hd : decode cc pc = .ok (.i2s, 1)) : mOK cc own hl nL rt ini pc (mcUn (fun x => x.toInt16.toInt32) (pc + 1)) := by
  intro w d p l e R s m args below meth c Q r n0 l0 hml hini X C hC K hK L S σ Y h hLn hn hs ls H locs hL hR hS
  unfold mcUn at h
  split at h
  · exact lv_i2s X.1 X.2.1 hd rfl (hK _ _ _ _ _ h hLn hn hs ls H locs hL hR hS)
  · exact h.elim
theorem ok_i2c (hd : decode cc pc = .ok (.i2c, 1)) : mOK cc own hl nL rt ini pc (mcUn (fun x => (x.toUInt32 % 65536).toInt32) (pc + 1)) := by
  intro w d p l e R s m args below meth c Q r n0 l0 hml hini X C hC K hK L S σ Y h hLn hn hs ls H locs hL hR hS
  unfold mcUn at h
  split at h
  · exact lv_i2c X.1 X.2.1 hd rfl (hK _ _ _ _ _ h hLn hn hs ls H locs hL hR hS)
  · exact h.elim
theorem ok_i2l (hd : decode cc pc = .ok (.i2l, 1)) : mOK cc own hl nL rt ini pc (mcI2l (pc + 1)) := by
  intro w d p l e R s m args below meth c Q r n0 l0 hml hini X C hC K hK L S σ Y h hLn hn hs ls H locs hL hR hS
  unfold mcI2l at h
  split at h
  · exact lv_i2l X.1 X.2.1 hd rfl (hK _ _ _ _ _ h hLn hn hs ls H locs hL hR hS)
  · exact h.elim
theorem ok_l2i (hd : decode cc pc = .ok (.l2i, 1)) : mOK cc own hl nL rt ini pc (mcL2i (pc + 1)) := by
  intro w d p l e R s m args below meth c Q r n0 l0 hml hini X C hC K hK L S σ Y h hLn hn hs ls H locs hL hR hS
  unfold mcL2i at h
  split at h
  · exact lv_l2i X.1 X.2.1 hd rfl (hK _ _ _ _ _ h hLn hn hs ls H locs hL hR hS)
  · exact h.elim
theorem ok_ladd (hd : decode cc pc = .ok (.ladd, 1)) : mOK cc own hl nL rt ini pc (mcBinJ (fun x y => x + y) (pc + 1)) := by
  intro w d p l e R s m args below meth c Q r n0 l0 hml hini X C hC K hK L S σ Y h hLn hn hs ls H locs hL hR hS
  unfold mcBinJ at h
  split at h
  · exact lv_ladd X.1 X.2.1 hd (hK _ _ _ _ _ h hLn hn hs ls H locs hL hR hS)
  · exact h.elim
theorem ok_lsub (hd : decode cc pc = .ok (.lsub, 1)) : mOK cc own hl nL rt ini pc (mcBinJ (fun x y => x - y) (pc + 1)) := by
  intro w d p l e R s m args below meth c Q r n0 l0 hml hini X C hC K hK L S σ Y h hLn hn hs ls H locs hL hR hS
  unfold mcBinJ at h
  split at h
  · exact lv_lsub X.1 X.2.1 hd (hK _ _ _ _ _ h hLn hn hs ls H locs hL hR hS)
  · exact h.elim
theorem ok_lmul (hd : decode cc pc = .ok (.lmul, 1)) : mOK cc own hl nL rt ini pc (mcBinJ (fun x y => x * y) (pc + 1)) := by
  intro w d p l e R s m args below meth c Q r n0 l0 hml hini X C hC K hK L S σ Y h hLn hn hs ls H locs hL hR hS
  unfold mcBinJ at h
  split at h
  · exact lv_lmul X.1 X.2.1 hd (hK _ _ _ _ _ h hLn hn hs ls H locs hL hR hS)
  · exact h.elim
theorem ok_ldiv (hd : decode cc pc = .ok (.ldiv, 1)) : mOK cc own hl nL rt ini pc (mcDivJ (fun x y => x / y) (pc + 1)) := by
  intro w d p l e R s m args below meth c Q r n0 l0 hml hini X C hC K hK L S σ Y h hLn hn hs ls H locs hL hR hS
  unfold mcDivJ at h
  split at h
  · exact lv_ldiv X.1 X.2.1 hd h.1 (hK _ _ _ _ _ h.2 hLn hn hs ls H locs hL hR hS)
  · exact h.elim
theorem ok_lrem (hd : decode cc pc = .ok (.lrem, 1)) : mOK cc own hl nL rt ini pc (mcDivJ (fun x y => x - x / y * y) (pc + 1)) := by
  intro w d p l e R s m args below meth c Q r n0 l0 hml hini X C hC K hK L S σ Y h hLn hn hs ls H locs hL hR hS
  unfold mcDivJ at h
  split at h
  · exact lv_lrem X.1 X.2.1 hd h.1 (hK _ _ _ _ _ h.2 hLn hn hs ls H locs hL hR hS)
  · exact h.elim
theorem ok_lcmp (hd : decode cc pc = .ok (.lcmp, 1)) : mOK cc own hl nL rt ini pc (mcLcmp (pc + 1)) := by
  intro w d p l e R s m args below meth c Q r n0 l0 hml hini X C hC K hK L S σ Y h hLn hn hs ls H locs hL hR hS
  unfold mcLcmp at h
  split at h
  · exact W.lcmp X.1 X.2.1 hd (hK _ _ _ _ _ h hLn hn hs ls H locs hL hR hS)
  · exact h.elim
theorem ok_dup (hd : decode cc pc = .ok (.dup, 1)) : mOK cc own hl nL rt ini pc (mcDup (pc + 1)) := by
  intro w d p l e R s m args below meth c Q r n0 l0 hml hini X C hC K hK L S σ Y h hLn hn hs ls H locs hL hR hS
  unfold mcDup at h
  split at h
  · exact lv_dup X.1 X.2.1 hd rfl (hK _ _ _ _ _ h hLn hn hs ls H locs hL hR hS)
  · exact lv_dup X.1 X.2.1 hd rfl (hK _ _ _ _ _ h hLn hn hs ls H locs hL hR hS)
  · exact h.elim
theorem ok_dup2 (hd : decode cc pc = .ok (.dup2, 1)) : mOK cc own hl nL rt ini pc (mcDup2 (pc + 1)) := by
  intro w d p l e R s m args below meth c Q r n0 l0 hml hini X C hC K hK L S σ Y h hLn hn hs ls H locs hL hR hS
  unfold mcDup2 at h
  split at h
  · exact lv_dup2_11 X.1 X.2.1 hd rfl rfl (hK _ _ _ _ _ h hLn hn hs ls H locs hL hR hS)
  · exact h.elim
theorem ok_pop (hd : decode cc pc = .ok (.pop, 1)) : mOK cc own hl nL rt ini pc (mcPop (pc + 1)) := by
  intro w d p l e R s m args below meth c Q r n0 l0 hml hini X C hC K hK L S σ Y h hLn hn hs ls H locs hL hR hS
  unfold mcPop at h
  split at h
  · rename_i x S'
    exact lv_pop (va := .int x) X.1 X.2.1 hd rfl (hK _ _ _ _ _ h hLn hn hs ls H locs hL hR hS)
  · exact h.elim
theorem ok_goto {off : Int} {t : Nat} (hd : decode cc pc = .ok (.goto off, 3)) (ht : (pc : Int) + off = (t : Int)) : mOK cc own hl nL rt ini pc (mcGoto t) := by
  intro w d p l e R s m args below meth c Q r n0 l0 hml hini X C hC K hK L S σ Y h hLn hn hs ls H locs hL hR hS
  exact lv_goto X.1 X.2.1 hd ht (hK _ _ _ _ _ h hLn hn hs ls H locs hL hR hS)
theorem ok_if_eq {off : Int} {t : Nat} (hd : decode cc pc = .ok (.ifCond .eq off, 3)) (ht : (pc : Int) + off = (t : Int)) : mOK cc own hl nL rt ini pc (mcIf1 (fun x => x = 0) t (pc + 3)) := by
  intro w d p l e R s m args below meth c Q r n0 l0 hml hini X C hC K hK L S σ Y h hLn hn hs ls H locs hL hR hS
  unfold mcIf1 at h
  split at h
  · exact lv_if_eq X.1 X.2.1 hd ht (fun q => hK _ _ _ _ _ (h.1 q) hLn hn hs ls H locs hL hR hS) (fun q => hK _ _ _ _ _ (h.2 q) hLn hn hs ls H locs hL hR hS)
  · exact h.elim
theorem ok_if_ne {off : Int} {t : Nat} (hd : decode cc pc = .ok (.ifCond .ne off, 3)) (ht : (pc : Int) + off = (t : Int)) : mOK cc own hl nL rt ini pc (mcIf1 (fun x => x = 0) (pc + 3) t) := by
  intro w d p l e R s m args below meth c Q r n0 l0 hml hini X C hC K hK L S σ Y h hLn hn hs ls H locs hL hR hS
  unfold mcIf1 at h
  split at h
  · exact lv_if_ne X.1 X.2.1 hd ht (fun q => hK _ _ _ _ _ (h.2 q) hLn hn hs ls H locs hL hR hS) (fun q => hK _ _ _ _ _ (h.1 q) hLn hn hs ls H locs hL hR hS)
  · exact h.elim
theorem ok_if_lt {off : Int} {t : Nat} (hd : decode cc pc = .ok (.ifCond .lt off, 3)) (ht : (pc : Int) + off = (t : Int)) : mOK cc own hl nL rt ini pc (mcIf1 (fun x => x < 0) t (pc + 3)) := by
  intro w d p l e R s m args below meth c Q r n0 l0 hml hini X C hC K hK L S σ Y h hLn hn hs ls H locs hL hR hS
  unfold mcIf1 at h
  split at h
  · exact lv_if_lt X.1 X.2.1 hd ht (fun q => hK _ _ _ _ _ (h.1 q) hLn hn hs ls H locs hL hR hS) (fun q => hK _ _ _ _ _ (h.2 q) hLn hn hs ls H locs hL hR hS)
  · exact h.elim
theorem ok_if_ge {off : Int} {t : Nat} (hd : decode cc pc = .ok (.ifCond .ge off, 3)) (ht : (pc : Int) + off = (t : Int)) : mOK cc own hl nL rt ini pc (mcIf1 (fun x => 0 ≤ x) t (pc + 3)) := by
  intro w d p l e R s m args below meth c Q r n0 l0 hml hini X C hC K hK L S σ Y h hLn hn hs ls H locs hL hR hS
  unfold mcIf1 at h
  split at h
  · exact lv_if_ge X.1 X.2.1 hd ht (fun q => hK _ _ _ _ _ (h.1 q) hLn hn hs ls H locs hL hR hS) (fun q => hK _ _ _ _ _ (h.2 q) hLn hn hs ls H locs hL hR hS)
  · exact h.elim
theorem ok_if_gt {off : Int} {t : Nat} (hd : decode cc pc = .ok (.ifCond .gt off, 3)) (ht : (pc : Int) + off = (t : Int)) : mOK cc own hl nL rt ini pc (mcIf1 (fun x => 0 < x) t (pc + 3)) := by
  intro w d p l e R s m args below meth c Q r n0 l0 hml hini X C hC K hK L S σ Y h hLn hn hs ls H locs hL hR hS
  unfold mcIf1 at h
  split at h
  · exact lv_if_gt X.1 X.2.1 hd ht (fun q => hK _ _ _ _ _ (h.1 q) hLn hn hs ls H locs hL hR hS) (fun q => hK _ _ _ _ _ (h.2 q) hLn hn hs ls H locs hL hR hS)
  · exact h.elim
theorem ok_if_le {off : Int} {t : Nat} (hd : decode cc pc = .ok (.ifCond .le off, 3)) (ht : (pc : Int) + off = (t : Int)) : mOK cc own hl nL rt ini pc (mcIf1 (fun x => x ≤ 0) t (pc + 3)) := by
  intro w d p l e R s m args below meth c Q r n0 l0 hml hini X C hC K hK L S σ Y h hLn hn hs ls H locs hL hR hS
  unfold mcIf1 at h
  split at h
  · exact lv_if_le X.1 X.2.1 hd ht (fun q => hK _ _ _ _ _ (h.1 q) hLn hn hs ls H locs hL hR hS) (fun q => hK _ _ _ _ _ (h.2 q) hLn hn hs ls H locs hL hR hS)
  · exact h.elim
theorem ok_icmp_eq {off : Int} {t : Nat} (hd : decode cc pc = .ok (.if_icmp .eq off, 3)) (ht : (pc : Int) + off = (t : Int)) : mOK cc own hl nL rt ini pc (mcIf2 (fun x y => x = y) t (pc + 3)) := by
  intro w d p l e R s m args below meth c Q r n0 l0 hml hini X C hC K hK L S σ Y h hLn hn hs ls H locs hL hR hS
  unfold mcIf2 at h
  split at h
  · exact lv_icmp_eq X.1 X.2.1 hd ht (fun q => hK _ _ _ _ _ (h.1 q) hLn hn hs ls H locs hL hR hS) (fun q => hK _ _ _ _ _ (h.2 q) hLn hn hs ls H locs hL hR hS)
  · exact h.elim
theorem ok_icmp_ne {off : Int} {t : Nat} (hd : decode cc pc = .ok (.if_icmp .ne off, 3)) (ht : (pc : Int) + off = (t : Int)) : mOK cc own hl nL rt ini pc (mcIf2 (fun x y => x = y) (pc + 3) t) := by
  intro w d p l e R s m args below meth c Q r n0 l0 hml hini X C hC K hK L S σ Y h hLn hn hs ls H locs hL hR hS
  unfold mcIf2 at h
  split at h
  · exact lv_icmp_ne X.1 X.2.1 hd ht (fun q => hK _ _ _ _ _ (h.2 q) hLn hn hs ls H locs hL hR hS) (fun q => hK _ _ _ _ _ (h.1 q) hLn hn hs ls H locs hL hR hS)
  · exact h.elim
theorem ok_icmp_lt {off : Int} {t : Nat} (hd : decode cc pc = .ok (.if_icmp .lt off, 3)) (ht : (pc : Int) + off = (t : Int)) : mOK cc own hl nL rt ini pc (mcIf2 (fun x y => x < y) t (pc + 3)) := by
  intro w d p l e R s m args below meth c Q r n0 l0 hml hini X C hC K hK L S σ Y h hLn hn hs ls H locs hL hR hS
  unfold mcIf2 at h
  split at h
  · exact lv_icmp_lt X.1 X.2.1 hd ht (fun q => hK _ _ _ _ _ (h.1 q) hLn hn hs ls H locs hL hR hS) (fun q => hK _ _ _ _ _ (h.2 q) hLn hn hs ls H locs hL hR hS)
  · exact h.elim
theorem ok_icmp_ge {off : Int} {t : Nat} (hd : decode cc pc = .ok (.if_icmp .ge off, 3)) (ht : (pc : Int) + off = (t : Int)) : mOK cc own hl nL rt ini pc (mcIf2 (fun x y => y ≤ x) t (pc + 3)) := by
  intro w d p l e R s m args below meth c Q r n0 l0 hml hini X C hC K hK L S σ Y h hLn hn hs ls H locs hL hR hS
  unfold mcIf2 at h
  split at h
  · exact lv_icmp_ge X.1 X.2.1 hd ht (fun q => hK _ _ _ _ _ (h.1 q) hLn hn hs ls H locs hL hR hS) (fun q => hK _ _ _ _ _ (h.2 q) hLn hn hs ls H locs hL hR hS)
  · exact h.elim
theorem ok_icmp_gt {off : Int} {t : Nat} (hd : decode cc pc = .ok (.if_icmp .gt off, 3)) (ht : (pc : Int) + off = (t : Int)) : mOK cc own hl nL rt ini pc (mcIf2 (fun x y => y < x) t (pc + 3)) := by
  intro w d p l e R s m args below meth c Q r n0 l0 hml hini X C hC K hK L S σ Y h hLn hn hs ls H locs hL hR hS
  unfold mcIf2 at h
  split at h
  · exact lv_icmp_gt X.1 X.2.1 hd ht (fun q => hK _ _ _ _ _ (h.1 q) hLn hn hs ls H locs hL hR hS) (fun q => hK _ _ _ _ _ (h.2 q) hLn hn hs ls H locs hL hR hS)
  · exact h.elim
theorem ok_icmp_le {off : Int} {t : Nat} (hd : decode cc pc = .ok (.if_icmp .le off, 3)) (ht : (pc : Int) + off = (t : Int)) : mOK cc own hl nL rt ini pc (mcIf2 (fun x y => x ≤ y) t (pc + 3)) := by
  intro w d p l e R s m args below meth c Q r n0 l0 hml hini X C hC K hK L S σ Y h hLn hn hs ls H locs hL hR hS
  unfold mcIf2 at h
  split at h
  · exact lv_icmp_le X.1 X.2.1 hd ht (fun q => hK _ _ _ _ _ (h.1 q) hLn hn hs ls H locs hL hR hS) (fun q => hK _ _ _ _ _ (h.2 q) hLn hn hs ls H locs hL hR hS)
  · exact h.elim
theorem ok_ifnonnull {off : Int} {t : Nat} (hd : decode cc pc = .ok (.ifnonnull off, 3)) (ht : (pc : Int) + off = (t : Int)) : mOK cc own hl nL rt ini pc (mcIfNN t (pc + 3)) := by
  intro w d p l e R s m args below meth c Q r n0 l0 hml hini X C hC K hK L S σ Y h hLn hn hs ls H locs hL hR hS
  unfold mcIfNN at h
  split at h
  · exact lv_ifnonnull X.1 X.2.1 hd ht (hK _ _ _ _ _ h hLn hn hs ls H locs hL hR hS)
  · exact lv_ifnonnullN X.1 X.2.1 hd (hK _ _ _ _ _ h hLn hn hs ls H locs hL hR hS)
  · exact h.elim
/-- where a switch goes, by its rows -/
def mSwT : List (Int32 × Nat) → Nat → Int32 → Nat
  | [], d, _ => d
  | q :: l, d, x => if x = q.1 then q.2 else mSwT l d x
theorem mSw_at : ∀ (l : List (Int32 × Nat)) (d : Nat) (x : Int32) (K : Nat → Prop), mSw l d x K → K (mSwT l d x)
  | [], _, _, _, h => h
  | q :: l, d, x, K, h => by
    unfold mSwT
    by_cases e : x = q.1
    · rw [if_pos e]; exact h.1 e
    · rw [if_neg e]; exact mSw_at l d x K (h.2 e)
theorem mSwT_look : ∀ (l : List (Int32 × Nat)) (ps : List (Int × Int)) (d : Nat) (df : Int) (pc : Nat) (x : Int32), l.map (fun q => (q.1.toInt, (q.2 : Int))) = ps.map (fun q => (q.1, (pc : Int) + q.2)) → (pc : Int) + df = d → (pc : Int) + Op.lookupswitch.offset ps df x.toInt = (mSwT l d x : Int)
  | [], [], d, df, pc, x, _, h => by simpa [mSwT, Op.lookupswitch.offset] using h
  | [], _ :: _, _, _, _, _, h, _ => by simp at h
  | _ :: _, [], _, _, _, _, h, _ => by simp at h
  | (v, t) :: l, (a, o) :: ps, d, df, pc, x, h, hd => by
    simp only [List.map_cons, List.cons.injEq, Prod.mk.injEq] at h
    obtain ⟨⟨h1, h2⟩, h3⟩ := h
    rw [Op.lookupswitch.offset_cons]
    unfold mSwT
    by_cases e : x = v
    · subst e
      rw [if_pos h1.symm, if_pos rfl]
      exact h2.symm
    · rw [if_neg (fun q => e (Int32.toInt_inj.mp (by rw [h1]; exact q.symm))), if_neg e]
      exact mSwT_look l ps d df pc x h3 hd
theorem ok_lookup {df : Int} {ps : Array (Int × Int)} {len : Nat} {tb : List (Int32 × Nat)} {d0 : Nat} (hd : decode cc pc = .ok (.lookupswitch df ps, len)) (hp : (ps.toList.zip (ps.toList.drop 1)).all (fun (a, next) => a.1 < next.1) = true) (hl0 : tb.map (fun q => (q.1.toInt, (q.2 : Int))) = ps.toList.map (fun q => (q.1, (pc : Int) + q.2))) (hdf : (pc : Int) + df = d0) : mOK cc own hl nL rt ini pc (mcSw tb d0) := by
  intro w d p l e R s m args below meth c Q r n0 l0 hml hini X C hC K hK L S σ Y h hLn hn hs ls H locs hL hR hS
  unfold mcSw at h
  split at h
  · rename_i x S'
    exact lv_lookup X.1 X.2.1 hd hp rfl (mSwT_look tb ps.toList d0 df pc x hl0 hdf) (hK _ _ _ _ _ (mSw_at tb d0 x _ h) hLn hn hs ls H locs hL hR hS)
  · exact h.elim
theorem mSwT_tab : ∀ (l : List (Int32 × Nat)) (os : List Int) (lo : Int) (d pc : Nat) (x : Int32), l.map (fun q => (q.1.toInt, (q.2 : Int))) = (os.zipIdx).map (fun q => (lo + (q.2 : Int), (pc : Int) + q.1)) → (¬ x.toInt < lo → x.toInt < lo + os.length → ∃ off, os[(x.toInt - lo).toNat]? = some off ∧ (pc : Int) + off = (mSwT l d x : Int)) ∧ (x.toInt < lo ∨ lo + os.length ≤ x.toInt → mSwT l d x = d) := by
  have gen : ∀ (l : List (Int32 × Nat)) (os : List Int) (lo : Int) (d pc i : Nat) (x : Int32), l.map (fun q => (q.1.toInt, (q.2 : Int))) = (os.zipIdx i).map (fun q => (lo + (q.2 : Int), (pc : Int) + q.1)) → (lo + i ≤ x.toInt → x.toInt < lo + i + os.length → ∃ off, os[(x.toInt - lo - i).toNat]? = some off ∧ (pc : Int) + off = (mSwT l d x : Int)) ∧ (x.toInt < lo + i ∨ lo + i + os.length ≤ x.toInt → mSwT l d x = d) := by
    intro l
    induction l with
    | nil =>
      intro os lo d pc i x h
      cases os with
      | nil => exact ⟨fun h1 h2 => by simp at h2; omega, fun _ => rfl⟩
      | cons o os => simp at h
    | cons q l ih =>
      intro os lo d pc i x h
      cases os with
      | nil => simp at h
      | cons o os =>
        simp only [List.zipIdx_cons, List.map_cons, List.cons.injEq, Prod.mk.injEq] at h
        obtain ⟨⟨h1, h2⟩, h3⟩ := h
        obtain ⟨g1, g2⟩ := ih os lo d pc (i + 1) x h3
        unfold mSwT
        by_cases e : x = q.1
        · rw [if_pos e]
          have hx : x.toInt = lo + i := by rw [e]; exact h1
          refine ⟨fun _ _ => ⟨o, ?_, h2.symm⟩, fun k => ?_⟩
          · rw [show (x.toInt - lo - i).toNat = 0 by omega]; rfl
          · simp only [List.length_cons] at k; omega
        · rw [if_neg e]
          have hx : x.toInt ≠ lo + i := fun k => e (Int32.toInt_inj.mp (by rw [h1]; exact k))
          refine ⟨fun k1 k2 => ?_, fun k => g2 ?_⟩
          · simp only [List.length_cons] at k2
            obtain ⟨off, k3, k4⟩ := g1 (by omega) (by omega)
            refine ⟨off, ?_, k4⟩
            rw [show (x.toInt - lo - i).toNat = (x.toInt - lo - ((i + 1 : Nat) : Int)).toNat + 1 by omega, List.getElem?_cons_succ]
            exact k3
          · simp only [List.length_cons] at k; omega
  intro l os lo d pc x h
  obtain ⟨g1, g2⟩ := gen l os lo d pc 0 x h
  refine ⟨fun h1 h2 => ?_, fun h1 => g2 (by simpa using h1)⟩
  obtain ⟨off, k1, k2⟩ := g1 (by simpa using Int.not_lt.mp h1) (by simpa using h2)
  exact ⟨off, by simpa using k1, k2⟩
theorem ok_table {df lo hi : Int} {os : Array Int} {len : Nat} {tb : List (Int32 × Nat)} {d0 : Nat} (hd : decode cc pc = .ok (.tableswitch df lo hi os, len)) (hz : hi = lo + os.toList.length - 1) (hl0 : tb.map (fun q => (q.1.toInt, (q.2 : Int))) = (os.toList.zipIdx).map (fun q => (lo + (q.2 : Int), (pc : Int) + q.1))) (hdf : (pc : Int) + df = d0) : mOK cc own hl nL rt ini pc (mcSw tb d0) := by
  intro w d p l e R s m args below meth c Q r n0 l0 hml hini X C hC K hK L S σ Y h hLn hn hs ls H locs hL hR hS
  unfold mcSw at h
  split at h
  · rename_i x S'
    have hk := mSw_at tb d0 x _ h
    obtain ⟨g1, g2⟩ := mSwT_tab tb os.toList lo d0 pc x hl0
    by_cases hx : x.toInt < lo ∨ hi < x.toInt
    · exact lv_tableOut X.1 X.2.1 hd hx (by rw [hdf, g2 (by omega)]) (hK _ _ _ _ _ hk hLn hn hs ls H locs hL hR hS)
    · obtain ⟨off, k1, k2⟩ := g1 (by omega) (by omega)
      exact lv_tableIn X.1 X.2.1 hd (by omega) (by omega) (by rw [← Array.getElem?_toList]; exact k1) k2 (hK _ _ _ _ _ hk hLn hn hs ls H locs hL hR hS)
  · exact h.elim
theorem ok_retI (hrt : rt = some .int) (hd : decode cc pc = .ok (.ireturn, 1)) : mOK cc own hl nL rt ini pc mcRetI := by
  intro w d p l e R s m args below meth c Q r n0 l0 hml hini X C hC K hK L S σ Y h hLn hn hs ls H locs hL hR hS
  unfold mcRetI at h
  split at h
  · rename_i x
    subst h
    exact X.2.2.2.2.2.2.2.2.2 pc ls H locs _ hd (Or.inl ⟨rfl, x, .int, rfl, hrt, rfl⟩) hR hS
  · exact h.elim
theorem ok_retZ (hrt : rt = some .boolean) (hd : decode cc pc = .ok (.ireturn, 1)) : mOK cc own hl nL rt ini pc mcRetZ := by
  intro w d p l e R s m args below meth c Q r n0 l0 hml hini X C hC K hK L S σ Y h hLn hn hs ls H locs hL hR hS
  unfold mcRetZ at h
  split at h
  · rename_i x
    obtain ⟨hx, h⟩ := h
    subst h
    exact X.2.2.2.2.2.2.2.2.2 pc ls H locs _ hd (Or.inl ⟨rfl, x, .boolean, rfl, hrt, by rcases hx with rfl | rfl <;> decide⟩) hR hS
  · exact h.elim
theorem ok_retC (hrt : rt = some .char) (hd : decode cc pc = .ok (.ireturn, 1)) : mOK cc own hl nL rt ini pc mcRetC := by
  intro w d p l e R s m args below meth c Q r n0 l0 hml hini X C hC K hK L S σ Y h hLn hn hs ls H locs hL hR hS
  unfold mcRetC at h
  split at h
  · rename_i x
    obtain ⟨hx, h⟩ := h
    subst h
    exact X.2.2.2.2.2.2.2.2.2 pc ls H locs _ hd (Or.inl ⟨rfl, x, .char, rfl, hrt, hx⟩) hR hS
  · exact h.elim
theorem ok_retB (hrt : rt = some .byte) (hd : decode cc pc = .ok (.ireturn, 1)) : mOK cc own hl nL rt ini pc mcRetB := by
  intro w d p l e R s m args below meth c Q r n0 l0 hml hini X C hC K hK L S σ Y h hLn hn hs ls H locs hL hR hS
  unfold mcRetB at h
  split at h
  · rename_i x
    obtain ⟨hx, h⟩ := h
    subst h
    exact X.2.2.2.2.2.2.2.2.2 pc ls H locs _ hd (Or.inl ⟨rfl, x, .byte, rfl, hrt, hx⟩) hR hS
  · exact h.elim
theorem ok_retJ (hrt : rt = some .long) (hd : decode cc pc = .ok (.lreturn, 1)) : mOK cc own hl nL rt ini pc mcRetJ := by
  intro w d p l e R s m args below meth c Q r n0 l0 hml hini X C hC K hK L S σ Y h hLn hn hs ls H locs hL hR hS
  unfold mcRetJ at h
  split at h
  · rename_i x
    subst h
    exact X.2.2.2.2.2.2.2.2.2 pc ls H locs _ hd (Or.inr (Or.inl ⟨rfl, x, rfl, hrt⟩)) hR hS
  · exact h.elim
theorem ok_retV (hrt : rt = none) (hd : decode cc pc = .ok (.return_, 1)) : mOK cc own hl nL rt ini pc mcRetV := by
  intro w d p l e R s m args below meth c Q r n0 l0 hml hini X C hC K hK L S σ Y h hLn hn hs ls H locs hL hR hS
  unfold mcRetV at h
  split at h
  · subst h
    exact X.2.2.2.2.2.2.2.2.2 pc ls H locs _ hd (Or.inr (Or.inr (Or.inl ⟨rfl, rfl, hrt⟩))) hR hS
  · exact h.elim
theorem ok_retA {ty : FieldType} (hrt : rt = some ty) (hty : (∃ n, ty = .object n) ∨ ∃ t, ty = .array t) (hd : decode cc pc = .ok (.areturn, 1)) : mOK cc own hl nL rt ini pc mcRetA := by
  intro w d p l e R s m args below meth c Q r n0 l0 hml hini X C hC K hK L S σ Y h hLn hn hs ls H locs hL hR hS
  unfold mcRetA at h
  split at h
  · rename_i x
    subst h
    exact X.2.2.2.2.2.2.2.2.2 pc ls H locs _ hd (Or.inr (Or.inr (Or.inr ⟨rfl, x, ty, rfl, hrt, hty⟩))) hR hS
  · exact h.elim
end OKS
