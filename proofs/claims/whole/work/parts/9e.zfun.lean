/-! THE READER, WHILE THE PROGRAM IS BEING MADE -/
/-- 53 cells: all of the program but its first text -/
def LYC (t : mTX) : mLY := (53, 2527, (fun a => bif Nat.ble a 52 then LKL t a else (99, 0)), (fun a k => bif Nat.ble a 52 then LRF t a k else none))

def Z1_readNumber_b5 (t : mTX) (s : mSG) : Option (mSG ⊕ mSG) :=
  if (s.1 25 4) ≤ (s.1 25 8) then
    some (.inr s)
  else
    (s.2.1 25 3).bind (fun a2 =>
      if (mKl (LYC t) a2).1 = 20 ∧ mInb (s.1 25 8) (mKl (LYC t) a2).2 = true then
        if X1_isDigit (s.1 a2 (s.1 25 8).toNatClampNeg) = true then
          (s.2.1 25 3).bind (fun a3 =>
            if (mKl (LYC t) a3).1 = 20 ∧ mInb (s.1 25 8) (mKl (LYC t) a3).2 = true then
              some (.inl (sI (sI s 25 6 ((((s.1 25 6) * 10) + (s.1 a3 (s.1 25 8).toNatClampNeg)) - 48)) 25 8 ((s.1 25 8) + 1)))
            else none)
        else
          some (.inr s)
      else none)

def Z1_readNumber_l5 (t : mTX) (v : mSG) : Option mSG :=
  iter (fun v : mSG => Z1_readNumber_b5 t v) mFU v

def Z1_readNumber_j68 (t : mTX) (s : mSG) : Option mSG :=
  if ((s.1 25 8) - (s.1 25 7)) ≤ 4 then
    some (sI s 25 5 2)
  else
    some (sI s 25 5 1)

def Z1_readNumber (t : mTX) (s : mSG) : Option mSG :=
  (Z1_readNumber_l5 t (sI s 25 6 0)).bind (fun e5 =>
  Z1_readNumber_j68 t e5)

def Z1_isSpelled_b19 (t : mTX) (x1 : Int32) (x2 : Int32) (x3 : Int32) (s : mSG) : Option (Int32 ⊕ (Unit ⊕ Unit)) :=
  if x2 ≤ x3 then
    some (.inr (.inr ()))
  else
    if mInb x3 55 = true then
      (s.2.1 25 3).bind (fun a3 =>
        if (mKl (LYC t) a3).1 = 20 ∧ mInb (((s.1 25 7) + x3) - x1) (mKl (LYC t) a3).2 = true then
          if (mChr 3 x3 s) = (s.1 a3 (((s.1 25 7) + x3) - x1).toNatClampNeg) then
            some (.inl (x3 + 1))
          else
            some (.inr (.inl ()))
        else none)
    else none

def Z1_isSpelled_l19 (t : mTX) (x1 : Int32) (x2 : Int32) (s : mSG) (v : Int32) : Option (Unit ⊕ Unit) :=
  iter (fun v : Int32 => Z1_isSpelled_b19 t x1 x2 v s) mFU v

def Z1_isSpelled (t : mTX) (x1 : Int32) (x2 : Int32) (s : mSG) : Option Bool :=
  if (x2 - x1) = ((s.1 25 8) - (s.1 25 7)) then
    (Z1_isSpelled_l19 t x1 x2 s x1).bind (fun e19 =>
    Sum.elim (fun e19_0 =>
      some false) (fun e19_1 =>
      some true) e19)
  else
    some false

def Z1_readWord_b0 (t : mTX) (s : mSG) : Option (mSG ⊕ mSG) :=
  if (s.1 25 4) ≤ (s.1 25 8) then
    some (.inr s)
  else
    (s.2.1 25 3).bind (fun a2 =>
      if (mKl (LYC t) a2).1 = 20 ∧ mInb (s.1 25 8) (mKl (LYC t) a2).2 = true then
        if X1_isLetter (s.1 a2 (s.1 25 8).toNatClampNeg) = true then
          some (.inl (sI s 25 8 ((s.1 25 8) + 1)))
        else
          some (.inr s)
      else none)

def Z1_readWord_l0 (t : mTX) (v : mSG) : Option mSG :=
  iter (fun v : mSG => Z1_readWord_b0 t v) mFU v

def Z1_readWord_j93_52 (t : mTX) (x1 : Int32) (x2 : Int32) (x3 : Int32) (s : mSG) : Option ((Int32 × Int32 × Int32 × mSG) ⊕ mSG) :=
  some (.inl (x1, x2, x3 + 1, s))

def Z1_readWord_j86_52 (t : mTX) (x1 : Int32) (x3 : Int32) (s : mSG) : Option ((Int32 × Int32 × Int32 × mSG) ⊕ mSG) :=
  Z1_readWord_j93_52 t (x1 + 1) (x3 + 1) x3 s

def Z1_readWord_b52 (t : mTX) (x1 : Int32) (x2 : Int32) (x3 : Int32) (s : mSG) : Option ((Int32 × Int32 × Int32 × mSG) ⊕ mSG) :=
  if 55 ≤ x3 then
    some (.inr s)
  else
    if mInb x3 55 = true then
      if (mChr 3 x3 s) = 32 then
        (Z1_isSpelled t x2 x3 s).bind (fun r5 =>
        if r5 = true then
          Z1_readWord_j86_52 t x1 x3 (sI s 25 5 x1)
        else
          Z1_readWord_j86_52 t x1 x3 s)
      else
        Z1_readWord_j93_52 t x1 x2 x3 s
    else none

def Z1_readWord_l52 (t : mTX) (v : Int32 × Int32 × Int32 × mSG) : Option mSG :=
  iter (fun v : Int32 × Int32 × Int32 × mSG => Z1_readWord_b52 t v.1 v.2.1 v.2.2.1 v.2.2.2) mFU v

def Z1_readWord_j39 (t : mTX) (s : mSG) : Option mSG :=
  (Z1_readWord_l52 t (256, 0, 0, sI s 25 5 1)).bind (fun e52 =>
  some e52)

def Z1_readWord (t : mTX) (s : mSG) : Option mSG :=
  (Z1_readWord_l0 t s).bind (fun e0 =>
  Z1_readWord_j39 t e0)

def Z1_advance_j47_8 (t : mTX) (s : mSG) : Option (mSG ⊕ mSG) :=
  some (.inl (sI s 25 7 ((s.1 25 7) + 1)))

def Z1_advance_b8 (t : mTX) (s : mSG) : Option (mSG ⊕ mSG) :=
  if (s.1 25 4) ≤ (s.1 25 7) then
    some (.inr s)
  else
    (s.2.1 25 3).bind (fun a2 =>
      if (mKl (LYC t) a2).1 = 20 ∧ mInb (s.1 25 7) (mKl (LYC t) a2).2 = true then
        if (s.1 a2 (s.1 25 7).toNatClampNeg) = 32 then
          Z1_advance_j47_8 t s
        else
          (s.2.1 25 3).bind (fun a4 =>
            if (mKl (LYC t) a4).1 = 20 ∧ mInb (s.1 25 7) (mKl (LYC t) a4).2 = true then
              if (s.1 a4 (s.1 25 7).toNatClampNeg) = 10 then
                Z1_advance_j47_8 t s
              else
                some (.inr s)
            else none)
      else none)

def Z1_advance_l8 (t : mTX) (v : mSG) : Option mSG :=
  iter (fun v : mSG => Z1_advance_b8 t v) mFU v

def Z1_advance_j60 (t : mTX) (s : mSG) : Option mSG :=
  if (s.1 25 7) < (s.1 25 4) then
    (s.2.1 25 3).bind (fun a7 =>
      if (mKl (LYC t) a7).1 = 20 ∧ mInb (s.1 25 7) (mKl (LYC t) a7).2 = true then
        if X1_isLetter ((sI s 25 8 (s.1 25 7)).1 a7 (s.1 25 7).toNatClampNeg) = true then
          (Z1_readWord t (sI s 25 8 (s.1 25 7))).bind (fun r9 =>
          some r9)
        else
          if X1_isDigit ((sI s 25 8 (s.1 25 7)).1 a7 (s.1 25 7).toNatClampNeg) = true then
            (Z1_readNumber t (sI s 25 8 (s.1 25 7))).bind (fun r8 =>
            some r8)
          else
            if X1_isSign ((sI s 25 8 (s.1 25 7)).1 a7 (s.1 25 7).toNatClampNeg) = true then
              some (sI (sI (sI s 25 8 (s.1 25 7)) 25 8 ((s.1 25 7) + 1)) 25 5 ((sI s 25 8 (s.1 25 7)).1 a7 (s.1 25 7).toNatClampNeg))
            else
              some (sI (sI (sI s 25 8 (s.1 25 7)) 25 8 ((s.1 25 7) + 1)) 25 5 1)
      else none)
  else
    some (sI (sI s 25 8 (s.1 25 7)) 25 5 0)

def Z1_advance (t : mTX) (s : mSG) : Option mSG :=
  (Z1_advance_l8 t (sI s 25 7 (s.1 25 8))).bind (fun e8 =>
  Z1_advance_j60 t e8)

def Z1_takes (t : mTX) (x1 : Int32) (s : mSG) : Option (Bool × mSG) :=
  if (s.1 25 5) = x1 then
    (Z1_advance t s).bind (fun r2 =>
    some (true, r2))
  else
    some (false, s)

def Z1_opens (t : mTX) (x1 : Int32) (s : mSG) : Option (Bool × mSG) :=
  if x1 < 5 then
    (Z1_advance t s).bind (fun r2 =>
    some (true, r2))
  else
    some (false, s)

def Z1_readsBoth_b12 (t : mTX) (rc : Nat → Int32 → mSG → Option (Bool × mSG)) (x1 : Int32) (x2 : Int32) (s : mSG) : Option ((Int32 × mSG) ⊕ (mSG ⊕ mSG)) :=
  if 160 ≤ x2 then
    some (.inr (.inr s))
  else
    (Z1_takes t 266 s).bind (fun r3 =>
    if r3.1 = true then
      (rc 2 x1 r3.2).bind (fun r4 =>
      if r4.1 = true then
        (X1_emit (-12) r4.2).bind (fun r5 =>
        some (.inl (x2 + 1, r5)))
      else
        some (.inr (.inl r4.2)))
    else
      some (.inr (.inr r3.2)))

def Z1_readsBoth_l12 (t : mTX) (rc : Nat → Int32 → mSG → Option (Bool × mSG)) (x1 : Int32) (v : Int32 × mSG) : Option (mSG ⊕ mSG) :=
  iter (fun v : Int32 × mSG => Z1_readsBoth_b12 t rc x1 v.1 v.2) mFU v

def Z1_readsBoth_B (t : mTX) (rc : Nat → Int32 → mSG → Option (Bool × mSG)) (x1 : Int32) (s : mSG) : Option (Bool × mSG) :=
  (rc 2 x1 s).bind (fun r1 =>
  if r1.1 = true then
    (Z1_readsBoth_l12 t rc x1 (0, r1.2)).bind (fun e12 =>
    Sum.elim (fun e12_0 =>
      some (false, e12_0)) (fun e12_1 =>
      some (true, e12_1)) e12)
  else
    some (false, r1.2))

def Z1_readsNot_j95 (t : mTX) (rc : Nat → Int32 → mSG → Option (Bool × mSG)) (p1 : Int32) (s : mSG) : Option (Bool × mSG) :=
  (X1_emit p1 s).bind (fun r11 =>
  some (true, r11))

def Z1_readsNot_j67 (t : mTX) (rc : Nat → Int32 → mSG → Option (Bool × mSG)) (x1 : Int32) (x2 : Int32) (s : mSG) : Option (Bool × mSG) :=
  (Z1_advance t s).bind (fun r8 =>
  (rc 3 x1 r8).bind (fun r9 =>
  if r9.1 = true then
    if x2 = 60 then
      Z1_readsNot_j95 t rc (-14) r9.2
    else
      Z1_readsNot_j95 t rc (-15) r9.2
  else
    some (false, r9.2)))

def Z1_readsNot_B (t : mTX) (rc : Nat → Int32 → mSG → Option (Bool × mSG)) (x1 : Int32) (s : mSG) : Option (Bool × mSG) :=
  if (s.1 25 5) = 267 then
    (Z1_opens t x1 s).bind (fun r2 =>
    if r2.1 = true then
      (rc 2 (x1 + 1) r2.2).bind (fun r3 =>
      if r3.1 = true then
        (X1_emit (-13) r3.2).bind (fun r4 =>
        some (true, r4))
      else
        some (false, r3.2))
    else
      some (false, r2.2))
  else
    (rc 3 x1 s).bind (fun r5 =>
    if r5.1 = true then
      if (r5.2.1 25 5) = 60 then
        Z1_readsNot_j67 t rc x1 (r5.2.1 25 5) r5.2
      else
        if (r5.2.1 25 5) = 61 then
          Z1_readsNot_j67 t rc x1 (r5.2.1 25 5) r5.2
        else
          some (true, r5.2)
    else
      some (false, r5.2))

def Z1_readsSum_j70_12 (t : mTX) (rc : Nat → Int32 → mSG → Option (Bool × mSG)) (x1 : Int32) (x2 : Int32) (p1 : Int32) (s : mSG) : Option ((Int32 × mSG) ⊕ (mSG ⊕ mSG)) :=
  (X1_emit p1 s).bind (fun r8 =>
  some (.inl (x2 + 1, r8)))

def Z1_readsSum_j37_12 (t : mTX) (rc : Nat → Int32 → mSG → Option (Bool × mSG)) (x1 : Int32) (x2 : Int32) (s : mSG) : Option ((Int32 × mSG) ⊕ (mSG ⊕ mSG)) :=
  (Z1_advance t s).bind (fun r5 =>
  (rc 4 x1 r5).bind (fun r6 =>
  if r6.1 = true then
    if (s.1 25 5) = 43 then
      Z1_readsSum_j70_12 t rc x1 x2 (-16) r6.2
    else
      Z1_readsSum_j70_12 t rc x1 x2 (-17) r6.2
  else
    some (.inr (.inl r6.2))))

def Z1_readsSum_b12 (t : mTX) (rc : Nat → Int32 → mSG → Option (Bool × mSG)) (x1 : Int32) (x2 : Int32) (s : mSG) : Option ((Int32 × mSG) ⊕ (mSG ⊕ mSG)) :=
  if 160 ≤ x2 then
    some (.inr (.inr s))
  else
    if (s.1 25 5) = 43 then
      Z1_readsSum_j37_12 t rc x1 x2 s
    else
      if (s.1 25 5) = 45 then
        Z1_readsSum_j37_12 t rc x1 x2 s
      else
        some (.inr (.inr s))

def Z1_readsSum_l12 (t : mTX) (rc : Nat → Int32 → mSG → Option (Bool × mSG)) (x1 : Int32) (v : Int32 × mSG) : Option (mSG ⊕ mSG) :=
  iter (fun v : Int32 × mSG => Z1_readsSum_b12 t rc x1 v.1 v.2) mFU v

def Z1_readsSum_B (t : mTX) (rc : Nat → Int32 → mSG → Option (Bool × mSG)) (x1 : Int32) (s : mSG) : Option (Bool × mSG) :=
  (rc 4 x1 s).bind (fun r1 =>
  if r1.1 = true then
    (Z1_readsSum_l12 t rc x1 (0, r1.2)).bind (fun e12 =>
    Sum.elim (fun e12_0 =>
      some (false, e12_0)) (fun e12_1 =>
      some (true, e12_1)) e12)
  else
    some (false, r1.2))

def Z1_readsTerm_b12 (t : mTX) (rc : Nat → Int32 → mSG → Option (Bool × mSG)) (x1 : Int32) (x2 : Int32) (s : mSG) : Option ((Int32 × mSG) ⊕ (mSG ⊕ mSG)) :=
  if 160 ≤ x2 then
    some (.inr (.inr s))
  else
    (Z1_takes t 42 s).bind (fun r3 =>
    if r3.1 = true then
      (rc 5 x1 r3.2).bind (fun r4 =>
      if r4.1 = true then
        (X1_emit (-18) r4.2).bind (fun r5 =>
        some (.inl (x2 + 1, r5)))
      else
        some (.inr (.inl r4.2)))
    else
      some (.inr (.inr r3.2)))

def Z1_readsTerm_l12 (t : mTX) (rc : Nat → Int32 → mSG → Option (Bool × mSG)) (x1 : Int32) (v : Int32 × mSG) : Option (mSG ⊕ mSG) :=
  iter (fun v : Int32 × mSG => Z1_readsTerm_b12 t rc x1 v.1 v.2) mFU v

def Z1_readsTerm_B (t : mTX) (rc : Nat → Int32 → mSG → Option (Bool × mSG)) (x1 : Int32) (s : mSG) : Option (Bool × mSG) :=
  (rc 5 x1 s).bind (fun r1 =>
  if r1.1 = true then
    (Z1_readsTerm_l12 t rc x1 (0, r1.2)).bind (fun e12 =>
    Sum.elim (fun e12_0 =>
      some (false, e12_0)) (fun e12_1 =>
      some (true, e12_1)) e12)
  else
    some (false, r1.2))

def Z1_readsOne_j62 (t : mTX) (rc : Nat → Int32 → mSG → Option (Bool × mSG)) (x1 : Int32) (s : mSG) : Option (Bool × mSG) :=
  if (s.1 25 5) = 45 then
    (Z1_opens t x1 s).bind (fun r9 =>
    if r9.1 = true then
      (rc 5 (x1 + 1) r9.2).bind (fun r10 =>
      if r10.1 = true then
        (X1_emit (-19) r10.2).bind (fun r11 =>
        some (true, r11))
      else
        some (false, r10.2))
    else
      some (false, r9.2))
  else
    if (s.1 25 5) = 40 then
      (Z1_opens t x1 s).bind (fun r13 =>
      if r13.1 = true then
        (rc 0 (x1 + 1) r13.2).bind (fun r14 =>
        if r14.1 = true then
          (Z1_takes t 41 r14.2).bind (fun r15 =>
          if r15.1 = true then
            some (true, r15.2)
          else
            some (false, r15.2))
        else
          some (false, r14.2))
      else
        some (false, r13.2))
    else
      some (false, s)

def Z1_readsOne_B (t : mTX) (rc : Nat → Int32 → mSG → Option (Bool × mSG)) (x1 : Int32) (s : mSG) : Option (Bool × mSG) :=
  if (s.1 25 5) = 2 then
    (X1_emit (s.1 25 6) s).bind (fun r2 =>
    (Z1_advance t r2).bind (fun r3 =>
    some (true, r3)))
  else
    if (s.1 25 5) < 256 then
      Z1_readsOne_j62 t rc x1 s
    else
      if 262 ≤ (s.1 25 5) then
        Z1_readsOne_j62 t rc x1 s
      else
        (X1_emit ((-1) - ((s.1 25 5) - 256)) s).bind (fun r6 =>
        (Z1_advance t r6).bind (fun r7 =>
        some (true, r7)))

def Z1_readsEither_b12 (t : mTX) (rc : Nat → Int32 → mSG → Option (Bool × mSG)) (x1 : Int32) (x2 : Int32) (s : mSG) : Option ((Int32 × mSG) ⊕ (mSG ⊕ mSG)) :=
  if 160 ≤ x2 then
    some (.inr (.inr s))
  else
    (Z1_takes t 265 s).bind (fun r3 =>
    if r3.1 = true then
      (rc 1 x1 r3.2).bind (fun r4 =>
      if r4.1 = true then
        (X1_emit (-11) r4.2).bind (fun r5 =>
        some (.inl (x2 + 1, r5)))
      else
        some (.inr (.inl r4.2)))
    else
      some (.inr (.inr r3.2)))

def Z1_readsEither_l12 (t : mTX) (rc : Nat → Int32 → mSG → Option (Bool × mSG)) (x1 : Int32) (v : Int32 × mSG) : Option (mSG ⊕ mSG) :=
  iter (fun v : Int32 × mSG => Z1_readsEither_b12 t rc x1 v.1 v.2) mFU v

def Z1_readsEither_B (t : mTX) (rc : Nat → Int32 → mSG → Option (Bool × mSG)) (x1 : Int32) (s : mSG) : Option (Bool × mSG) :=
  (rc 1 x1 s).bind (fun r1 =>
  if r1.1 = true then
    (Z1_readsEither_l12 t rc x1 (0, r1.2)).bind (fun e12 =>
    Sum.elim (fun e12_0 =>
      some (false, e12_0)) (fun e12_1 =>
      some (true, e12_1)) e12)
  else
    some (false, r1.2))

def Z1_R (t : mTX) : Nat → Nat → Int32 → mSG → Option (Bool × mSG)
  | 0, _, _, _ => none
  | n + 1, i, q, s => bif Nat.ble i 5 then (bif Nat.ble i 2 then (bif Nat.ble i 0 then (Z1_readsEither_B t (Z1_R t n) q s) else (bif Nat.ble i 1 then (Z1_readsBoth_B t (Z1_R t n) q s) else (Z1_readsNot_B t (Z1_R t n) q s))) else (bif Nat.ble i 3 then (Z1_readsSum_B t (Z1_R t n) q s) else (bif Nat.ble i 4 then (Z1_readsTerm_B t (Z1_R t n) q s) else (Z1_readsOne_B t (Z1_R t n) q s)))) else none

def Z1_parse_23_b38 (t : mTX) (x3 : Int32) (s : mSG) : Option ((Int32 × mSG) ⊕ (mSG ⊕ mSG)) :=
  if 3 ≤ x3 then
    some (.inr (.inr s))
  else
    (Z1_takes t (262 + x3) s).bind (fun r3 =>
    if r3.1 = true then
      (Z1_R t 60 0 0 r3.2).bind (fun r4 =>
      if r4.1 = true then
        (Z1_takes t 59 r4.2).bind (fun r5 =>
        if r5.1 = true then
          if mInb x3 3 = true then
            some (.inl (x3 + 1, sI r5.2 27 x3.toNatClampNeg (r5.2.1 25 2)))
          else none
        else
          some (.inr (.inl r5.2)))
      else
        some (.inr (.inl r4.2)))
    else
      some (.inr (.inl r3.2)))

def Z1_parse_23_l38 (t : mTX) (v : Int32 × mSG) : Option (mSG ⊕ mSG) :=
  iter (fun v : Int32 × mSG => Z1_parse_23_b38 t v.1 v.2) mFU v

def Z1_parse_23 (t : mTX) (x2 : Int32) (s : mSG) : Option (Int32 × mSG) :=
  (Z1_advance t (sI (sI (sI (sQ s 25 3 23) 25 4 (X8_bounded x2 0 (J9_min 160 (Int32.ofNat 160)))) 25 2 0) 25 8 0)).bind (fun r1 =>
  (Z1_parse_23_l38 t (0, r1)).bind (fun e38 =>
  Sum.elim (fun e38_0 =>
    some (e38_0.1 25 7, e38_0)) (fun e38_1 =>
    if (e38_1.1 25 5) = 0 then
      some ((-1), e38_1)
    else
      some (e38_1.1 25 7, e38_1)) e38))
