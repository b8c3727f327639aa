/-! THE METHODS AS FUNCTIONS (by program) -/
def J9_min (x0 : Int32) (x1 : Int32) : Int32 :=
  if x1 < x0 then
    x1
  else
    x0
def J9_max (x0 : Int32) (x1 : Int32) : Int32 :=
  if x0 < x1 then
    x1
  else
    x0
def X8_bounded (x0 : Int32) (x1 : Int32) (x2 : Int32) : Int32 :=
  J9_max x1 (J9_min x2 x0)
def X1_isLetter (x0 : Int32) : Bool :=
  if x0 < 97 then
    false
  else
    if 122 < x0 then
      false
    else
      true
def X1_isDigit (x0 : Int32) : Bool :=
  if x0 < 48 then
    false
  else
    if 57 < x0 then
      false
    else
      true
def X1_isSign (x0 : Int32) : Bool :=
  if x0 = 40 then
    true
  else if x0 = 41 then
    true
  else if x0 = 42 then
    true
  else if x0 = 43 then
    true
  else if x0 = 44 then
    false
  else if x0 = 45 then
    true
  else if x0 = 46 then
    false
  else if x0 = 47 then
    false
  else if x0 = 48 then
    false
  else if x0 = 49 then
    false
  else if x0 = 50 then
    false
  else if x0 = 51 then
    false
  else if x0 = 52 then
    false
  else if x0 = 53 then
    false
  else if x0 = 54 then
    false
  else if x0 = 55 then
    false
  else if x0 = 56 then
    false
  else if x0 = 57 then
    false
  else if x0 = 58 then
    false
  else if x0 = 59 then
    true
  else if x0 = 60 then
    true
  else if x0 = 61 then
    true
  else 
    false
def X1_readNumber_b5 (t : mTX) (s : mSG) : Option (mSG ⊕ mSG) :=
  if (s.1 25 4) ≤ (s.1 25 8) then
    some (.inr s)
  else
    (s.2.1 25 3).bind (fun a2 =>
      if (mKl (LAY t) a2).1 = 20 ∧ mInb (s.1 25 8) (mKl (LAY t) a2).2 = true then
        if X1_isDigit (s.1 a2 (s.1 25 8).toNatClampNeg) = true then
          (s.2.1 25 3).bind (fun a3 =>
            if (mKl (LAY t) a3).1 = 20 ∧ mInb (s.1 25 8) (mKl (LAY t) a3).2 = true then
              some (.inl (sI (sI s 25 6 ((((s.1 25 6) * 10) + (s.1 a3 (s.1 25 8).toNatClampNeg)) - 48)) 25 8 ((s.1 25 8) + 1)))
            else none)
        else
          some (.inr s)
      else none)
def X1_readNumber_l5 (t : mTX) (v : mSG) : Option mSG :=
  iter (fun v : mSG => X1_readNumber_b5 t v) mFU v
def X1_readNumber_j68 (t : mTX) (s : mSG) : Option mSG :=
  if ((s.1 25 8) - (s.1 25 7)) ≤ 4 then
    some (sI s 25 5 2)
  else
    some (sI s 25 5 1)
def X1_readNumber (t : mTX) (s : mSG) : Option mSG :=
  (X1_readNumber_l5 t (sI s 25 6 0)).bind (fun e5 =>
  X1_readNumber_j68 t e5)
def X1_isSpelled_b19 (t : mTX) (x1 : Int32) (x2 : Int32) (x3 : Int32) (s : mSG) : Option (Int32 ⊕ (Unit ⊕ Unit)) :=
  if x2 ≤ x3 then
    some (.inr (.inr ()))
  else
    if mInb x3 55 = true then
      (s.2.1 25 3).bind (fun a3 =>
        if (mKl (LAY t) a3).1 = 20 ∧ mInb (((s.1 25 7) + x3) - x1) (mKl (LAY t) a3).2 = true then
          if (mChr 3 x3 s) = (s.1 a3 (((s.1 25 7) + x3) - x1).toNatClampNeg) then
            some (.inl (x3 + 1))
          else
            some (.inr (.inl ()))
        else none)
    else none
def X1_isSpelled_l19 (t : mTX) (x1 : Int32) (x2 : Int32) (s : mSG) (v : Int32) : Option (Unit ⊕ Unit) :=
  iter (fun v : Int32 => X1_isSpelled_b19 t x1 x2 v s) mFU v
def X1_isSpelled (t : mTX) (x1 : Int32) (x2 : Int32) (s : mSG) : Option Bool :=
  if (x2 - x1) = ((s.1 25 8) - (s.1 25 7)) then
    (X1_isSpelled_l19 t x1 x2 s x1).bind (fun e19 =>
    Sum.elim (fun e19_0 =>
      some false) (fun e19_1 =>
      some true) e19)
  else
    some false
def X1_readWord_b0 (t : mTX) (s : mSG) : Option (mSG ⊕ mSG) :=
  if (s.1 25 4) ≤ (s.1 25 8) then
    some (.inr s)
  else
    (s.2.1 25 3).bind (fun a2 =>
      if (mKl (LAY t) a2).1 = 20 ∧ mInb (s.1 25 8) (mKl (LAY t) a2).2 = true then
        if X1_isLetter (s.1 a2 (s.1 25 8).toNatClampNeg) = true then
          some (.inl (sI s 25 8 ((s.1 25 8) + 1)))
        else
          some (.inr s)
      else none)
def X1_readWord_l0 (t : mTX) (v : mSG) : Option mSG :=
  iter (fun v : mSG => X1_readWord_b0 t v) mFU v
def X1_readWord_j93_52 (t : mTX) (x1 : Int32) (x2 : Int32) (x3 : Int32) (s : mSG) : Option ((Int32 × Int32 × Int32 × mSG) ⊕ mSG) :=
  some (.inl (x1, x2, x3 + 1, s))
def X1_readWord_j86_52 (t : mTX) (x1 : Int32) (x3 : Int32) (s : mSG) : Option ((Int32 × Int32 × Int32 × mSG) ⊕ mSG) :=
  X1_readWord_j93_52 t (x1 + 1) (x3 + 1) x3 s
def X1_readWord_b52 (t : mTX) (x1 : Int32) (x2 : Int32) (x3 : Int32) (s : mSG) : Option ((Int32 × Int32 × Int32 × mSG) ⊕ mSG) :=
  if 55 ≤ x3 then
    some (.inr s)
  else
    if mInb x3 55 = true then
      if (mChr 3 x3 s) = 32 then
        (X1_isSpelled t x2 x3 s).bind (fun r5 =>
        if r5 = true then
          X1_readWord_j86_52 t x1 x3 (sI s 25 5 x1)
        else
          X1_readWord_j86_52 t x1 x3 s)
      else
        X1_readWord_j93_52 t x1 x2 x3 s
    else none
def X1_readWord_l52 (t : mTX) (v : Int32 × Int32 × Int32 × mSG) : Option mSG :=
  iter (fun v : Int32 × Int32 × Int32 × mSG => X1_readWord_b52 t v.1 v.2.1 v.2.2.1 v.2.2.2) mFU v
def X1_readWord_j39 (t : mTX) (s : mSG) : Option mSG :=
  (X1_readWord_l52 t (256, 0, 0, sI s 25 5 1)).bind (fun e52 =>
  some e52)
def X1_readWord (t : mTX) (s : mSG) : Option mSG :=
  (X1_readWord_l0 t s).bind (fun e0 =>
  X1_readWord_j39 t e0)
def X1_advance_j47_8 (t : mTX) (s : mSG) : Option (mSG ⊕ mSG) :=
  some (.inl (sI s 25 7 ((s.1 25 7) + 1)))
def X1_advance_b8 (t : mTX) (s : mSG) : Option (mSG ⊕ mSG) :=
  if (s.1 25 4) ≤ (s.1 25 7) then
    some (.inr s)
  else
    (s.2.1 25 3).bind (fun a2 =>
      if (mKl (LAY t) a2).1 = 20 ∧ mInb (s.1 25 7) (mKl (LAY t) a2).2 = true then
        if (s.1 a2 (s.1 25 7).toNatClampNeg) = 32 then
          X1_advance_j47_8 t s
        else
          (s.2.1 25 3).bind (fun a4 =>
            if (mKl (LAY t) a4).1 = 20 ∧ mInb (s.1 25 7) (mKl (LAY t) a4).2 = true then
              if (s.1 a4 (s.1 25 7).toNatClampNeg) = 10 then
                X1_advance_j47_8 t s
              else
                some (.inr s)
            else none)
      else none)
def X1_advance_l8 (t : mTX) (v : mSG) : Option mSG :=
  iter (fun v : mSG => X1_advance_b8 t v) mFU v
def X1_advance_j60 (t : mTX) (s : mSG) : Option mSG :=
  if (s.1 25 7) < (s.1 25 4) then
    (s.2.1 25 3).bind (fun a7 =>
      if (mKl (LAY t) a7).1 = 20 ∧ mInb (s.1 25 7) (mKl (LAY t) a7).2 = true then
        if X1_isLetter ((sI s 25 8 (s.1 25 7)).1 a7 (s.1 25 7).toNatClampNeg) = true then
          (X1_readWord t (sI s 25 8 (s.1 25 7))).bind (fun r9 =>
          some r9)
        else
          if X1_isDigit ((sI s 25 8 (s.1 25 7)).1 a7 (s.1 25 7).toNatClampNeg) = true then
            (X1_readNumber t (sI s 25 8 (s.1 25 7))).bind (fun r8 =>
            some r8)
          else
            if X1_isSign ((sI s 25 8 (s.1 25 7)).1 a7 (s.1 25 7).toNatClampNeg) = true then
              some (sI (sI (sI s 25 8 (s.1 25 7)) 25 8 ((s.1 25 7) + 1)) 25 5 ((sI s 25 8 (s.1 25 7)).1 a7 (s.1 25 7).toNatClampNeg))
            else
              some (sI (sI (sI s 25 8 (s.1 25 7)) 25 8 ((s.1 25 7) + 1)) 25 5 1)
      else none)
  else
    some (sI (sI s 25 8 (s.1 25 7)) 25 5 0)
def X1_advance (t : mTX) (s : mSG) : Option mSG :=
  (X1_advance_l8 t (sI s 25 7 (s.1 25 8))).bind (fun e8 =>
  X1_advance_j60 t e8)
def X1_takes (t : mTX) (x1 : Int32) (s : mSG) : Option (Bool × mSG) :=
  if (s.1 25 5) = x1 then
    (X1_advance t s).bind (fun r2 =>
    some (true, r2))
  else
    some (false, s)
def X1_emit (x1 : Int32) (s : mSG) : Option mSG :=
  if 160 ≤ (s.1 25 2) then
    some s
  else
    if mInb (s.1 25 2) 160 = true then
      some (sI (sI s 26 (s.1 25 2).toNatClampNeg x1) 25 2 ((s.1 25 2) + 1))
    else none
def X1_opens (t : mTX) (x1 : Int32) (s : mSG) : Option (Bool × mSG) :=
  if x1 < 5 then
    (X1_advance t s).bind (fun r2 =>
    some (true, r2))
  else
    some (false, s)
def X1_readsBoth_b12 (t : mTX) (rc : Nat → Int32 → mSG → Option (Bool × mSG)) (x1 : Int32) (x2 : Int32) (s : mSG) : Option ((Int32 × mSG) ⊕ (mSG ⊕ mSG)) :=
  if 160 ≤ x2 then
    some (.inr (.inr s))
  else
    (X1_takes t 266 s).bind (fun r3 =>
    if r3.1 = true then
      (rc 2 x1 r3.2).bind (fun r4 =>
      if r4.1 = true then
        (X1_emit (-12) r4.2).bind (fun r5 =>
        some (.inl (x2 + 1, r5)))
      else
        some (.inr (.inl r4.2)))
    else
      some (.inr (.inr r3.2)))
def X1_readsBoth_l12 (t : mTX) (rc : Nat → Int32 → mSG → Option (Bool × mSG)) (x1 : Int32) (v : Int32 × mSG) : Option (mSG ⊕ mSG) :=
  iter (fun v : Int32 × mSG => X1_readsBoth_b12 t rc x1 v.1 v.2) mFU v
def X1_readsBoth_B (t : mTX) (rc : Nat → Int32 → mSG → Option (Bool × mSG)) (x1 : Int32) (s : mSG) : Option (Bool × mSG) :=
  (rc 2 x1 s).bind (fun r1 =>
  if r1.1 = true then
    (X1_readsBoth_l12 t rc x1 (0, r1.2)).bind (fun e12 =>
    Sum.elim (fun e12_0 =>
      some (false, e12_0)) (fun e12_1 =>
      some (true, e12_1)) e12)
  else
    some (false, r1.2))
def X1_readsNot_j95 (t : mTX) (rc : Nat → Int32 → mSG → Option (Bool × mSG)) (p1 : Int32) (s : mSG) : Option (Bool × mSG) :=
  (X1_emit p1 s).bind (fun r11 =>
  some (true, r11))
def X1_readsNot_j67 (t : mTX) (rc : Nat → Int32 → mSG → Option (Bool × mSG)) (x1 : Int32) (x2 : Int32) (s : mSG) : Option (Bool × mSG) :=
  (X1_advance t s).bind (fun r8 =>
  (rc 3 x1 r8).bind (fun r9 =>
  if r9.1 = true then
    if x2 = 60 then
      X1_readsNot_j95 t rc (-14) r9.2
    else
      X1_readsNot_j95 t rc (-15) r9.2
  else
    some (false, r9.2)))
def X1_readsNot_B (t : mTX) (rc : Nat → Int32 → mSG → Option (Bool × mSG)) (x1 : Int32) (s : mSG) : Option (Bool × mSG) :=
  if (s.1 25 5) = 267 then
    (X1_opens t x1 s).bind (fun r2 =>
    if r2.1 = true then
      (rc 2 (x1 + 1) r2.2).bind (fun r3 =>
      if r3.1 = true then
        (X1_emit (-13) r3.2).bind (fun r4 =>
        some (true, r4))
      else
        some (false, r3.2))
    else
      some (false, r2.2))
  else
    (rc 3 x1 s).bind (fun r5 =>
    if r5.1 = true then
      if (r5.2.1 25 5) = 60 then
        X1_readsNot_j67 t rc x1 (r5.2.1 25 5) r5.2
      else
        if (r5.2.1 25 5) = 61 then
          X1_readsNot_j67 t rc x1 (r5.2.1 25 5) r5.2
        else
          some (true, r5.2)
    else
      some (false, r5.2))
def X1_readsSum_j70_12 (t : mTX) (rc : Nat → Int32 → mSG → Option (Bool × mSG)) (x1 : Int32) (x2 : Int32) (p1 : Int32) (s : mSG) : Option ((Int32 × mSG) ⊕ (mSG ⊕ mSG)) :=
  (X1_emit p1 s).bind (fun r8 =>
  some (.inl (x2 + 1, r8)))
def X1_readsSum_j37_12 (t : mTX) (rc : Nat → Int32 → mSG → Option (Bool × mSG)) (x1 : Int32) (x2 : Int32) (s : mSG) : Option ((Int32 × mSG) ⊕ (mSG ⊕ mSG)) :=
  (X1_advance t s).bind (fun r5 =>
  (rc 4 x1 r5).bind (fun r6 =>
  if r6.1 = true then
    if (s.1 25 5) = 43 then
      X1_readsSum_j70_12 t rc x1 x2 (-16) r6.2
    else
      X1_readsSum_j70_12 t rc x1 x2 (-17) r6.2
  else
    some (.inr (.inl r6.2))))
def X1_readsSum_b12 (t : mTX) (rc : Nat → Int32 → mSG → Option (Bool × mSG)) (x1 : Int32) (x2 : Int32) (s : mSG) : Option ((Int32 × mSG) ⊕ (mSG ⊕ mSG)) :=
  if 160 ≤ x2 then
    some (.inr (.inr s))
  else
    if (s.1 25 5) = 43 then
      X1_readsSum_j37_12 t rc x1 x2 s
    else
      if (s.1 25 5) = 45 then
        X1_readsSum_j37_12 t rc x1 x2 s
      else
        some (.inr (.inr s))
def X1_readsSum_l12 (t : mTX) (rc : Nat → Int32 → mSG → Option (Bool × mSG)) (x1 : Int32) (v : Int32 × mSG) : Option (mSG ⊕ mSG) :=
  iter (fun v : Int32 × mSG => X1_readsSum_b12 t rc x1 v.1 v.2) mFU v
def X1_readsSum_B (t : mTX) (rc : Nat → Int32 → mSG → Option (Bool × mSG)) (x1 : Int32) (s : mSG) : Option (Bool × mSG) :=
  (rc 4 x1 s).bind (fun r1 =>
  if r1.1 = true then
    (X1_readsSum_l12 t rc x1 (0, r1.2)).bind (fun e12 =>
    Sum.elim (fun e12_0 =>
      some (false, e12_0)) (fun e12_1 =>
      some (true, e12_1)) e12)
  else
    some (false, r1.2))
def X1_readsTerm_b12 (t : mTX) (rc : Nat → Int32 → mSG → Option (Bool × mSG)) (x1 : Int32) (x2 : Int32) (s : mSG) : Option ((Int32 × mSG) ⊕ (mSG ⊕ mSG)) :=
  if 160 ≤ x2 then
    some (.inr (.inr s))
  else
    (X1_takes t 42 s).bind (fun r3 =>
    if r3.1 = true then
      (rc 5 x1 r3.2).bind (fun r4 =>
      if r4.1 = true then
        (X1_emit (-18) r4.2).bind (fun r5 =>
        some (.inl (x2 + 1, r5)))
      else
        some (.inr (.inl r4.2)))
    else
      some (.inr (.inr r3.2)))
def X1_readsTerm_l12 (t : mTX) (rc : Nat → Int32 → mSG → Option (Bool × mSG)) (x1 : Int32) (v : Int32 × mSG) : Option (mSG ⊕ mSG) :=
  iter (fun v : Int32 × mSG => X1_readsTerm_b12 t rc x1 v.1 v.2) mFU v
def X1_readsTerm_B (t : mTX) (rc : Nat → Int32 → mSG → Option (Bool × mSG)) (x1 : Int32) (s : mSG) : Option (Bool × mSG) :=
  (rc 5 x1 s).bind (fun r1 =>
  if r1.1 = true then
    (X1_readsTerm_l12 t rc x1 (0, r1.2)).bind (fun e12 =>
    Sum.elim (fun e12_0 =>
      some (false, e12_0)) (fun e12_1 =>
      some (true, e12_1)) e12)
  else
    some (false, r1.2))
def X1_readsOne_j62 (t : mTX) (rc : Nat → Int32 → mSG → Option (Bool × mSG)) (x1 : Int32) (s : mSG) : Option (Bool × mSG) :=
  if (s.1 25 5) = 45 then
    (X1_opens t x1 s).bind (fun r9 =>
    if r9.1 = true then
      (rc 5 (x1 + 1) r9.2).bind (fun r10 =>
      if r10.1 = true then
        (X1_emit (-19) r10.2).bind (fun r11 =>
        some (true, r11))
      else
        some (false, r10.2))
    else
      some (false, r9.2))
  else
    if (s.1 25 5) = 40 then
      (X1_opens t x1 s).bind (fun r13 =>
      if r13.1 = true then
        (rc 0 (x1 + 1) r13.2).bind (fun r14 =>
        if r14.1 = true then
          (X1_takes t 41 r14.2).bind (fun r15 =>
          if r15.1 = true then
            some (true, r15.2)
          else
            some (false, r15.2))
        else
          some (false, r14.2))
      else
        some (false, r13.2))
    else
      some (false, s)
def X1_readsOne_B (t : mTX) (rc : Nat → Int32 → mSG → Option (Bool × mSG)) (x1 : Int32) (s : mSG) : Option (Bool × mSG) :=
  if (s.1 25 5) = 2 then
    (X1_emit (s.1 25 6) s).bind (fun r2 =>
    (X1_advance t r2).bind (fun r3 =>
    some (true, r3)))
  else
    if (s.1 25 5) < 256 then
      X1_readsOne_j62 t rc x1 s
    else
      if 262 ≤ (s.1 25 5) then
        X1_readsOne_j62 t rc x1 s
      else
        (X1_emit ((-1) - ((s.1 25 5) - 256)) s).bind (fun r6 =>
        (X1_advance t r6).bind (fun r7 =>
        some (true, r7)))
def X1_readsEither_b12 (t : mTX) (rc : Nat → Int32 → mSG → Option (Bool × mSG)) (x1 : Int32) (x2 : Int32) (s : mSG) : Option ((Int32 × mSG) ⊕ (mSG ⊕ mSG)) :=
  if 160 ≤ x2 then
    some (.inr (.inr s))
  else
    (X1_takes t 265 s).bind (fun r3 =>
    if r3.1 = true then
      (rc 1 x1 r3.2).bind (fun r4 =>
      if r4.1 = true then
        (X1_emit (-11) r4.2).bind (fun r5 =>
        some (.inl (x2 + 1, r5)))
      else
        some (.inr (.inl r4.2)))
    else
      some (.inr (.inr r3.2)))
def X1_readsEither_l12 (t : mTX) (rc : Nat → Int32 → mSG → Option (Bool × mSG)) (x1 : Int32) (v : Int32 × mSG) : Option (mSG ⊕ mSG) :=
  iter (fun v : Int32 × mSG => X1_readsEither_b12 t rc x1 v.1 v.2) mFU v
def X1_readsEither_B (t : mTX) (rc : Nat → Int32 → mSG → Option (Bool × mSG)) (x1 : Int32) (s : mSG) : Option (Bool × mSG) :=
  (rc 1 x1 s).bind (fun r1 =>
  if r1.1 = true then
    (X1_readsEither_l12 t rc x1 (0, r1.2)).bind (fun e12 =>
    Sum.elim (fun e12_0 =>
      some (false, e12_0)) (fun e12_1 =>
      some (true, e12_1)) e12)
  else
    some (false, r1.2))
def X1_R (t : mTX) : Nat → Nat → Int32 → mSG → Option (Bool × mSG)
  | 0, _, _, _ => none
  | n + 1, i, q, s => bif Nat.ble i 5 then (bif Nat.ble i 2 then (bif Nat.ble i 0 then (X1_readsEither_B t (X1_R t n) q s) else (bif Nat.ble i 1 then (X1_readsBoth_B t (X1_R t n) q s) else (X1_readsNot_B t (X1_R t n) q s))) else (bif Nat.ble i 3 then (X1_readsSum_B t (X1_R t n) q s) else (bif Nat.ble i 4 then (X1_readsTerm_B t (X1_R t n) q s) else (X1_readsOne_B t (X1_R t n) q s)))) else none
def X1_parse_23_b38 (t : mTX) (x3 : Int32) (s : mSG) : Option ((Int32 × mSG) ⊕ (mSG ⊕ mSG)) :=
  if 3 ≤ x3 then
    some (.inr (.inr s))
  else
    (X1_takes t (262 + x3) s).bind (fun r3 =>
    if r3.1 = true then
      (X1_R t 60 0 0 r3.2).bind (fun r4 =>
      if r4.1 = true then
        (X1_takes t 59 r4.2).bind (fun r5 =>
        if r5.1 = true then
          if mInb x3 3 = true then
            some (.inl (x3 + 1, sI r5.2 27 x3.toNatClampNeg (r5.2.1 25 2)))
          else none
        else
          some (.inr (.inl r5.2)))
      else
        some (.inr (.inl r4.2)))
    else
      some (.inr (.inl r3.2)))
def X1_parse_23_l38 (t : mTX) (v : Int32 × mSG) : Option (mSG ⊕ mSG) :=
  iter (fun v : Int32 × mSG => X1_parse_23_b38 t v.1 v.2) mFU v
def X1_parse_23 (t : mTX) (x2 : Int32) (s : mSG) : Option (Int32 × mSG) :=
  (X1_advance t (sI (sI (sI (sQ s 25 3 23) 25 4 (X8_bounded x2 0 (J9_min 160 (Int32.ofNat 160)))) 25 2 0) 25 8 0)).bind (fun r1 =>
  (X1_parse_23_l38 t (0, r1)).bind (fun e38 =>
  Sum.elim (fun e38_0 =>
    some (e38_0.1 25 7, e38_0)) (fun e38_1 =>
    if (e38_1.1 25 5) = 0 then
      some ((-1), e38_1)
    else
      some (e38_1.1 25 7, e38_1)) e38))
def X8_isWithin (x0 : Int32) (x1 : Int32) : Bool :=
  if x0 < 0 then
    false
  else
    if x1 < x0 then
      false
    else
      true
def X8_isStone (x0 : Int32) : Bool :=
  X8_isWithin x0 7
def X8_areTwoStones (x0 : Int32) (x1 : Int32) : Bool :=
  if X8_isStone x0 = true then
    if X8_isStone x1 = true then
      if x0 = x1 then
        false
      else
        true
    else
      false
  else
    false
def X5_mudBetween_7 (x1 : Int32) (x2 : Int32) (s : mSG) : Option Int32 :=
  if X8_areTwoStones x1 x2 = true then
    if mInb ((x1 * 8) + x2) 64 = true then
      some (s.1 8 ((x1 * 8) + x2).toNatClampNeg)
    else none
  else
    some 0
def X8_far (x1 : Int32) (x2 : Int32) (s : mSG) : Option Int32 :=
  if X8_areTwoStones x1 x2 = true then
    (X5_mudBetween_7 x1 x2 s).bind (fun r1 =>
    some r1)
  else
    some (-2)
def X5_putMud_7 (x1 : Int32) (x2 : Int32) (x3 : Int32) (s : mSG) : Option (Bool × mSG) :=
  if X8_areTwoStones x1 x2 = true then
    if X8_isWithin x3 99 = true then
      if mInb ((x1 * 8) + x2) 64 = true then
        if mInb ((x2 * 8) + x1) 64 = true then
          some (true, sI (sI s 8 ((x1 * 8) + x2).toNatClampNeg x3) 8 ((x2 * 8) + x1).toNatClampNeg x3)
        else none
      else none
    else
      some (false, s)
  else
    some (false, s)
def X8_mud (x1 : Int32) (x2 : Int32) (x3 : Int32) (s : mSG) : Option (Int32 × mSG) :=
  (X8_far x1 x2 s).bind (fun r1 =>
  if r1 = (-2) then
    some ((-2), s)
  else
    (X5_putMud_7 x1 x2 x3 s).bind (fun r3 =>
    if r3.1 = true then
      some (r1, r3.2)
    else
      some ((-2), r3.2)))
def X5_isOne_7 (x1 : Int32) (s : mSG) : Bool :=
  if X8_isWithin x1 ((s.1 7 4) - 1) = true then
    if 5 ≤ x1 then
      false
    else
      true
  else
    false
def X5_put_7 (x1 : Int32) (x2 : Int32) (x3 : Int32) (s : mSG) : Option mSG :=
  if X5_isOne_7 x1 s = true then
    if X8_isWithin x2 5 = true then
      if mInb ((x1 * 6) + x2) 30 = true then
        some (sI s 9 ((x1 * 6) + x2).toNatClampNeg x3)
      else none
    else
      some s
  else
    some s
def X8_one (x1 : Int32) (x2 : Int32) (x3 : Int32) (s : mSG) : Option (Int32 × mSG) :=
  if X8_isWithin x1 5 = true then
    if X8_isWithin x2 999 = true then
      if X8_isWithin x3 9 = true then
        if (s.1 7 4) < 5 then
          (X5_put_7 (s.1 7 4) 0 0 (sI s 7 4 ((s.1 7 4) + 1))).bind (fun r2 =>
          (X5_put_7 (s.1 7 4) 1 (x2 / 10) r2).bind (fun r3 =>
          (X5_put_7 (s.1 7 4) 2 0 r3).bind (fun r4 =>
          (X5_put_7 (s.1 7 4) 3 x3 r4).bind (fun r5 =>
          (X5_put_7 (s.1 7 4) 4 (x2 - x2 / 10 * 10) r5).bind (fun r6 =>
          (X5_put_7 (s.1 7 4) 5 x1 r6).bind (fun r7 =>
          some (s.1 7 4, r7)))))))
        else
          some ((-4), s)
      else
        some ((-2), s)
    else
      some ((-2), s)
  else
    some ((-2), s)
def X8_mostOf (x0 : Int32) : Int32 :=
  if x0 = 0 then
    7
  else if x0 = 1 then
    99
  else 
    9
def X5_trait_7 (x1 : Int32) (x2 : Int32) (s : mSG) : Option Int32 :=
  if X5_isOne_7 x1 s = true then
    if X8_isWithin x2 5 = true then
      if mInb ((x1 * 6) + x2) 30 = true then
        some (s.1 9 ((x1 * 6) + x2).toNatClampNeg)
      else none
    else
      some 0
  else
    some 0
def X8_set (x1 : Int32) (x2 : Int32) (x3 : Int32) (s : mSG) : Option (Int32 × mSG) :=
  if x1 = 5 then
    if X8_isWithin x3 9999 = true then
      some (s.1 7 5, sI s 7 5 x3)
    else
      some ((-2), s)
  else if x1 = 6 then
    if X8_isWithin x2 23 = true then
      if X8_isWithin x3 9 = true then
        if mInb x2 24 = true then
          some (s.1 11 x2.toNatClampNeg, sI s 11 x2.toNatClampNeg x3)
        else none
      else
        some ((-2), s)
    else
      some ((-2), s)
  else 
    if X8_isWithin x1 4 = true then
      if X5_isOne_7 x2 s = true then
        if X8_isWithin x3 (X8_mostOf x1) = true then
          (X5_trait_7 x2 x1 s).bind (fun r2 =>
          (X5_put_7 x2 x1 x3 s).bind (fun r3 =>
          some (r2, r3)))
        else
          some ((-2), s)
      else
        some ((-2), s)
    else
      some ((-2), s)
def X8_ruleOf_7 (s : mSG) : Option Nat :=
  if X8_isWithin (s.1 7 6) ((s.1 6 11) - 1) = true then
    if mInb (s.1 7 6) 6 = true then
      (s.2.1 22 (s.1 7 6).toNatClampNeg).bind (fun a2 =>
      some a2)
    else none
  else
    if mInb 0 6 = true then
      (s.2.1 22 0).bind (fun a1 =>
      some a1)
    else none
def J9_floorMod (x0 : Int32) (x1 : Int32) : Option Int32 :=
  if ¬ x1 = 0 then
    if 0 ≤ (x0 ^^^ x1) then
      some (x0 - x0 / x1 * x1)
    else
      if (x0 - x0 / x1 * x1) = 0 then
        some (x0 - x0 / x1 * x1)
      else
        some ((x0 - x0 / x1 * x1) + x1)
  else none
def X5_rainIn_7 (x1 : Int32) (s : mSG) : Option Int32 :=
  (J9_floorMod ((s.1 7 5) + x1) 24).bind (fun r1 =>
  if mInb r1 24 = true then
    some (s.1 11 r1.toNatClampNeg)
  else none)
def X5_rainNow_7 (s : mSG) : Option Int32 :=
  (X5_rainIn_7 0 s).bind (fun r1 =>
  some r1)
def X0_be_28_7 (x2 : Int32) (a3_ : Nat) (s : mSG) : Option mSG :=
  (X5_trait_7 x2 5 (sQ s 28 2 a3_)).bind (fun r1 =>
  (X5_trait_7 x2 4 (sI (sQ s 28 2 a3_) 28 3 r1)).bind (fun r2 =>
  (X5_trait_7 x2 1 (sI (sI (sQ s 28 2 a3_) 28 3 r1) 28 4 r2)).bind (fun r3 =>
  (X5_trait_7 x2 3 (sI (sI (sI (sQ s 28 2 a3_) 28 3 r1) 28 4 r2) 28 5 r3)).bind (fun r4 =>
  (X5_trait_7 x2 2 (sI (sI (sI (sI (sQ s 28 2 a3_) 28 3 r1) 28 4 r2) 28 5 r3) 28 6 r4)).bind (fun r5 =>
  (X5_rainNow_7 (sI (sI (sI (sI (sI (sQ s 28 2 a3_) 28 3 r1) 28 4 r2) 28 5 r3) 28 6 r4) 28 7 r5)).bind (fun r6 =>
  some (sI (sI (sI (sI (sI (sI (sQ s 28 2 a3_) 28 3 r1) 28 4 r2) 28 5 r3) 28 6 r4) 28 7 r5) 28 8 r6)))))))
def X2_reaches (x0 : Int32) (x1 : Int32) (x2 : Int32) (x3 : Int32) : Int32 :=
  if x0 = 1 then
    x2 + x1
  else if x0 = 2 then
    J9_max 0 (x2 - (x3 / 2))
  else if x0 = 3 then
    (x2 + x1) / 2
  else if x0 = 4 then
    if x3 ≤ x1 then
      x2
    else
      J9_max 0 (x2 - (x3 / 2))
  else if x0 = 5 then
    J9_max 0 ((x2 + x1) - x3)
  else 
    x2
def X0_reaches_28 (s : mSG) : Int32 :=
  X2_reaches (s.1 28 3) (s.1 28 4) (s.1 28 5) (s.1 28 7)
def X5_debt_7 (x1 : Int32) (x2 : Int32) (s : mSG) : Option Int32 :=
  if X5_isOne_7 x1 s = true then
    if X5_isOne_7 x2 s = true then
      if mInb ((x1 * 5) + x2) 25 = true then
        some (s.1 10 ((x1 * 5) + x2).toNatClampNeg)
      else none
    else
      some 0
  else
    some 0
def X5_owes_7_b4 (x1 : Int32) (x2 : Int32) (x3 : Int32) (s : mSG) : Option ((Int32 × Int32) ⊕ Int32) :=
  if (s.1 7 4) ≤ x3 then
    some (.inr x2)
  else
    (X5_debt_7 x1 x3 s).bind (fun r2 =>
    some (.inl (x2 + r2, x3 + 1)))
def X5_owes_7_l4 (x1 : Int32) (s : mSG) (v : Int32 × Int32) : Option Int32 :=
  iter (fun v : Int32 × Int32 => X5_owes_7_b4 x1 v.1 v.2 s) mFU v
def X5_owes_7 (x1 : Int32) (s : mSG) : Option Int32 :=
  (X5_owes_7_l4 x1 s (0, 0)).bind (fun e4 =>
  some e4)
def X5_isOwed_7_b4 (x1 : Int32) (x2 : Int32) (x3 : Int32) (s : mSG) : Option ((Int32 × Int32) ⊕ Int32) :=
  if (s.1 7 4) ≤ x3 then
    some (.inr x2)
  else
    (X5_debt_7 x3 x1 s).bind (fun r2 =>
    some (.inl (x2 + r2, x3 + 1)))
def X5_isOwed_7_l4 (x1 : Int32) (s : mSG) (v : Int32 × Int32) : Option Int32 :=
  iter (fun v : Int32 × Int32 => X5_isOwed_7_b4 x1 v.1 v.2 s) mFU v
def X5_isOwed_7 (x1 : Int32) (s : mSG) : Option Int32 :=
  (X5_isOwed_7_l4 x1 s (0, 0)).bind (fun e4 =>
  some e4)
def X8_told (x1 : Int32) (x2 : Int32) (s : mSG) : Option (Int32 × mSG) :=
  if X5_isOne_7 x1 s = true then
    if x2 = 6 then
      (X8_ruleOf_7 s).bind (fun r1 =>
      (X0_be_28_7 x1 r1 s).bind (fun r2 =>
      some (X0_reaches_28 r2, r2)))
    else if x2 = 7 then
      (X5_owes_7 x1 s).bind (fun r3 =>
      some (r3, s))
    else if x2 = 8 then
      (X5_isOwed_7 x1 s).bind (fun r4 =>
      some (r4, s))
    else 
      if X8_isWithin x2 5 = true then
        (X5_trait_7 x1 x2 s).bind (fun r5 =>
        some (r5, s))
      else
        some ((-2), s)
  else
    some ((-2), s)
def X8_feed (x1 : Int32) (s : mSG) : Option (Int32 × mSG) :=
  if X8_isWithin x1 255 = true then
    if (s.1 6 12) < 160 then
      if mInb (s.1 6 12) 160 = true then
        some (((s.1 6 12) + 1), sI (sI s 23 (s.1 6 12).toNatClampNeg x1) 6 12 ((s.1 6 12) + 1))
      else none
    else
      some ((-4), s)
  else
    some ((-2), s)
def X8_force (x1 : Int32) (s : mSG) : Option (Int32 × mSG) :=
  if X8_isWithin x1 ((s.1 6 11) - 1) = true then
    some (s.1 7 6, sI s 7 6 x1)
  else
    some ((-2), s)
def X6_ofTwo (x0 : Int32) (x1 : Int32) (x2 : Int32) : Int32 :=
  if x0 = (-17) then
    x1 - x2
  else if x0 = (-16) then
    x1 + x2
  else if x0 = (-15) then
    if x1 = x2 then
      1
    else
      0
  else if x0 = (-14) then
    if x2 ≤ x1 then
      0
    else
      1
  else if x0 = (-13) then
    x1 * x2
  else if x0 = (-12) then
    if x1 = 0 then
      0
    else
      if x2 = 0 then
        0
      else
        1
  else if x0 = (-11) then
    if x1 = 0 then
      if x2 = 0 then
        0
      else
        1
    else
      1
  else 
    x1 * x2
def X6_ofOne (x0 : Int32) (x1 : Int32) : Int32 :=
  if x0 = (-19) then
    -x1
  else
    if x1 = 0 then
      1
    else
      0
def X6_value_29_30_j172_31 (t : mTX) (a0_ : Nat) (x1 : Int32) (x4 : Int32) (x5 : Int32) (s : mSG) : Option ((Int32 × Int32 × mSG) ⊕ mSG) :=
  some (.inl (x4, x5 + 1, s))
def X6_value_29_30_j93_31 (t : mTX) (a0_ : Nat) (x1 : Int32) (x4 : Int32) (x5 : Int32) (p1 : Int32) (p2 : Int32) (s : mSG) : Option ((Int32 × Int32 × mSG) ⊕ mSG) :=
  if mInb p1 32 = true then
    X6_value_29_30_j172_31 t a0_ x1 (x4 + 1) x5 (sI s 30 p1.toNatClampNeg p2)
  else none
def X6_value_29_30_j69_31 (t : mTX) (a0_ : Nat) (x1 : Int32) (x4 : Int32) (x5 : Int32) (x6 : Int32) (x7 : Int32) (s : mSG) : Option ((Int32 × Int32 × mSG) ⊕ mSG) :=
  if 32 ≤ x4 then
    X6_value_29_30_j172_31 t a0_ x1 x4 x5 s
  else
    if x6 < 0 then
      if mInb x7 6 = true then
        X6_value_29_30_j93_31 t a0_ x1 x4 x5 x4 (s.1 29 x7.toNatClampNeg) s
      else none
    else
      X6_value_29_30_j93_31 t a0_ x1 x4 x5 x4 x6 s
def X6_value_29_30_j114_31 (t : mTX) (a0_ : Nat) (x1 : Int32) (x4 : Int32) (x5 : Int32) (x6 : Int32) (s : mSG) : Option ((Int32 × Int32 × mSG) ⊕ mSG) :=
  if x4 < 1 then
    X6_value_29_30_j172_31 t a0_ x1 x4 x5 s
  else
    if mInb (x4 - 1) 32 = true then
      X6_value_29_30_j172_31 t a0_ x1 x4 x5 (sI s 30 (x4 - 1).toNatClampNeg (X6_ofOne x6 (s.1 30 (x4 - 1).toNatClampNeg)))
    else none
def X6_value_29_30_b31 (t : mTX) (a0_ : Nat) (x1 : Int32) (x4 : Int32) (x5 : Int32) (s : mSG) : Option ((Int32 × Int32 × mSG) ⊕ mSG) :=
  if (mKl (LAY t) a0_).1 = 5 then
    (mRf (LAY t) a0_ 1).bind (fun a3 =>
    if (mKl (LAY t) a3).1 = 20 ∧ mInb x1 (mKl (LAY t) a3).2 = true then
      if (s.1 a3 x1.toNatClampNeg) ≤ x5 then
        some (.inr s)
      else
        if (mKl (LAY t) a0_).1 = 5 then
          (mRf (LAY t) a0_ 0).bind (fun a5 =>
          if (mKl (LAY t) a5).1 = 20 ∧ mInb x5 (mKl (LAY t) a5).2 = true then
            if 0 ≤ (s.1 a5 x5.toNatClampNeg) then
              X6_value_29_30_j69_31 t a0_ x1 x4 x5 (s.1 a5 x5.toNatClampNeg) ((-1) - (s.1 a5 x5.toNatClampNeg)) s
            else
              if 6 ≤ ((-1) - (s.1 a5 x5.toNatClampNeg)) then
                if (s.1 a5 x5.toNatClampNeg) = (-13) then
                  X6_value_29_30_j114_31 t a0_ x1 x4 x5 (s.1 a5 x5.toNatClampNeg) s
                else
                  if (s.1 a5 x5.toNatClampNeg) = (-19) then
                    X6_value_29_30_j114_31 t a0_ x1 x4 x5 (s.1 a5 x5.toNatClampNeg) s
                  else
                    if x4 < 2 then
                      X6_value_29_30_j172_31 t a0_ x1 x4 x5 s
                    else
                      if mInb (x4 - 2) 32 = true then
                        if mInb (x4 - 1) 32 = true then
                          X6_value_29_30_j172_31 t a0_ x1 (x4 + (-1)) x5 (sI s 30 (x4 - 2).toNatClampNeg (X6_ofTwo (s.1 a5 x5.toNatClampNeg) (s.1 30 (x4 - 2).toNatClampNeg) (s.1 30 (x4 - 1).toNatClampNeg)))
                        else none
                      else none
              else
                X6_value_29_30_j69_31 t a0_ x1 x4 x5 (s.1 a5 x5.toNatClampNeg) ((-1) - (s.1 a5 x5.toNatClampNeg)) s
          else none)
        else none
    else none)
  else none
def X6_value_29_30_l31 (t : mTX) (a0_ : Nat) (x1 : Int32) (v : Int32 × Int32 × mSG) : Option mSG :=
  iter (fun v : Int32 × Int32 × mSG => X6_value_29_30_b31 t a0_ x1 v.1 v.2.1 v.2.2) mFU v
def X6_value_29_30_j29 (t : mTX) (a0_ : Nat) (x1 : Int32) (x4 : Int32) (p0 : Int32) (s : mSG) : Option (Int32 × mSG) :=
  (X6_value_29_30_l31 t a0_ x1 (x4, p0, s)).bind (fun e31 =>
  some (e31.1 30 0, e31))
def X6_value_29_30 (t : mTX) (a0_ : Nat) (x1 : Int32) (s : mSG) : Option (Int32 × mSG) :=
  if X8_isWithin x1 2 = true then
    if x1 = 0 then
      X6_value_29_30_j29 t a0_ x1 0 0 s
    else
      if (mKl (LAY t) a0_).1 = 5 then
        (mRf (LAY t) a0_ 1).bind (fun a2 =>
        if (mKl (LAY t) a2).1 = 20 ∧ mInb (x1 - 1) (mKl (LAY t) a2).2 = true then
          X6_value_29_30_j29 t a0_ x1 0 (s.1 a2 (x1 - 1).toNatClampNeg) s
        else none)
      else none
  else
    some (0, s)
def X0_asked_28 (t : mTX) (x1 : Int32) (x2 : Int32) (x3 : Int32) (x4 : Int32) (s : mSG) : Option (Int32 × mSG) :=
  m_opt (s.2.1 28 2) (some (0, s)) (fun a1 =>
    (s.2.1 28 2).bind (fun a2 =>
      if (mKl (LAY t) a2).1 = 5 then
        (X6_value_29_30 t a2 x1 (sI (sI (sI (sI (sI (sI s 29 0 x4) 29 1 (s.1 28 7)) 29 2 (s.1 28 6)) 29 3 (s.1 28 8)) 29 4 x2) 29 5 x3)).bind (fun r3 =>
      some (X8_bounded r3.1 0 99, r3.2))
      else none))
def X2_lasts (x0 : Int32) (x1 : Int32) (x2 : Int32) (x3 : Int32) : Int32 :=
  if x0 = 1 then
    J9_max 1 (x2 + x3)
  else if x0 = 2 then
    J9_max 1 (x2 - x1)
  else if x0 = 3 then
    J9_max 1 (2 * (x2 + x3))
  else if x0 = 4 then
    J9_max 1 (x2 - x1)
  else if x0 = 5 then
    J9_max 1 ((x2 + x3) + x1)
  else 
    J9_max 1 x2
def X0_hours_28 (t : mTX) (x1 : Int32) (x2 : Int32) (x3 : Int32) (s : mSG) : Option (Int32 × mSG) :=
  if x3 ≤ 0 then
    some (0, s)
  else
    (X0_asked_28 t 0 x1 x2 x3 s).bind (fun r2 =>
    if (x3 + r2.1) ≤ (X0_reaches_28 s) then
      (X0_asked_28 t 1 x1 x2 x3 r2.2).bind (fun r4 =>
      some ((X2_lasts (r2.2.1 28 3) (r2.2.1 28 4) x3 (r2.2.1 28 6)) + r4.1, r4.2))
    else
      some (0, r2.2))
def X8_can (t : mTX) (x1 : Int32) (x2 : Int32) (x3 : Int32) (s : mSG) : Option (Int32 × mSG) :=
  if X5_isOne_7 x1 s = true then
    if X8_isStone x2 = true then
      if X8_isWithin x3 1 = true then
        (X8_ruleOf_7 s).bind (fun r1 =>
        (X0_be_28_7 x1 r1 s).bind (fun r2 =>
        (X5_trait_7 x1 0 r2).bind (fun r3 =>
        (X5_mudBetween_7 r3 x2 r2).bind (fun r4 =>
        (X0_hours_28 t r3 x2 r4 r2).bind (fun r5 =>
        if x3 = 0 then
          if r5.1 ≤ 0 then
            some (0, r5.2)
          else
            some (1, r5.2)
        else
          if r5.1 ≤ 0 then
            some ((-1), r5.2)
          else
            some (r5.1, r5.2))))))
      else
        some ((-2), s)
    else
      some ((-2), s)
  else
    some ((-2), s)
def X2_soaks (x0 : Int32) (x1 : Int32) (x2 : Int32) : Int32 :=
  if x0 = 2 then
    X8_bounded ((x1 + x2) / 2) 0 9
  else if x0 = 3 then
    X8_bounded ((x1 + x2) + 1) 0 9
  else if x0 = 4 then
    X8_bounded x1 0 9
  else if x0 = 5 then
    X8_bounded (2 * (x1 + x2)) 0 9
  else 
    X8_bounded (x1 + x2) 0 9
def X0_soak_28 (s : mSG) : Option mSG :=
  some (sI s 28 7 (X2_soaks (s.1 28 3) (s.1 28 7) (s.1 28 8)))
def X8_moves_7 (t : mTX) (x2 : Int32) (x3 : Int32) (s : mSG) : Option (Bool × mSG) :=
  (X8_ruleOf_7 s).bind (fun r1 =>
  (X0_be_28_7 x2 r1 s).bind (fun r2 =>
  (X5_trait_7 x2 0 r2).bind (fun r3 =>
  (X5_mudBetween_7 r3 x3 r2).bind (fun r4 =>
  (X0_hours_28 t r3 x3 r4 r2).bind (fun r5 =>
  if r5.1 = 0 then
    some (false, r5.2)
  else
    (X0_soak_28 r5.2).bind (fun r7 =>
    (X5_put_7 x2 0 x3 r7).bind (fun r8 =>
    (X5_put_7 x2 2 (r8.1 28 7) r8).bind (fun r9 =>
    some (true, sI r9 7 5 (J9_min 9999 ((r9.1 7 5) + r5.1)))))))))))
def X8_go (t : mTX) (x1 : Int32) (x2 : Int32) (s : mSG) : Option (Int32 × mSG) :=
  if X5_isOne_7 x1 s = true then
    if X8_isStone x2 = true then
      (X8_moves_7 t x1 x2 s).bind (fun r1 =>
      if r1.1 = true then
        some (r1.2.1 7 5, r1.2)
      else
        some ((-3), r1.2))
    else
      some ((-2), s)
  else
    some ((-2), s)
def X7_forget_35 (s : mSG) : Option mSG :=
  some (sI s 35 1 0)
def X7_forget_37 (s : mSG) : Option mSG :=
  some (sI s 37 1 0)
def X3_forget (s : mSG) : Option mSG :=
  (X7_forget_35 s).bind (fun r1 =>
  (X7_forget_37 r1).bind (fun r2 =>
  some r2))
def J7_fill_39_b5 (x1 : Int32) (x3 : Int32) (x2 : Int32) (s : mSG) : Option ((Int32 × mSG) ⊕ mSG) :=
  if x3 ≤ x2 then
    some (.inr s)
  else
    if mInb x2 8 = true then
      some (.inl (x2 + 1, sI s 39 x2.toNatClampNeg x1))
    else none
def J7_fill_39_l5 (x1 : Int32) (x3 : Int32) (v : Int32 × mSG) : Option mSG :=
  iter (fun v : Int32 × mSG => J7_fill_39_b5 x1 x3 v.1 v.2) mFU v
def J7_fill_39 (x1 : Int32) (s : mSG) : Option mSG :=
  (J7_fill_39_l5 x1 (Int32.ofNat 8) (0, s)).bind (fun e5 =>
  some e5)
def J7_fill_40_b5 (x1 : Int32) (x3 : Int32) (x2 : Int32) (s : mSG) : Option ((Int32 × mSG) ⊕ mSG) :=
  if x3 ≤ x2 then
    some (.inr s)
  else
    if mInb x2 8 = true then
      some (.inl (x2 + 1, sI s 40 x2.toNatClampNeg x1))
    else none
def J7_fill_40_l5 (x1 : Int32) (x3 : Int32) (v : Int32 × mSG) : Option mSG :=
  iter (fun v : Int32 × mSG => J7_fill_40_b5 x1 x3 v.1 v.2) mFU v
def J7_fill_40 (x1 : Int32) (s : mSG) : Option mSG :=
  (J7_fill_40_l5 x1 (Int32.ofNat 8) (0, s)).bind (fun e5 =>
  some e5)
def X7_learn_35_28_7_j95_65 (t : mTX) (x3 : Int32) (x5 : Int32) (x6 : Int32) (x7 : Int32) (p0 : Int32) (s : mSG) : Option ((Int32 × Int32 × mSG) ⊕ Int32 × mSG) :=
  (X0_hours_28 t x6 x7 p0 s).bind (fun r7 =>
  if mInb x5 640 = true then
    some (.inl (x5 + 1, x7 + 1, sI r7.2 36 x5.toNatClampNeg r7.1))
  else none)
def X7_learn_35_28_7_j87_65 (t : mTX) (x3 : Int32) (x5 : Int32) (x6 : Int32) (x7 : Int32) (s : mSG) : Option ((Int32 × Int32 × mSG) ⊕ Int32 × mSG) :=
  (X5_mudBetween_7 x6 x7 s).bind (fun r6 =>
  X7_learn_35_28_7_j95_65 t x3 x5 x6 x7 r6 s)
def X7_learn_35_28_7_b65 (t : mTX) (x3 : Int32) (x6 : Int32) (x5 : Int32) (x7 : Int32) (s : mSG) : Option ((Int32 × Int32 × mSG) ⊕ Int32 × mSG) :=
  if 8 ≤ x7 then
    some (.inr (x5, s))
  else
    if x3 = 0 then
      X7_learn_35_28_7_j87_65 t x3 x5 x6 x7 s
    else
      if x6 = x7 then
        X7_learn_35_28_7_j87_65 t x3 x5 x6 x7 s
      else
        X7_learn_35_28_7_j95_65 t x3 x5 x6 x7 1 s
def X7_learn_35_28_7_l65 (t : mTX) (x3 : Int32) (x6 : Int32) (v : Int32 × Int32 × mSG) : Option (Int32 × mSG) :=
  iter (fun v : Int32 × Int32 × mSG => X7_learn_35_28_7_b65 t x3 x6 v.1 v.2.1 v.2.2) mFU v
def X7_learn_35_28_7_b55 (t : mTX) (x3 : Int32) (x5 : Int32) (x6 : Int32) (s : mSG) : Option ((Int32 × Int32 × mSG) ⊕ mSG) :=
  if 8 ≤ x6 then
    some (.inr s)
  else
    (X7_learn_35_28_7_l65 t x3 x6 (x5, 0, s)).bind (fun e65 =>
    some (.inl (e65.1, x6 + 1, e65.2)))
def X7_learn_35_28_7_l55 (t : mTX) (x3 : Int32) (v : Int32 × Int32 × mSG) : Option mSG :=
  iter (fun v : Int32 × Int32 × mSG => X7_learn_35_28_7_b55 t x3 v.1 v.2.1 v.2.2) mFU v
def X7_learn_35_28_7 (t : mTX) (x3 : Int32) (s : mSG) : Option mSG :=
  if X8_isWithin (s.1 28 7) 9 = true then
    if (((s.1 35 1) >>> ((s.1 28 7) &&& 31)) &&& 1) = 0 then
      (X7_learn_35_28_7_l55 t x3 (((s.1 28 7) * 8) * 8, 0, sI s 35 1 ((s.1 35 1) ||| (1 <<< ((s.1 28 7) &&& 31))))).bind (fun e55 =>
      some e55)
    else
      some s
  else
    some s
def X7_learn_37_28_7_j95_65 (t : mTX) (x3 : Int32) (x5 : Int32) (x6 : Int32) (x7 : Int32) (p0 : Int32) (s : mSG) : Option ((Int32 × Int32 × mSG) ⊕ Int32 × mSG) :=
  (X0_hours_28 t x6 x7 p0 s).bind (fun r7 =>
  if mInb x5 640 = true then
    some (.inl (x5 + 1, x7 + 1, sI r7.2 38 x5.toNatClampNeg r7.1))
  else none)
def X7_learn_37_28_7_j87_65 (t : mTX) (x3 : Int32) (x5 : Int32) (x6 : Int32) (x7 : Int32) (s : mSG) : Option ((Int32 × Int32 × mSG) ⊕ Int32 × mSG) :=
  (X5_mudBetween_7 x6 x7 s).bind (fun r6 =>
  X7_learn_37_28_7_j95_65 t x3 x5 x6 x7 r6 s)
def X7_learn_37_28_7_b65 (t : mTX) (x3 : Int32) (x6 : Int32) (x5 : Int32) (x7 : Int32) (s : mSG) : Option ((Int32 × Int32 × mSG) ⊕ Int32 × mSG) :=
  if 8 ≤ x7 then
    some (.inr (x5, s))
  else
    if x3 = 0 then
      X7_learn_37_28_7_j87_65 t x3 x5 x6 x7 s
    else
      if x6 = x7 then
        X7_learn_37_28_7_j87_65 t x3 x5 x6 x7 s
      else
        X7_learn_37_28_7_j95_65 t x3 x5 x6 x7 1 s
def X7_learn_37_28_7_l65 (t : mTX) (x3 : Int32) (x6 : Int32) (v : Int32 × Int32 × mSG) : Option (Int32 × mSG) :=
  iter (fun v : Int32 × Int32 × mSG => X7_learn_37_28_7_b65 t x3 x6 v.1 v.2.1 v.2.2) mFU v
def X7_learn_37_28_7_b55 (t : mTX) (x3 : Int32) (x5 : Int32) (x6 : Int32) (s : mSG) : Option ((Int32 × Int32 × mSG) ⊕ mSG) :=
  if 8 ≤ x6 then
    some (.inr s)
  else
    (X7_learn_37_28_7_l65 t x3 x6 (x5, 0, s)).bind (fun e65 =>
    some (.inl (e65.1, x6 + 1, e65.2)))
def X7_learn_37_28_7_l55 (t : mTX) (x3 : Int32) (v : Int32 × Int32 × mSG) : Option mSG :=
  iter (fun v : Int32 × Int32 × mSG => X7_learn_37_28_7_b55 t x3 v.1 v.2.1 v.2.2) mFU v
def X7_learn_37_28_7 (t : mTX) (x3 : Int32) (s : mSG) : Option mSG :=
  if X8_isWithin (s.1 28 7) 9 = true then
    if (((s.1 37 1) >>> ((s.1 28 7) &&& 31)) &&& 1) = 0 then
      (X7_learn_37_28_7_l55 t x3 (((s.1 28 7) * 8) * 8, 0, sI s 37 1 ((s.1 37 1) ||| (1 <<< ((s.1 28 7) &&& 31))))).bind (fun e55 =>
      some e55)
    else
      some s
  else
    some s
def J7_fill_41_b5 (x1 : Int32) (x3 : Int32) (x2 : Int32) (s : mSG) : Option ((Int32 × mSG) ⊕ mSG) :=
  if x3 ≤ x2 then
    some (.inr s)
  else
    if mInb x2 8 = true then
      some (.inl (x2 + 1, sI s 41 x2.toNatClampNeg x1))
    else none
def J7_fill_41_l5 (x1 : Int32) (x3 : Int32) (v : Int32 × mSG) : Option mSG :=
  iter (fun v : Int32 × mSG => J7_fill_41_b5 x1 x3 v.1 v.2) mFU v
def J7_fill_41 (x1 : Int32) (s : mSG) : Option mSG :=
  (J7_fill_41_l5 x1 (Int32.ofNat 8) (0, s)).bind (fun e5 =>
  some e5)
def J7_fill_42_b5 (x1 : Int32) (x3 : Int32) (x2 : Int32) (s : mSG) : Option ((Int32 × mSG) ⊕ mSG) :=
  if x3 ≤ x2 then
    some (.inr s)
  else
    if mInb x2 8 = true then
      some (.inl (x2 + 1, sI s 42 x2.toNatClampNeg x1))
    else none
def J7_fill_42_l5 (x1 : Int32) (x3 : Int32) (v : Int32 × mSG) : Option mSG :=
  iter (fun v : Int32 × mSG => J7_fill_42_b5 x1 x3 v.1 v.2) mFU v
def J7_fill_42 (x1 : Int32) (s : mSG) : Option mSG :=
  (J7_fill_42_l5 x1 (Int32.ofNat 8) (0, s)).bind (fun e5 =>
  some e5)
def X7_between_35 (x1 : Int32) (x2 : Int32) (x3 : Int32) (s : mSG) : Option Int32 :=
  if X8_isWithin x1 9 = true then
    if X8_isStone x2 = true then
      if X8_isStone x3 = true then
        if mInb ((((x1 * 8) + x2) * 8) + x3) 640 = true then
          some (s.1 36 ((((x1 * 8) + x2) * 8) + x3).toNatClampNeg)
        else none
      else
        some 0
    else
      some 0
  else
    some 0
def X7_between_37 (x1 : Int32) (x2 : Int32) (x3 : Int32) (s : mSG) : Option Int32 :=
  if X8_isWithin x1 9 = true then
    if X8_isStone x2 = true then
      if X8_isStone x3 = true then
        if mInb ((((x1 * 8) + x2) * 8) + x3) 640 = true then
          some (s.1 38 ((((x1 * 8) + x2) * 8) + x3).toNatClampNeg)
        else none
      else
        some 0
    else
      some 0
  else
    some 0
def X3_between_j37 (x1 : Int32) (x2 : Int32) (x3 : Int32) (p0 : Int32) (s : mSG) : Option Int32 :=
  if p0 = 0 then
    (X7_between_35 x1 x2 x3 s).bind (fun r4 =>
    some r4)
  else
    (X7_between_37 x1 x2 x3 s).bind (fun r5 =>
    some r5)
def X3_between_j32 (x1 : Int32) (x2 : Int32) (x3 : Int32) (s : mSG) : Option Int32 :=
  X3_between_j37 x1 x2 x3 1 s
def X3_between_j36 (x1 : Int32) (x2 : Int32) (x3 : Int32) (s : mSG) : Option Int32 :=
  X3_between_j37 x1 x2 x3 0 s
def X3_between_j16 (x1 : Int32) (x2 : Int32) (x3 : Int32) (s : mSG) : Option Int32 :=
  if x2 = (s.1 34 9) then
    if x3 = (s.1 34 8) then
      X3_between_j32 x1 x2 x3 s
    else
      X3_between_j36 x1 x2 x3 s
  else
    X3_between_j36 x1 x2 x3 s
def X3_between (x1 : Int32) (x2 : Int32) (x3 : Int32) (s : mSG) : Option Int32 :=
  if x2 = (s.1 34 8) then
    if x3 = (s.1 34 9) then
      X3_between_j32 x1 x2 x3 s
    else
      X3_between_j16 x1 x2 x3 s
  else
    X3_between_j16 x1 x2 x3 s
def X3_offer_j30 (x1 : Int32) (x2 : Int32) (x3 : Int32) (s : mSG) : Option mSG :=
  if mInb x1 8 = true then
    some (sI (sI s 41 x1.toNatClampNeg x2) 42 x1.toNatClampNeg x3)
  else none
def X3_offer (x1 : Int32) (x2 : Int32) (x3 : Int32) (s : mSG) : Option mSG :=
  if mInb x1 8 = true then
    if x2 < (s.1 41 x1.toNatClampNeg) then
      X3_offer_j30 x1 x2 x3 s
    else
      if x2 = (s.1 41 x1.toNatClampNeg) then
        if (s.1 42 x1.toNatClampNeg) ≤ x3 then
          some s
        else
          X3_offer_j30 x1 x2 x3 s
      else
        some s
  else none
def X3_step_j94_27 (x1 : Int32) (x2 : Int32) (x3 : Int32) (s : mSG) : Option ((Int32 × mSG) ⊕ mSG) :=
  some (.inl (x3 + 1, s))
def X3_step_j91_27 (x1 : Int32) (x2 : Int32) (x3 : Int32) (p1 : Int32) (p2 : Int32) (p3 : Int32) (s : mSG) : Option ((Int32 × mSG) ⊕ mSG) :=
  (X3_offer p1 p2 p3 s).bind (fun r10 =>
  X3_step_j94_27 x1 x2 x3 r10)
def X3_step_b27 (x1 : Int32) (x2 : Int32) (x3 : Int32) (s : mSG) : Option ((Int32 × mSG) ⊕ mSG) :=
  if mInb x2 8 = true then
    if (s.1 34 10) ≤ (s.1 39 x2.toNatClampNeg) then
      some (.inr s)
    else
      if 8 ≤ x3 then
        some (.inr s)
      else
        (X3_between x1 x2 x3 s).bind (fun r7 =>
        if r7 ≤ 0 then
          X3_step_j94_27 x1 x2 x3 s
        else
          if (s.1 40 x2.toNatClampNeg) = (-1) then
            X3_step_j91_27 x1 x2 x3 x3 ((s.1 39 x2.toNatClampNeg) + r7) x3 s
          else
            X3_step_j91_27 x1 x2 x3 x3 ((s.1 39 x2.toNatClampNeg) + r7) (s.1 40 x2.toNatClampNeg) s)
  else none
def X3_step_l27 (x1 : Int32) (x2 : Int32) (v : Int32 × mSG) : Option mSG :=
  iter (fun v : Int32 × mSG => X3_step_b27 x1 x2 v.1 v.2) mFU v
def X3_step_j100_19 (x1 : Int32) (x2 : Int32) (s : mSG) : Option ((Int32 × mSG) ⊕ mSG) :=
  some (.inl (x2 + 1, s))
def X3_step_b19 (x1 : Int32) (x2 : Int32) (s : mSG) : Option ((Int32 × mSG) ⊕ mSG) :=
  if 8 ≤ x2 then
    some (.inr s)
  else
    (X3_step_l27 x1 x2 (0, s)).bind (fun e27 =>
    X3_step_j100_19 x1 x2 e27)
def X3_step_l19 (x1 : Int32) (v : Int32 × mSG) : Option mSG :=
  iter (fun v : Int32 × mSG => X3_step_b19 x1 v.1 v.2) mFU v
def X3_step (x1 : Int32) (s : mSG) : Option mSG :=
  (J7_fill_41 1000000 s).bind (fun r1 =>
  (J7_fill_42 (-1) r1).bind (fun r2 =>
  (X3_step_l19 x1 (0, r2)).bind (fun e19 =>
  some (sC (sC e19 41 39 0 0 8) 42 40 0 0 8))))
def X3_noteArrival_j51 (x1 : Int32) (s : mSG) : Option mSG :=
  if mInb x1 8 = true then
    some (sI (sI s 34 10 (s.1 39 x1.toNatClampNeg)) 34 11 (s.1 40 x1.toNatClampNeg))
  else none
def X3_noteArrival (x1 : Int32) (s : mSG) : Option mSG :=
  if mInb x1 8 = true then
    if (s.1 39 x1.toNatClampNeg) = 1000000 then
      some s
    else
      if (s.1 39 x1.toNatClampNeg) ≤ (s.1 34 10) then
        if (s.1 39 x1.toNatClampNeg) < (s.1 34 10) then
          X3_noteArrival_j51 x1 s
        else
          if (s.1 34 11) ≤ (s.1 40 x1.toNatClampNeg) then
            some s
          else
            X3_noteArrival_j51 x1 s
      else
        some s
  else none
def X3_seek_28_7_j99_64 (t : mTX) (x4 : Int32) (x5 : Int32) (x6 : Int32) (s : mSG) : Option ((Int32 × mSG) ⊕ mSG) :=
  (X3_step (s.1 28 7) s).bind (fun r9 =>
  (X3_noteArrival x4 r9).bind (fun r10 =>
  (X0_soak_28 r10).bind (fun r11 =>
  some (.inl (x6 + 1, r11)))))
def X3_seek_28_7_b64 (t : mTX) (x4 : Int32) (x5 : Int32) (x6 : Int32) (s : mSG) : Option ((Int32 × mSG) ⊕ mSG) :=
  if 16 ≤ x6 then
    some (.inr s)
  else
    (X7_learn_35_28_7 t 0 s).bind (fun r6 =>
    if (r6.1 34 8) = (-1) then
      X3_seek_28_7_j99_64 t x4 x5 x6 r6
    else
      (X7_learn_37_28_7 t 1 r6).bind (fun r8 =>
      X3_seek_28_7_j99_64 t x4 x5 x6 r8))
def X3_seek_28_7_l64 (t : mTX) (x4 : Int32) (x5 : Int32) (v : Int32 × mSG) : Option mSG :=
  iter (fun v : Int32 × mSG => X3_seek_28_7_b64 t x4 x5 v.1 v.2) mFU v
def X3_seek_28_7_j13 (t : mTX) (x3 : Int32) (x4 : Int32) (p1 : Int32) (s : mSG) : Option mSG :=
  if X8_areTwoStones x3 x4 = true then
    (J7_fill_39 1000000 (sI (sI s 34 10 p1) 34 11 (-1))).bind (fun r2 =>
    (J7_fill_40 (-1) r2).bind (fun r3 =>
    if mInb x3 8 = true then
      (X3_seek_28_7_l64 t x4 (s.1 28 7) (0, sI r3 39 x3.toNatClampNeg 0)).bind (fun e64 =>
      some (sI e64 28 7 (s.1 28 7)))
    else none))
  else
    some (sI (sI s 34 10 p1) 34 11 (-1))
def X3_seek_28_7 (t : mTX) (x3 : Int32) (x4 : Int32) (s : mSG) : Option mSG :=
  if x3 = x4 then
    X3_seek_28_7_j13 t x3 x4 0 s
  else
    X3_seek_28_7_j13 t x3 x4 1000000 s
def X8_seek (t : mTX) (x1 : Int32) (x2 : Int32) (x3 : Int32) (s : mSG) : Option mSG :=
  (X8_ruleOf_7 s).bind (fun r1 =>
  (X0_be_28_7 x1 r1 s).bind (fun r2 =>
  (X3_forget (sI r2 28 8 x3)).bind (fun r3 =>
  (X5_trait_7 x1 0 r3).bind (fun r4 =>
  (X3_seek_28_7 t r4 x2 r3).bind (fun r5 =>
  some r5)))))
def X3_hoursFound (s : mSG) : Int32 :=
  if 1000000 ≤ (s.1 34 10) then
    (-1)
  else
    s.1 34 10
def X3_firstFound (s : mSG) : Int32 :=
  s.1 34 11
def X8_soonest (t : mTX) (x1 : Int32) (x2 : Int32) (x3 : Int32) (s : mSG) : Option (Int32 × mSG) :=
  if X5_isOne_7 x1 s = true then
    if X8_isStone x2 = true then
      if X8_isWithin x3 1 = true then
        (X5_rainNow_7 s).bind (fun r1 =>
        (X8_seek t x1 x2 r1 s).bind (fun r2 =>
        if x3 = 0 then
          some (X3_hoursFound r2, r2)
        else
          some (X3_firstFound r2, r2)))
      else
        some ((-2), s)
    else
      some ((-2), s)
  else
    some ((-2), s)
def X8_areTwoPeople (x1 : Int32) (x2 : Int32) (s : mSG) : Bool :=
  if X5_isOne_7 x1 s = true then
    if X5_isOne_7 x2 s = true then
      if x1 = x2 then
        false
      else
        true
    else
      false
  else
    false
def X8_areOnOneStone (x1 : Int32) (x2 : Int32) (s : mSG) : Option Bool :=
  (X5_trait_7 x1 0 s).bind (fun r1 =>
  (X5_trait_7 x2 0 s).bind (fun r2 =>
  if r1 = r2 then
    some true
  else
    some false))
def X0_be_31_7 (x2 : Int32) (a3_ : Nat) (s : mSG) : Option mSG :=
  (X5_trait_7 x2 5 (sQ s 31 2 a3_)).bind (fun r1 =>
  (X5_trait_7 x2 4 (sI (sQ s 31 2 a3_) 31 3 r1)).bind (fun r2 =>
  (X5_trait_7 x2 1 (sI (sI (sQ s 31 2 a3_) 31 3 r1) 31 4 r2)).bind (fun r3 =>
  (X5_trait_7 x2 3 (sI (sI (sI (sQ s 31 2 a3_) 31 3 r1) 31 4 r2) 31 5 r3)).bind (fun r4 =>
  (X5_trait_7 x2 2 (sI (sI (sI (sI (sQ s 31 2 a3_) 31 3 r1) 31 4 r2) 31 5 r3) 31 6 r4)).bind (fun r5 =>
  (X5_rainNow_7 (sI (sI (sI (sI (sI (sQ s 31 2 a3_) 31 3 r1) 31 4 r2) 31 5 r3) 31 6 r4) 31 7 r5)).bind (fun r6 =>
  some (sI (sI (sI (sI (sI (sI (sQ s 31 2 a3_) 31 3 r1) 31 4 r2) 31 5 r3) 31 6 r4) 31 7 r5) 31 8 r6)))))))
def X0_reaches_31 (s : mSG) : Int32 :=
  X2_reaches (s.1 31 3) (s.1 31 4) (s.1 31 5) (s.1 31 7)
def X0_wants_28 (t : mTX) (x1 : Int32) (x2 : Int32) (x3 : Int32) (s : mSG) : Option (Int32 × mSG) :=
  (X0_asked_28 t 0 x1 x2 x3 s).bind (fun r1 =>
  some (r1.1, r1.2))
def X6_value_32_33_j172_31 (t : mTX) (a0_ : Nat) (x1 : Int32) (x4 : Int32) (x5 : Int32) (s : mSG) : Option ((Int32 × Int32 × mSG) ⊕ mSG) :=
  some (.inl (x4, x5 + 1, s))
def X6_value_32_33_j93_31 (t : mTX) (a0_ : Nat) (x1 : Int32) (x4 : Int32) (x5 : Int32) (p1 : Int32) (p2 : Int32) (s : mSG) : Option ((Int32 × Int32 × mSG) ⊕ mSG) :=
  if mInb p1 32 = true then
    X6_value_32_33_j172_31 t a0_ x1 (x4 + 1) x5 (sI s 33 p1.toNatClampNeg p2)
  else none
def X6_value_32_33_j69_31 (t : mTX) (a0_ : Nat) (x1 : Int32) (x4 : Int32) (x5 : Int32) (x6 : Int32) (x7 : Int32) (s : mSG) : Option ((Int32 × Int32 × mSG) ⊕ mSG) :=
  if 32 ≤ x4 then
    X6_value_32_33_j172_31 t a0_ x1 x4 x5 s
  else
    if x6 < 0 then
      if mInb x7 6 = true then
        X6_value_32_33_j93_31 t a0_ x1 x4 x5 x4 (s.1 32 x7.toNatClampNeg) s
      else none
    else
      X6_value_32_33_j93_31 t a0_ x1 x4 x5 x4 x6 s
def X6_value_32_33_j114_31 (t : mTX) (a0_ : Nat) (x1 : Int32) (x4 : Int32) (x5 : Int32) (x6 : Int32) (s : mSG) : Option ((Int32 × Int32 × mSG) ⊕ mSG) :=
  if x4 < 1 then
    X6_value_32_33_j172_31 t a0_ x1 x4 x5 s
  else
    if mInb (x4 - 1) 32 = true then
      X6_value_32_33_j172_31 t a0_ x1 x4 x5 (sI s 33 (x4 - 1).toNatClampNeg (X6_ofOne x6 (s.1 33 (x4 - 1).toNatClampNeg)))
    else none
def X6_value_32_33_b31 (t : mTX) (a0_ : Nat) (x1 : Int32) (x4 : Int32) (x5 : Int32) (s : mSG) : Option ((Int32 × Int32 × mSG) ⊕ mSG) :=
  if (mKl (LAY t) a0_).1 = 5 then
    (mRf (LAY t) a0_ 1).bind (fun a3 =>
    if (mKl (LAY t) a3).1 = 20 ∧ mInb x1 (mKl (LAY t) a3).2 = true then
      if (s.1 a3 x1.toNatClampNeg) ≤ x5 then
        some (.inr s)
      else
        if (mKl (LAY t) a0_).1 = 5 then
          (mRf (LAY t) a0_ 0).bind (fun a5 =>
          if (mKl (LAY t) a5).1 = 20 ∧ mInb x5 (mKl (LAY t) a5).2 = true then
            if 0 ≤ (s.1 a5 x5.toNatClampNeg) then
              X6_value_32_33_j69_31 t a0_ x1 x4 x5 (s.1 a5 x5.toNatClampNeg) ((-1) - (s.1 a5 x5.toNatClampNeg)) s
            else
              if 6 ≤ ((-1) - (s.1 a5 x5.toNatClampNeg)) then
                if (s.1 a5 x5.toNatClampNeg) = (-13) then
                  X6_value_32_33_j114_31 t a0_ x1 x4 x5 (s.1 a5 x5.toNatClampNeg) s
                else
                  if (s.1 a5 x5.toNatClampNeg) = (-19) then
                    X6_value_32_33_j114_31 t a0_ x1 x4 x5 (s.1 a5 x5.toNatClampNeg) s
                  else
                    if x4 < 2 then
                      X6_value_32_33_j172_31 t a0_ x1 x4 x5 s
                    else
                      if mInb (x4 - 2) 32 = true then
                        if mInb (x4 - 1) 32 = true then
                          X6_value_32_33_j172_31 t a0_ x1 (x4 + (-1)) x5 (sI s 33 (x4 - 2).toNatClampNeg (X6_ofTwo (s.1 a5 x5.toNatClampNeg) (s.1 33 (x4 - 2).toNatClampNeg) (s.1 33 (x4 - 1).toNatClampNeg)))
                        else none
                      else none
              else
                X6_value_32_33_j69_31 t a0_ x1 x4 x5 (s.1 a5 x5.toNatClampNeg) ((-1) - (s.1 a5 x5.toNatClampNeg)) s
          else none)
        else none
    else none)
  else none
def X6_value_32_33_l31 (t : mTX) (a0_ : Nat) (x1 : Int32) (v : Int32 × Int32 × mSG) : Option mSG :=
  iter (fun v : Int32 × Int32 × mSG => X6_value_32_33_b31 t a0_ x1 v.1 v.2.1 v.2.2) mFU v
def X6_value_32_33_j29 (t : mTX) (a0_ : Nat) (x1 : Int32) (x4 : Int32) (p0 : Int32) (s : mSG) : Option (Int32 × mSG) :=
  (X6_value_32_33_l31 t a0_ x1 (x4, p0, s)).bind (fun e31 =>
  some (e31.1 33 0, e31))
def X6_value_32_33 (t : mTX) (a0_ : Nat) (x1 : Int32) (s : mSG) : Option (Int32 × mSG) :=
  if X8_isWithin x1 2 = true then
    if x1 = 0 then
      X6_value_32_33_j29 t a0_ x1 0 0 s
    else
      if (mKl (LAY t) a0_).1 = 5 then
        (mRf (LAY t) a0_ 1).bind (fun a2 =>
        if (mKl (LAY t) a2).1 = 20 ∧ mInb (x1 - 1) (mKl (LAY t) a2).2 = true then
          X6_value_32_33_j29 t a0_ x1 0 (s.1 a2 (x1 - 1).toNatClampNeg) s
        else none)
      else none
  else
    some (0, s)
def X0_asked_31 (t : mTX) (x1 : Int32) (x2 : Int32) (x3 : Int32) (x4 : Int32) (s : mSG) : Option (Int32 × mSG) :=
  m_opt (s.2.1 31 2) (some (0, s)) (fun a1 =>
    (s.2.1 31 2).bind (fun a2 =>
      if (mKl (LAY t) a2).1 = 5 then
        (X6_value_32_33 t a2 x1 (sI (sI (sI (sI (sI (sI s 32 0 x4) 32 1 (s.1 31 7)) 32 2 (s.1 31 6)) 32 3 (s.1 31 8)) 32 4 x2) 32 5 x3)).bind (fun r3 =>
      some (X8_bounded r3.1 0 99, r3.2))
      else none))
def X0_wants_31 (t : mTX) (x1 : Int32) (x2 : Int32) (x3 : Int32) (s : mSG) : Option (Int32 × mSG) :=
  (X0_asked_31 t 0 x1 x2 x3 s).bind (fun r1 =>
  some (r1.1, r1.2))
def X8_pooledFrom_j109_31 (t : mTX) (x1 : Int32) (x2 : Int32) (x3 : Int32) (x4 : Int32) (x5 : Int32) (s : mSG) : Option ((Int32 × Int32 × mSG) ⊕ Int32 × mSG) :=
  some (.inl (x2, x5 + 1, s))
def X8_pooledFrom_b31 (t : mTX) (x1 : Int32) (x3 : Int32) (x4 : Int32) (x2 : Int32) (x5 : Int32) (s : mSG) : Option ((Int32 × Int32 × mSG) ⊕ Int32 × mSG) :=
  if 8 ≤ x5 then
    some (.inr (x2, s))
  else
    (X5_mudBetween_7 x4 x5 s).bind (fun r3 =>
    if ((x1 >>> (x4 &&& 31)) &&& 1) = 0 then
      X8_pooledFrom_j109_31 t x1 x2 x3 x4 x5 s
    else
      if r3 = 0 then
        X8_pooledFrom_j109_31 t x1 x2 x3 x4 x5 s
      else
        (X0_wants_28 t x4 x5 r3 s).bind (fun r6 =>
        (X0_wants_31 t x4 x5 r3 r6.2).bind (fun r7 =>
        if x3 < ((r3 + r6.1) + r7.1) then
          X8_pooledFrom_j109_31 t x1 x2 x3 x4 x5 r7.2
        else
          X8_pooledFrom_j109_31 t x1 (x2 ||| (1 <<< (x5 &&& 31))) x3 x4 x5 r7.2)))
def X8_pooledFrom_l31 (t : mTX) (x1 : Int32) (x3 : Int32) (x4 : Int32) (v : Int32 × Int32 × mSG) : Option (Int32 × mSG) :=
  iter (fun v : Int32 × Int32 × mSG => X8_pooledFrom_b31 t x1 x3 x4 v.1 v.2.1 v.2.2) mFU v
def X8_pooledFrom_b21 (t : mTX) (x1 : Int32) (x3 : Int32) (x2 : Int32) (x4 : Int32) (s : mSG) : Option ((Int32 × Int32 × mSG) ⊕ Int32 × mSG) :=
  if 8 ≤ x4 then
    some (.inr (x2, s))
  else
    (X8_pooledFrom_l31 t x1 x3 x4 (x2, 0, s)).bind (fun e31 =>
    some (.inl (e31.1, x4 + 1, e31.2)))
def X8_pooledFrom_l21 (t : mTX) (x1 : Int32) (x3 : Int32) (v : Int32 × Int32 × mSG) : Option (Int32 × mSG) :=
  iter (fun v : Int32 × Int32 × mSG => X8_pooledFrom_b21 t x1 x3 v.1 v.2.1 v.2.2) mFU v
def X8_pooledFrom (t : mTX) (x1 : Int32) (s : mSG) : Option (Int32 × mSG) :=
  (X8_pooledFrom_l21 t x1 ((X0_reaches_28 s) + (X0_reaches_31 s)) (0, 0, s)).bind (fun e21 =>
  some (e21.1, e21.2))
def X8_together_b87 (t : mTX) (x3 : Int32) (x4 : Int32) (x5 : Int32) (s : mSG) : Option ((Int32 × Int32 × mSG) ⊕ ((Int32 × mSG) ⊕ mSG)) :=
  if 8 ≤ x5 then
    some (.inr (.inr s))
  else
    if ((x4 >>> (x3 &&& 31)) &&& 1) = 0 then
      (X8_pooledFrom t x4 s).bind (fun r9 =>
      some (.inl (x4 ||| r9.1, x5 + 1, r9.2)))
    else
      some (.inr (.inl (x5, s)))
def X8_together_l87 (t : mTX) (x3 : Int32) (v : Int32 × Int32 × mSG) : Option ((Int32 × mSG) ⊕ mSG) :=
  iter (fun v : Int32 × Int32 × mSG => X8_together_b87 t x3 v.1 v.2.1 v.2.2) mFU v
def X8_together (t : mTX) (x1 : Int32) (x2 : Int32) (x3 : Int32) (s : mSG) : Option (Int32 × mSG) :=
  if X8_areTwoPeople x1 x2 s = true then
    if X8_isStone x3 = true then
      (X8_areOnOneStone x1 x2 s).bind (fun r1 =>
      if r1 = true then
        (X8_ruleOf_7 s).bind (fun r2 =>
        (X0_be_28_7 x1 r2 s).bind (fun r3 =>
        (X8_ruleOf_7 r3).bind (fun r4 =>
        (X0_be_31_7 x2 r4 r3).bind (fun r5 =>
        (X5_trait_7 x1 0 r5).bind (fun r6 =>
        (X8_together_l87 t x3 (1 <<< (r6 &&& 31), 0, r5)).bind (fun e87 =>
        Sum.elim (fun e87_0 =>
          some (e87_0.1, e87_0.2)) (fun e87_1 =>
          some ((-1), e87_1)) e87))))))
      else
        some ((-3), s))
    else
      some ((-2), s)
  else
    some ((-2), s)
def X0_lends_28 (t : mTX) (x1 : Int32) (s : mSG) : Option (Int32 × mSG) :=
  (X0_asked_28 t 2 x1 x1 0 s).bind (fun r1 =>
  some (r1.1, r1.2))
def X5_putDebt_7 (x1 : Int32) (x2 : Int32) (x3 : Int32) (s : mSG) : Option mSG :=
  if X5_isOne_7 x1 s = true then
    if X5_isOne_7 x2 s = true then
      if mInb ((x1 * 5) + x2) 25 = true then
        some (sI s 10 ((x1 * 5) + x2).toNatClampNeg x3)
      else none
    else
      some s
  else
    some s
def X8_lend (t : mTX) (x1 : Int32) (x2 : Int32) (x3 : Int32) (s : mSG) : Option (Int32 × mSG) :=
  if X8_areTwoPeople x1 x2 s = true then
    if X8_isWithin x3 99 = true then
      if x3 = 0 then
        some ((-2), s)
      else
        (X5_trait_7 x1 1 s).bind (fun r2 =>
        (X5_trait_7 x2 1 s).bind (fun r3 =>
        (X5_debt_7 x2 x1 s).bind (fun r4 =>
        (X8_areOnOneStone x1 x2 s).bind (fun r5 =>
        if r5 = true then
          if (r2 - x3) < 0 then
            some ((-3), s)
          else
            if 99 < (r3 + x3) then
              some ((-3), s)
            else
              if (r4 + x3) ≤ 99 then
                (X8_ruleOf_7 s).bind (fun r9 =>
                (X0_be_28_7 x1 r9 s).bind (fun r10 =>
                (X5_trait_7 x1 0 r10).bind (fun r11 =>
                (X0_lends_28 t r11 r10).bind (fun r12 =>
                (X5_put_7 x1 1 (r2 - x3) r12.2).bind (fun r13 =>
                (X5_put_7 x2 1 (r3 + x3) r13).bind (fun r14 =>
                (X5_putDebt_7 x2 x1 (r4 + x3) r14).bind (fun r15 =>
                some (r12.1 * x3, r15))))))))
              else
                some ((-3), s)
        else
          some ((-3), s)))))
    else
      some ((-2), s)
  else
    some ((-2), s)
def X8_owed (x1 : Int32) (x2 : Int32) (s : mSG) : Option Int32 :=
  if X5_isOne_7 x1 s = true then
    if X5_isOne_7 x2 s = true then
      (X5_debt_7 x1 x2 s).bind (fun r1 =>
      some r1)
    else
      some (-2)
  else
    some (-2)
def X5_closeTwo_7 (x1 : Int32) (x2 : Int32) (s : mSG) : Option (Int32 × mSG) :=
  (X5_debt_7 x1 x2 s).bind (fun r1 =>
  (X5_debt_7 x2 x1 s).bind (fun r2 =>
  (X5_debt_7 x1 x2 s).bind (fun r3 =>
  (X5_putDebt_7 x1 x2 (r3 - (J9_min r1 r2)) s).bind (fun r4 =>
  (X5_debt_7 x2 x1 r4).bind (fun r5 =>
  (X5_putDebt_7 x2 x1 (r5 - (J9_min r1 r2)) r4).bind (fun r6 =>
  some (J9_min r1 r2, r6)))))))
def X5_closeThree_7 (x1 : Int32) (x2 : Int32) (x3 : Int32) (s : mSG) : Option (Int32 × mSG) :=
  (X5_debt_7 x1 x2 s).bind (fun r1 =>
  (X5_debt_7 x2 x3 s).bind (fun r2 =>
  (X5_debt_7 x3 x1 s).bind (fun r3 =>
  (X5_debt_7 x1 x2 s).bind (fun r4 =>
  (X5_putDebt_7 x1 x2 (r4 - (J9_min r1 (J9_min r2 r3))) s).bind (fun r5 =>
  (X5_debt_7 x2 x3 r5).bind (fun r6 =>
  (X5_putDebt_7 x2 x3 (r6 - (J9_min r1 (J9_min r2 r3))) r5).bind (fun r7 =>
  (X5_debt_7 x3 x1 r7).bind (fun r8 =>
  (X5_putDebt_7 x3 x1 (r8 - (J9_min r1 (J9_min r2 r3))) r7).bind (fun r9 =>
  some (J9_min r1 (J9_min r2 r3), r9))))))))))
def X8_rings_b13 (x2 : Int32) (x1 : Int32) (x3 : Int32) (s : mSG) : Option ((Int32 × Int32 × mSG) ⊕ Int32 × mSG) :=
  if 5 ≤ x3 then
    some (.inr (x1, s))
  else
    (X5_closeTwo_7 x2 x3 s).bind (fun r3 =>
    some (.inl (x1 + r3.1, x3 + 1, r3.2)))
def X8_rings_l13 (x2 : Int32) (v : Int32 × Int32 × mSG) : Option (Int32 × mSG) :=
  iter (fun v : Int32 × Int32 × mSG => X8_rings_b13 x2 v.1 v.2.1 v.2.2) mFU v
def X8_rings_b4 (x1 : Int32) (x2 : Int32) (s : mSG) : Option ((Int32 × Int32 × mSG) ⊕ Int32 × mSG) :=
  if 5 ≤ x2 then
    some (.inr (x1, s))
  else
    (X8_rings_l13 x2 (x1, x2 + 1, s)).bind (fun e13 =>
    some (.inl (e13.1, x2 + 1, e13.2)))
def X8_rings_l4 (v : Int32 × Int32 × mSG) : Option (Int32 × mSG) :=
  iter (fun v : Int32 × Int32 × mSG => X8_rings_b4 v.1 v.2.1 v.2.2) mFU v
def X8_rings_b63 (x2 : Int32) (x3 : Int32) (x1 : Int32) (x4 : Int32) (s : mSG) : Option ((Int32 × Int32 × mSG) ⊕ Int32 × mSG) :=
  if 5 ≤ x4 then
    some (.inr (x1, s))
  else
    (X5_closeThree_7 x2 x3 x4 s).bind (fun r7 =>
    (X5_closeThree_7 x2 x4 x3 r7.2).bind (fun r8 =>
    some (.inl ((x1 + r7.1) + r8.1, x4 + 1, r8.2))))
def X8_rings_l63 (x2 : Int32) (x3 : Int32) (v : Int32 × Int32 × mSG) : Option (Int32 × mSG) :=
  iter (fun v : Int32 × Int32 × mSG => X8_rings_b63 x2 x3 v.1 v.2.1 v.2.2) mFU v
def X8_rings_b53 (x2 : Int32) (x1 : Int32) (x3 : Int32) (s : mSG) : Option ((Int32 × Int32 × mSG) ⊕ Int32 × mSG) :=
  if 5 ≤ x3 then
    some (.inr (x1, s))
  else
    (X8_rings_l63 x2 x3 (x1, x3 + 1, s)).bind (fun e63 =>
    some (.inl (e63.1, x3 + 1, e63.2)))
def X8_rings_l53 (x2 : Int32) (v : Int32 × Int32 × mSG) : Option (Int32 × mSG) :=
  iter (fun v : Int32 × Int32 × mSG => X8_rings_b53 x2 v.1 v.2.1 v.2.2) mFU v
def X8_rings_b44 (x1 : Int32) (x2 : Int32) (s : mSG) : Option ((Int32 × Int32 × mSG) ⊕ Int32 × mSG) :=
  if 5 ≤ x2 then
    some (.inr (x1, s))
  else
    (X8_rings_l53 x2 (x1, x2 + 1, s)).bind (fun e53 =>
    some (.inl (e53.1, x2 + 1, e53.2)))
def X8_rings_l44 (v : Int32 × Int32 × mSG) : Option (Int32 × mSG) :=
  iter (fun v : Int32 × Int32 × mSG => X8_rings_b44 v.1 v.2.1 v.2.2) mFU v
def X8_rings (s : mSG) : Option (Int32 × mSG) :=
  (X8_rings_l4 (0, 0, s)).bind (fun e4 =>
  (X8_rings_l44 (e4.1, 0, e4.2)).bind (fun e44 =>
  some (e44.1, e44.2)))
def X0_crosses_28 (t : mTX) (x1 : Int32) (x2 : Int32) (x3 : Int32) (s : mSG) : Option (Bool × mSG) :=
  if x3 ≤ 0 then
    some (false, s)
  else
    (X0_wants_28 t x1 x2 x3 s).bind (fun r2 =>
    if (X0_reaches_28 s) < (x3 + r2.1) then
      some (false, r2.2)
    else
      some (true, r2.2))
def X0_crosses_31 (t : mTX) (x1 : Int32) (x2 : Int32) (x3 : Int32) (s : mSG) : Option (Bool × mSG) :=
  if x3 ≤ 0 then
    some (false, s)
  else
    (X0_wants_31 t x1 x2 x3 s).bind (fun r2 =>
    if (X0_reaches_31 s) < (x3 + r2.1) then
      some (false, r2.2)
    else
      some (true, r2.2))
def X8_followedFrom_j82_13 (t : mTX) (x1 : Int32) (x2 : Int32) (x3 : Int32) (x4 : Int32) (s : mSG) : Option ((Int32 × Int32 × mSG) ⊕ (mSG ⊕ Int32 × mSG)) :=
  some (.inl (x2, x4 + 1, s))
def X8_followedFrom_b13 (t : mTX) (x1 : Int32) (x3 : Int32) (x2 : Int32) (x4 : Int32) (s : mSG) : Option ((Int32 × Int32 × mSG) ⊕ (mSG ⊕ Int32 × mSG)) :=
  if 8 ≤ x4 then
    some (.inr (.inr (x2, s)))
  else
    (X5_mudBetween_7 x3 x4 s).bind (fun r3 =>
    if ((x1 >>> (x3 &&& 31)) &&& 1) = 0 then
      X8_followedFrom_j82_13 t x1 x2 x3 x4 s
    else
      (X0_crosses_28 t x3 x4 r3 s).bind (fun r5 =>
      if r5.1 = true then
        (X0_crosses_31 t x3 x4 r3 r5.2).bind (fun r6 =>
        if r6.1 = true then
          X8_followedFrom_j82_13 t x1 (x2 ||| (1 <<< (x4 &&& 31))) x3 x4 r6.2
        else
          some (.inr (.inl r6.2)))
      else
        X8_followedFrom_j82_13 t x1 x2 x3 x4 r5.2))
def X8_followedFrom_l13 (t : mTX) (x1 : Int32) (x3 : Int32) (v : Int32 × Int32 × mSG) : Option (mSG ⊕ Int32 × mSG) :=
  iter (fun v : Int32 × Int32 × mSG => X8_followedFrom_b13 t x1 x3 v.1 v.2.1 v.2.2) mFU v
def X8_followedFrom_b4 (t : mTX) (x1 : Int32) (x2 : Int32) (x3 : Int32) (s : mSG) : Option ((Int32 × Int32 × mSG) ⊕ (mSG ⊕ Int32 × mSG)) :=
  if 8 ≤ x3 then
    some (.inr (.inr (x2, s)))
  else
    (X8_followedFrom_l13 t x1 x3 (x2, 0, s)).bind (fun e13 =>
    Sum.elim (fun e13_0 =>
      some (.inr (.inl e13_0))) (fun e13_1 =>
      some (.inl (e13_1.1, x3 + 1, e13_1.2))) e13)
def X8_followedFrom_l4 (t : mTX) (x1 : Int32) (v : Int32 × Int32 × mSG) : Option (mSG ⊕ Int32 × mSG) :=
  iter (fun v : Int32 × Int32 × mSG => X8_followedFrom_b4 t x1 v.1 v.2.1 v.2.2) mFU v
def X8_followedFrom (t : mTX) (x1 : Int32) (s : mSG) : Option (Int32 × mSG) :=
  (X8_followedFrom_l4 t x1 (0, 0, s)).bind (fun e4 =>
  Sum.elim (fun e4_0 =>
    some ((-1), e4_0)) (fun e4_1 =>
    some (e4_1.1, e4_1.2)) e4)
def X0_soak_31 (s : mSG) : Option mSG :=
  some (sI s 31 7 (X2_soaks (s.1 31 3) (s.1 31 7) (s.1 31 8)))
def X8_shaken_b79 (t : mTX) (x3 : Int32) (x4 : Int32) (s : mSG) : Option ((Int32 × Int32 × mSG) ⊕ ((Int32 × mSG) ⊕ mSG)) :=
  if 8 < x4 then
    some (.inr (.inr s))
  else
    (X8_followedFrom t x3 s).bind (fun r8 =>
    if r8.1 = (-1) then
      some (.inr (.inl (x4, r8.2)))
    else
      (X0_soak_28 r8.2).bind (fun r10 =>
      (X0_soak_31 r10).bind (fun r11 =>
      some (.inl (r8.1, x4 + 1, r11)))))
def X8_shaken_l79 (t : mTX) (v : Int32 × Int32 × mSG) : Option ((Int32 × mSG) ⊕ mSG) :=
  iter (fun v : Int32 × Int32 × mSG => X8_shaken_b79 t v.1 v.2.1 v.2.2) mFU v
def X8_shaken (t : mTX) (x1 : Int32) (x2 : Int32) (s : mSG) : Option (Int32 × mSG) :=
  if X8_areTwoPeople x1 x2 s = true then
    (X8_areOnOneStone x1 x2 s).bind (fun r1 =>
    if r1 = true then
      (X8_ruleOf_7 s).bind (fun r2 =>
      (X0_be_28_7 x1 r2 s).bind (fun r3 =>
      (X8_ruleOf_7 r3).bind (fun r4 =>
      (X0_be_31_7 x2 r4 r3).bind (fun r5 =>
      (X5_trait_7 x1 0 r5).bind (fun r6 =>
      (X8_shaken_l79 t (1 <<< (r6 &&& 31), 1, r5)).bind (fun e79 =>
      Sum.elim (fun e79_0 =>
        some (e79_0.1, e79_0.2)) (fun e79_1 =>
        some ((-1), e79_1)) e79))))))
    else
      some ((-3), s))
  else
    some ((-2), s)
def X4_isMissing (t : mTX) (a0_ : Nat) (s : mSG) : Option Bool :=
  if (mKl (LAY t) a0_).1 = 3 then
    if (s.1 a0_ 1) = (-1) then
      some true
    else
      some false
  else none
def X4_item (t : mTX) (a0_ : Nat) (x1 : Int32) (s : mSG) : Option Int32 :=
  if (mKl (LAY t) a0_).1 = 3 then
    if X8_isWithin x1 ((s.1 a0_ 2) - 1) = true then
      if (mKl (LAY t) a0_).1 = 3 then
        (mRf (LAY t) a0_ 0).bind (fun a1 =>
        if (mKl (LAY t) a1).1 = 20 ∧ mInb x1 (mKl (LAY t) a1).2 = true then
          some (s.1 a1 x1.toNatClampNeg)
        else none)
      else none
    else
      some (-1)
  else none
def X8_tellsStones_b2 (t : mTX) (a0_ : Nat) (x1 : Int32) (s : mSG) : Option (Int32 ⊕ (Unit ⊕ Unit)) :=
  if (mKl (LAY t) a0_).1 = 3 then
    if (s.1 a0_ 2) ≤ x1 then
      some (.inr (.inr ()))
    else
      if (mKl (LAY t) a0_).1 = 3 then
        (X4_item t a0_ x1 s).bind (fun r2 =>
      if X8_isStone r2 = true then
        some (.inl (x1 + 1))
      else
        some (.inr (.inl ())))
      else none
  else none
def X8_tellsStones_l2 (t : mTX) (a0_ : Nat) (s : mSG) (v : Int32) : Option (Unit ⊕ Unit) :=
  iter (fun v : Int32 => X8_tellsStones_b2 t a0_ v s) mFU v
def X8_tellsStones (t : mTX) (a0_ : Nat) (s : mSG) : Option Bool :=
  (X8_tellsStones_l2 t a0_ s 0).bind (fun e2 =>
  Sum.elim (fun e2_0 =>
    some false) (fun e2_1 =>
    some true) e2)
def X8_canFollow_b22 (t : mTX) (a2_ : Nat) (x3 : Int32) (s : mSG) : Option ((Int32 × mSG) ⊕ (mSG ⊕ mSG)) :=
  if (mKl (LAY t) a2_).1 = 3 then
    if (s.1 a2_ 2) ≤ x3 then
      some (.inr (.inr s))
    else
      if (mKl (LAY t) a2_).1 = 3 then
        (X4_item t a2_ (x3 - 1) s).bind (fun r4 =>
      if (mKl (LAY t) a2_).1 = 3 then
        (X4_item t a2_ x3 s).bind (fun r5 =>
      (X5_mudBetween_7 r4 r5 s).bind (fun r6 =>
      (X0_crosses_28 t r4 r5 r6 s).bind (fun r7 =>
      if r7.1 = true then
        (X0_soak_28 r7.2).bind (fun r8 =>
        some (.inl (x3 + 1, r8)))
      else
        some (.inr (.inl r7.2)))))
      else none)
      else none
  else none
def X8_canFollow_l22 (t : mTX) (a2_ : Nat) (v : Int32 × mSG) : Option (mSG ⊕ mSG) :=
  iter (fun v : Int32 × mSG => X8_canFollow_b22 t a2_ v.1 v.2) mFU v
def X8_canFollow (t : mTX) (x1 : Int32) (a2_ : Nat) (s : mSG) : Option (Bool × mSG) :=
  (X8_ruleOf_7 s).bind (fun r1 =>
  (X0_be_28_7 x1 r1 s).bind (fun r2 =>
  (X8_canFollow_l22 t a2_ (1, r2)).bind (fun e22 =>
  Sum.elim (fun e22_0 =>
    some (false, e22_0)) (fun e22_1 =>
    some (true, e22_1)) e22)))
def X8_prints_j80_51 (t : mTX) (a2_ : Nat) (x3 : Int32) (x4 : Int32) (s : mSG) : Option ((Int32 × Int32 × mSG) ⊕ Int32 × mSG) :=
  some (.inl (x3, x4 + 1, s))
def X8_prints_b51 (t : mTX) (a2_ : Nat) (x3 : Int32) (x4 : Int32) (s : mSG) : Option ((Int32 × Int32 × mSG) ⊕ Int32 × mSG) :=
  if (s.1 7 4) ≤ x4 then
    some (.inr (x3, s))
  else
    (X8_canFollow t x4 a2_ s).bind (fun r6 =>
    if r6.1 = true then
      X8_prints_j80_51 t a2_ (x3 ||| (1 <<< (x4 &&& 31))) x4 r6.2
    else
      X8_prints_j80_51 t a2_ x3 x4 r6.2)
def X8_prints_l51 (t : mTX) (a2_ : Nat) (v : Int32 × Int32 × mSG) : Option (Int32 × mSG) :=
  iter (fun v : Int32 × Int32 × mSG => X8_prints_b51 t a2_ v.1 v.2.1 v.2.2) mFU v
def X8_prints (t : mTX) (x1 : Int32) (s : mSG) : Option (Int32 × mSG) :=
  if X8_isWithin x1 3 = true then
    if mInb x1 4 = true then
      (s.2.1 24 x1.toNatClampNeg).bind (fun a1 =>
      if (mKl (LAY t) a1).1 = 3 then
        (X4_isMissing t a1 s).bind (fun r2 =>
      if r2 = true then
        some ((-11), s)
      else
        if (mKl (LAY t) a1).1 = 3 then
          if (s.1 a1 2) < 2 then
            some ((-2), s)
          else
            (X8_tellsStones t a1 s).bind (fun r4 =>
            if r4 = true then
              (X8_prints_l51 t a1 (0, 0, s)).bind (fun e51 =>
              some (e51.1, e51.2))
            else
              some ((-2), s))
        else none)
      else none)
    else none
  else
    some ((-2), s)
def X8_wasRainSeen_b2 (x1 : Int32) (x2 : Int32) (x3 : Int32) (s : mSG) : Option (Int32 ⊕ (Unit ⊕ Unit)) :=
  if x2 ≤ x3 then
    some (.inr (.inr ()))
  else
    (X5_rainIn_7 x3 s).bind (fun r2 =>
    if r2 = x1 then
      some (.inr (.inl ()))
    else
      some (.inl (x3 + 1)))
def X8_wasRainSeen_l2 (x1 : Int32) (x2 : Int32) (s : mSG) (v : Int32) : Option (Unit ⊕ Unit) :=
  iter (fun v : Int32 => X8_wasRainSeen_b2 x1 x2 v s) mFU v
def X8_wasRainSeen (x1 : Int32) (x2 : Int32) (s : mSG) : Option Bool :=
  (X8_wasRainSeen_l2 x1 x2 s 0).bind (fun e2 =>
  Sum.elim (fun e2_0 =>
    some true) (fun e2_1 =>
    some false) e2)
def X8_out_j120_38 (t : mTX) (x1 : Int32) (x2 : Int32) (x3 : Int32) (x4 : Int32) (x5 : Int32) (x6 : Int32) (s : mSG) : Option ((Int32 × Int32 × Int32 × mSG) ⊕ Int32 × Int32 × mSG) :=
  some (.inl (x4, x5, x6 + 1, s))
def X8_out_j109_38 (t : mTX) (x1 : Int32) (x2 : Int32) (x3 : Int32) (x6 : Int32) (x8 : Int32) (s : mSG) : Option ((Int32 × Int32 × Int32 × mSG) ⊕ Int32 × Int32 × mSG) :=
  X8_out_j120_38 t x1 x2 x3 x6 (x6 + x8) x6 s
def X8_out_b38 (t : mTX) (x1 : Int32) (x2 : Int32) (x3 : Int32) (x4 : Int32) (x5 : Int32) (x6 : Int32) (s : mSG) : Option ((Int32 × Int32 × Int32 × mSG) ⊕ Int32 × Int32 × mSG) :=
  if 24 ≤ x6 then
    some (.inr (x4, x5, s))
  else
    (X5_rainIn_7 x6 s).bind (fun r2 =>
    (X8_wasRainSeen r2 x6 s).bind (fun r3 =>
    if r3 = true then
      X8_out_j120_38 t x1 x2 x3 x4 x5 x6 s
    else
      (X8_seek t x1 x2 r2 s).bind (fun r4 =>
      if (X3_hoursFound r4) = (-1) then
        X8_out_j120_38 t x1 x2 x3 x4 x5 x6 r4
      else
        if x5 = (-1) then
          X8_out_j109_38 t x1 x2 x3 x6 (X3_hoursFound r4) r4
        else
          if x5 ≤ (x6 + (X3_hoursFound r4)) then
            X8_out_j120_38 t x1 x2 x3 x4 x5 x6 r4
          else
            X8_out_j109_38 t x1 x2 x3 x6 (X3_hoursFound r4) r4)))
def X8_out_l38 (t : mTX) (x1 : Int32) (x2 : Int32) (x3 : Int32) (v : Int32 × Int32 × Int32 × mSG) : Option (Int32 × Int32 × mSG) :=
  iter (fun v : Int32 × Int32 × Int32 × mSG => X8_out_b38 t x1 x2 x3 v.1 v.2.1 v.2.2.1 v.2.2.2) mFU v
def X8_out (t : mTX) (x1 : Int32) (x2 : Int32) (x3 : Int32) (s : mSG) : Option (Int32 × mSG) :=
  if X5_isOne_7 x1 s = true then
    if X8_isStone x2 = true then
      if X8_isWithin x3 1 = true then
        (X8_out_l38 t x1 x2 x3 ((-1), (-1), 0, s)).bind (fun e38 =>
        if x3 = 0 then
          some (e38.1, e38.2.2)
        else
          some (e38.2.1, e38.2.2))
      else
        some ((-2), s)
    else
      some ((-2), s)
  else
    some ((-2), s)
def J7_fill_43_b5 (x1 : Int32) (x3 : Int32) (x2 : Int32) (s : mSG) : Option ((Int32 × mSG) ⊕ mSG) :=
  if x3 ≤ x2 then
    some (.inr s)
  else
    if mInb x2 64 = true then
      some (.inl (x2 + 1, sI s 43 x2.toNatClampNeg x1))
    else none
def J7_fill_43_l5 (x1 : Int32) (x3 : Int32) (v : Int32 × mSG) : Option mSG :=
  iter (fun v : Int32 × mSG => J7_fill_43_b5 x1 x3 v.1 v.2) mFU v
def J7_fill_43 (x1 : Int32) (s : mSG) : Option mSG :=
  (J7_fill_43_l5 x1 (Int32.ofNat 64) (0, s)).bind (fun e5 =>
  some e5)
def J7_fill_44_b5 (x1 : Int32) (x3 : Int32) (x2 : Int32) (s : mSG) : Option ((Int32 × mSG) ⊕ mSG) :=
  if x3 ≤ x2 then
    some (.inr s)
  else
    if mInb x2 64 = true then
      some (.inl (x2 + 1, sI s 44 x2.toNatClampNeg x1))
    else none
def J7_fill_44_l5 (x1 : Int32) (x3 : Int32) (v : Int32 × mSG) : Option mSG :=
  iter (fun v : Int32 × mSG => J7_fill_44_b5 x1 x3 v.1 v.2) mFU v
def J7_fill_44 (x1 : Int32) (s : mSG) : Option mSG :=
  (J7_fill_44_l5 x1 (Int32.ofNat 64) (0, s)).bind (fun e5 =>
  some e5)
def X3_clearRoads (s : mSG) : Option mSG :=
  (J7_fill_43 0 s).bind (fun r1 =>
  (J7_fill_44 0 r1).bind (fun r2 =>
  some r2))
def X3_tryRoads_28_7_j94_20 (t : mTX) (x3 : Int32) (x4 : Int32) (x5 : Int32) (x6 : Int32) (s : mSG) : Option ((Int32 × mSG) ⊕ mSG) :=
  some (.inl (x6 + 1, s))
def X3_tryRoads_28_7_b20 (t : mTX) (x3 : Int32) (x4 : Int32) (x5 : Int32) (x6 : Int32) (s : mSG) : Option ((Int32 × mSG) ⊕ mSG) :=
  if 8 ≤ x6 then
    some (.inr s)
  else
    (X3_seek_28_7 t x3 x4 (sI (sI s 34 8 x5) 34 9 x6)).bind (fun r4 =>
    if 1000000 ≤ (r4.1 34 10) then
      X3_tryRoads_28_7_j94_20 t x3 x4 x5 x6 r4
    else
      if mInb ((x5 * 8) + x6) 64 = true then
        X3_tryRoads_28_7_j94_20 t x3 x4 x5 x6 (sI (sI r4 43 ((x5 * 8) + x6).toNatClampNeg ((r4.1 43 ((x5 * 8) + x6).toNatClampNeg) + 1)) 44 ((x5 * 8) + x6).toNatClampNeg ((r4.1 44 ((x5 * 8) + x6).toNatClampNeg) + (r4.1 34 10)))
      else none)
def X3_tryRoads_28_7_l20 (t : mTX) (x3 : Int32) (x4 : Int32) (x5 : Int32) (v : Int32 × mSG) : Option mSG :=
  iter (fun v : Int32 × mSG => X3_tryRoads_28_7_b20 t x3 x4 x5 v.1 v.2) mFU v
def X3_tryRoads_28_7_b7 (t : mTX) (x3 : Int32) (x4 : Int32) (x5 : Int32) (s : mSG) : Option ((Int32 × mSG) ⊕ mSG) :=
  if 8 ≤ x5 then
    some (.inr s)
  else
    (X3_tryRoads_28_7_l20 t x3 x4 x5 (x5 + 1, s)).bind (fun e20 =>
    some (.inl (x5 + 1, e20)))
def X3_tryRoads_28_7_l7 (t : mTX) (x3 : Int32) (x4 : Int32) (v : Int32 × mSG) : Option mSG :=
  iter (fun v : Int32 × mSG => X3_tryRoads_28_7_b7 t x3 x4 v.1 v.2) mFU v
def X3_tryRoads_28_7 (t : mTX) (x3 : Int32) (x4 : Int32) (s : mSG) : Option mSG :=
  (X3_forget s).bind (fun r1 =>
  (X3_tryRoads_28_7_l7 t x3 x4 (0, r1)).bind (fun e7 =>
  some (sI (sI e7 34 8 (-1)) 34 9 (-1))))
def X3_bestRoad_j79_14 (x1 : Int32) (x2 : Int32) (x3 : Int32) (s : mSG) : Option ((Int32 × Int32) ⊕ Int32) :=
  some (.inl (x1, x3 + 1))
def X3_bestRoad_j76_14 (x2 : Int32) (x3 : Int32) (x4 : Int32) (s : mSG) : Option ((Int32 × Int32) ⊕ Int32) :=
  X3_bestRoad_j79_14 x4 x2 x3 s
def X3_bestRoad_b14 (x2 : Int32) (x1 : Int32) (x3 : Int32) (s : mSG) : Option ((Int32 × Int32) ⊕ Int32) :=
  if 8 ≤ x3 then
    some (.inr x1)
  else
    if mInb ((x2 * 8) + x3) 64 = true then
      if mInb x1 64 = true then
        if (s.1 43 x1.toNatClampNeg) < (s.1 43 ((x2 * 8) + x3).toNatClampNeg) then
          X3_bestRoad_j76_14 x2 x3 ((x2 * 8) + x3) s
        else
          if (s.1 43 ((x2 * 8) + x3).toNatClampNeg) = (s.1 43 x1.toNatClampNeg) then
            if (s.1 44 x1.toNatClampNeg) ≤ (s.1 44 ((x2 * 8) + x3).toNatClampNeg) then
              X3_bestRoad_j79_14 x1 x2 x3 s
            else
              X3_bestRoad_j76_14 x2 x3 ((x2 * 8) + x3) s
          else
            X3_bestRoad_j79_14 x1 x2 x3 s
      else none
    else none
def X3_bestRoad_l14 (x2 : Int32) (s : mSG) (v : Int32 × Int32) : Option Int32 :=
  iter (fun v : Int32 × Int32 => X3_bestRoad_b14 x2 v.1 v.2 s) mFU v
def X3_bestRoad_b4 (x1 : Int32) (x2 : Int32) (s : mSG) : Option ((Int32 × Int32) ⊕ Int32) :=
  if 8 ≤ x2 then
    some (.inr x1)
  else
    (X3_bestRoad_l14 x2 s (x1, x2 + 1)).bind (fun e14 =>
    some (.inl (e14, x2 + 1)))
def X3_bestRoad_l4 (s : mSG) (v : Int32 × Int32) : Option Int32 :=
  iter (fun v : Int32 × Int32 => X3_bestRoad_b4 v.1 v.2 s) mFU v
def X3_bestRoad (s : mSG) : Option Int32 :=
  (X3_bestRoad_l4 s (1, 0)).bind (fun e4 =>
  some e4)
def X3_comersBy (x1 : Int32) (s : mSG) : Option Int32 :=
  if X8_isWithin x1 63 = true then
    if mInb x1 64 = true then
      some (s.1 43 x1.toNatClampNeg)
    else none
  else
    some 0
def X3_hoursBy (x1 : Int32) (s : mSG) : Option Int32 :=
  if X8_isWithin x1 63 = true then
    if mInb x1 64 = true then
      some (s.1 44 x1.toNatClampNeg)
    else none
  else
    some 0
def X8_road_b27 (t : mTX) (x1 : Int32) (x2 : Int32) (x3 : Int32) (s : mSG) : Option ((Int32 × mSG) ⊕ mSG) :=
  if (s.1 7 4) ≤ x3 then
    some (.inr s)
  else
    (X8_ruleOf_7 s).bind (fun r3 =>
    (X0_be_28_7 x3 r3 s).bind (fun r4 =>
    (X5_trait_7 x3 0 r4).bind (fun r5 =>
    (X3_tryRoads_28_7 t r5 x1 r4).bind (fun r6 =>
    some (.inl (x3 + 1, r6))))))
def X8_road_l27 (t : mTX) (x1 : Int32) (x2 : Int32) (v : Int32 × mSG) : Option mSG :=
  iter (fun v : Int32 × mSG => X8_road_b27 t x1 x2 v.1 v.2) mFU v
def X8_road (t : mTX) (x1 : Int32) (x2 : Int32) (s : mSG) : Option (Int32 × mSG) :=
  if X8_isStone x1 = true then
    if X8_isWithin x2 2 = true then
      (X3_clearRoads s).bind (fun r1 =>
      (X8_road_l27 t x1 x2 (0, r1)).bind (fun e27 =>
      (X3_bestRoad e27).bind (fun r7 =>
      if x2 = 0 then
        some (((r7 / 8) * 10) + (r7 - r7 / 8 * 8), e27)
      else if x2 = 1 then
        (X3_comersBy r7 e27).bind (fun r8 =>
        some (r8, e27))
      else 
        (X3_hoursBy r7 e27).bind (fun r9 =>
        some (r9, e27)))))
    else
      some ((-2), s)
  else
    some ((-2), s)
def X5_become_17_7 (s : mSG) : Option mSG :=
  some (sI (sI (sI (sC (sC (sC (sC s 8 18 0 0 64) 9 19 0 0 30) 10 20 0 0 25) 11 21 0 0 24) 17 4 (s.1 7 4)) 17 5 (s.1 7 5)) 17 6 (s.1 7 6))
def X5_isOne_17 (x1 : Int32) (s : mSG) : Bool :=
  if X8_isWithin x1 ((s.1 17 4) - 1) = true then
    if 5 ≤ x1 then
      false
    else
      true
  else
    false
def X8_ruleOf_17 (s : mSG) : Option Nat :=
  if X8_isWithin (s.1 17 6) ((s.1 6 11) - 1) = true then
    if mInb (s.1 17 6) 6 = true then
      (s.2.1 22 (s.1 17 6).toNatClampNeg).bind (fun a2 =>
      some a2)
    else none
  else
    if mInb 0 6 = true then
      (s.2.1 22 0).bind (fun a1 =>
      some a1)
    else none
def X5_trait_17 (x1 : Int32) (x2 : Int32) (s : mSG) : Option Int32 :=
  if X5_isOne_17 x1 s = true then
    if X8_isWithin x2 5 = true then
      if mInb ((x1 * 6) + x2) 30 = true then
        some (s.1 19 ((x1 * 6) + x2).toNatClampNeg)
      else none
    else
      some 0
  else
    some 0
def X5_rainIn_17 (x1 : Int32) (s : mSG) : Option Int32 :=
  (J9_floorMod ((s.1 17 5) + x1) 24).bind (fun r1 =>
  if mInb r1 24 = true then
    some (s.1 21 r1.toNatClampNeg)
  else none)
def X5_rainNow_17 (s : mSG) : Option Int32 :=
  (X5_rainIn_17 0 s).bind (fun r1 =>
  some r1)
def X0_be_28_17 (x2 : Int32) (a3_ : Nat) (s : mSG) : Option mSG :=
  (X5_trait_17 x2 5 (sQ s 28 2 a3_)).bind (fun r1 =>
  (X5_trait_17 x2 4 (sI (sQ s 28 2 a3_) 28 3 r1)).bind (fun r2 =>
  (X5_trait_17 x2 1 (sI (sI (sQ s 28 2 a3_) 28 3 r1) 28 4 r2)).bind (fun r3 =>
  (X5_trait_17 x2 3 (sI (sI (sI (sQ s 28 2 a3_) 28 3 r1) 28 4 r2) 28 5 r3)).bind (fun r4 =>
  (X5_trait_17 x2 2 (sI (sI (sI (sI (sQ s 28 2 a3_) 28 3 r1) 28 4 r2) 28 5 r3) 28 6 r4)).bind (fun r5 =>
  (X5_rainNow_17 (sI (sI (sI (sI (sI (sQ s 28 2 a3_) 28 3 r1) 28 4 r2) 28 5 r3) 28 6 r4) 28 7 r5)).bind (fun r6 =>
  some (sI (sI (sI (sI (sI (sI (sQ s 28 2 a3_) 28 3 r1) 28 4 r2) 28 5 r3) 28 6 r4) 28 7 r5) 28 8 r6)))))))
def X5_mudBetween_17 (x1 : Int32) (x2 : Int32) (s : mSG) : Option Int32 :=
  if X8_areTwoStones x1 x2 = true then
    if mInb ((x1 * 8) + x2) 64 = true then
      some (s.1 18 ((x1 * 8) + x2).toNatClampNeg)
    else none
  else
    some 0
def X5_put_17 (x1 : Int32) (x2 : Int32) (x3 : Int32) (s : mSG) : Option mSG :=
  if X5_isOne_17 x1 s = true then
    if X8_isWithin x2 5 = true then
      if mInb ((x1 * 6) + x2) 30 = true then
        some (sI s 19 ((x1 * 6) + x2).toNatClampNeg x3)
      else none
    else
      some s
  else
    some s
def X8_moves_17 (t : mTX) (x2 : Int32) (x3 : Int32) (s : mSG) : Option (Bool × mSG) :=
  (X8_ruleOf_17 s).bind (fun r1 =>
  (X0_be_28_17 x2 r1 s).bind (fun r2 =>
  (X5_trait_17 x2 0 r2).bind (fun r3 =>
  (X5_mudBetween_17 r3 x3 r2).bind (fun r4 =>
  (X0_hours_28 t r3 x3 r4 r2).bind (fun r5 =>
  if r5.1 = 0 then
    some (false, r5.2)
  else
    (X0_soak_28 r5.2).bind (fun r7 =>
    (X5_put_17 x2 0 x3 r7).bind (fun r8 =>
    (X5_put_17 x2 2 (r8.1 28 7) r8).bind (fun r9 =>
    some (true, sI r9 17 5 (J9_min 9999 ((r9.1 17 5) + r5.1)))))))))))
def X8_judge_b53 (t : mTX) (a2_ : Nat) (x3 : Int32) (s : mSG) : Option ((Int32 × mSG) ⊕ ((Int32 × mSG) ⊕ mSG)) :=
  if (mKl (LAY t) a2_).1 = 3 then
    if ((s.1 a2_ 2) / 2) ≤ x3 then
      some (.inr (.inr s))
    else
      if (mKl (LAY t) a2_).1 = 3 then
        (X4_item t a2_ (2 * x3) s).bind (fun r6 =>
      if (mKl (LAY t) a2_).1 = 3 then
        (X4_item t a2_ ((2 * x3) + 1) s).bind (fun r7 =>
      if X5_isOne_17 r6 s = true then
        if X8_isStone r7 = true then
          (X8_moves_17 t r6 r7 s).bind (fun r8 =>
          if r8.1 = true then
            some (.inl (x3 + 1, r8.2))
          else
            some (.inr (.inl (x3, r8.2))))
        else
          some (.inr (.inl (x3, s)))
      else
        some (.inr (.inl (x3, s))))
      else none)
      else none
  else none
def X8_judge_l53 (t : mTX) (a2_ : Nat) (v : Int32 × mSG) : Option ((Int32 × mSG) ⊕ mSG) :=
  iter (fun v : Int32 × mSG => X8_judge_b53 t a2_ v.1 v.2) mFU v
def X8_judge (t : mTX) (x1 : Int32) (s : mSG) : Option (Int32 × mSG) :=
  if X8_isWithin x1 3 = true then
    if mInb x1 4 = true then
      (s.2.1 24 x1.toNatClampNeg).bind (fun a1 =>
      if (mKl (LAY t) a1).1 = 3 then
        (X4_isMissing t a1 s).bind (fun r2 =>
      if r2 = true then
        some ((-11), s)
      else
        if (mKl (LAY t) a1).1 = 3 then
          if ((s.1 a1 2) - (s.1 a1 2) / 2 * 2) = 0 then
            (X5_become_17_7 s).bind (fun r4 =>
            (X8_judge_l53 t a1 (0, r4)).bind (fun e53 =>
            Sum.elim (fun e53_0 =>
              some (e53_0.1, e53_0.2)) (fun e53_1 =>
              some ((-1), e53_1)) e53))
          else
            some ((-2), s)
        else none)
      else none)
    else none
  else
    some ((-2), s)
def X8_drawnTo_b26 (t : mTX) (x2 : Int32) (x3 : Int32) (x5 : Int32) (x4 : Int32) (x6 : Int32) (s : mSG) : Option ((Int32 × Int32 × mSG) ⊕ Int32 × mSG) :=
  if (s.1 17 4) ≤ x6 then
    some (.inr (x4, s))
  else
    (X8_moves_17 t x6 (((((x4 * 1103515245) + 12345).toUInt32 >>> ((9 : Int32).toUInt32 &&& Int32.toUInt32 31)).toInt32) - ((((x4 * 1103515245) + 12345).toUInt32 >>> ((9 : Int32).toUInt32 &&& Int32.toUInt32 31)).toInt32) / 8 * 8) s).bind (fun r4 =>
    some (.inl ((x4 * 1103515245) + 12345, x6 + 1, r4.2)))
def X8_drawnTo_l26 (t : mTX) (x2 : Int32) (x3 : Int32) (x5 : Int32) (v : Int32 × Int32 × mSG) : Option (Int32 × mSG) :=
  iter (fun v : Int32 × Int32 × mSG => X8_drawnTo_b26 t x2 x3 x5 v.1 v.2.1 v.2.2) mFU v
def X8_drawnTo_b17 (t : mTX) (x2 : Int32) (x3 : Int32) (x4 : Int32) (x5 : Int32) (s : mSG) : Option ((Int32 × Int32 × mSG) ⊕ mSG) :=
  if x2 ≤ x5 then
    some (.inr s)
  else
    (X8_drawnTo_l26 t x2 x3 x5 (x4, 0, s)).bind (fun e26 =>
    some (.inl (e26.1, x5 + 1, e26.2)))
def X8_drawnTo_l17 (t : mTX) (x2 : Int32) (x3 : Int32) (v : Int32 × Int32 × mSG) : Option mSG :=
  iter (fun v : Int32 × Int32 × mSG => X8_drawnTo_b17 t x2 x3 v.1 v.2.1 v.2.2) mFU v
def X8_drawnTo_j116_87 (t : mTX) (x3 : Int32) (x5 : Int32) (x6 : Int32) (s : mSG) : Option ((Int32 × Int32) ⊕ Int32) :=
  some (.inl (x5, x6 + 1))
def X8_drawnTo_b87 (t : mTX) (x3 : Int32) (x5 : Int32) (x6 : Int32) (s : mSG) : Option ((Int32 × Int32) ⊕ Int32) :=
  if (s.1 17 4) ≤ x6 then
    some (.inr x5)
  else
    (X5_trait_17 x6 0 s).bind (fun r6 =>
    if r6 = x3 then
      X8_drawnTo_j116_87 t x3 (x5 + 1) x6 s
    else
      X8_drawnTo_j116_87 t x3 x5 x6 s)
def X8_drawnTo_l87 (t : mTX) (x3 : Int32) (s : mSG) (v : Int32 × Int32) : Option Int32 :=
  iter (fun v : Int32 × Int32 => X8_drawnTo_b87 t x3 v.1 v.2 s) mFU v
def X8_drawnTo (t : mTX) (x1 : Int32) (x2 : Int32) (x3 : Int32) (s : mSG) : Option (Int32 × mSG) :=
  (X5_become_17_7 s).bind (fun r1 =>
  (X8_drawnTo_l17 t x2 x3 (x1, 0, r1)).bind (fun e17 =>
  (X8_drawnTo_l87 t x3 e17 (0, 0)).bind (fun e87 =>
  some (e87, e17))))
def X8_drawn (t : mTX) (x1 : Int32) (x2 : Int32) (x3 : Int32) (s : mSG) : Option (Int32 × mSG) :=
  if X8_isWithin x2 30 = true then
    if X8_isStone x3 = true then
      (X8_drawnTo t x1 x2 x3 s).bind (fun r1 =>
      some (r1.1, r1.2))
    else
      some ((-2), s)
  else
    some ((-2), s)
def X8_commonMeasure_j21_2 (x0 : Int32) (x1 : Int32) (x2 : Int32) : Option (Int32 ⊕ (Int32 ⊕ Unit)) :=
  some (.inl (x2 + (-1)))
def X8_commonMeasure_b2 (x0 : Int32) (x1 : Int32) (x2 : Int32) : Option (Int32 ⊕ (Int32 ⊕ Unit)) :=
  if x2 ≤ 1 then
    some (.inr (.inr ()))
  else
    if ¬ x2 = 0 then
      if (x0 - x0 / x2 * x2) = 0 then
        if ¬ x2 = 0 then
          if (x1 - x1 / x2 * x2) = 0 then
            some (.inr (.inl x2))
          else
            X8_commonMeasure_j21_2 x0 x1 x2
        else none
      else
        X8_commonMeasure_j21_2 x0 x1 x2
    else none
def X8_commonMeasure_l2 (x0 : Int32) (x1 : Int32) (v : Int32) : Option (Int32 ⊕ Unit) :=
  iter (fun v : Int32 => X8_commonMeasure_b2 x0 x1 v) mFU v
def X8_commonMeasure (x0 : Int32) (x1 : Int32) : Option Int32 :=
  (X8_commonMeasure_l2 x0 x1 x1).bind (fun e2 =>
  Sum.elim (fun e2_0 =>
    some e2_0) (fun e2_1 =>
    some 1) e2)
def X8_chance_j72_49 (t : mTX) (x1 : Int32) (x2 : Int32) (x3 : Int32) (x4 : Int32) (x5 : Int32) (x6 : Int32) (x7 : Int32) (s : mSG) : Option ((Int32 × Int32 × mSG) ⊕ Int32 × mSG) :=
  some (.inl (x6, x7 + 1, s))
def X8_chance_b49 (t : mTX) (x1 : Int32) (x2 : Int32) (x3 : Int32) (x4 : Int32) (x5 : Int32) (x6 : Int32) (x7 : Int32) (s : mSG) : Option ((Int32 × Int32 × mSG) ⊕ Int32 × mSG) :=
  if x2 ≤ x7 then
    some (.inr (x6, s))
  else
    (X8_drawnTo t (x1 + x7) x3 x4 s).bind (fun r3 =>
    if r3.1 ≤ 0 then
      X8_chance_j72_49 t x1 x2 x3 x4 x5 x6 x7 r3.2
    else
      X8_chance_j72_49 t x1 x2 x3 x4 x5 (x6 + 1) x7 r3.2)
def X8_chance_l49 (t : mTX) (x1 : Int32) (x2 : Int32) (x3 : Int32) (x4 : Int32) (x5 : Int32) (v : Int32 × Int32 × mSG) : Option (Int32 × mSG) :=
  iter (fun v : Int32 × Int32 × mSG => X8_chance_b49 t x1 x2 x3 x4 x5 v.1 v.2.1 v.2.2) mFU v
def X8_chance (t : mTX) (x1 : Int32) (x2 : Int32) (x3 : Int32) (x4 : Int32) (x5 : Int32) (s : mSG) : Option (Int64 × mSG) :=
  if X8_isWithin x2 20 = true then
    if x2 = 0 then
      some ((-4611686018427387904), s)
    else
      if X8_isWithin x3 30 = true then
        if X8_isStone x4 = true then
          if X8_isWithin x5 1 = true then
            (X8_chance_l49 t x1 x2 x3 x4 x5 (0, 0, s)).bind (fun e49 =>
            (X8_commonMeasure e49.1 x2).bind (fun r5 =>
            if x5 = 0 then
              if ¬ r5 = 0 then
                some ((e49.1 / r5).toInt64, e49.2)
              else none
            else
              if ¬ r5 = 0 then
                some ((x2 / r5).toInt64, e49.2)
              else none))
          else
            some ((-4611686018427387904), s)
        else
          some ((-4611686018427387904), s)
      else
        some ((-4611686018427387904), s)
  else
    some ((-4611686018427387904), s)
def X5_become_12_7 (s : mSG) : Option mSG :=
  some (sI (sI (sI (sC (sC (sC (sC s 8 13 0 0 64) 9 14 0 0 30) 10 15 0 0 25) 11 16 0 0 24) 12 4 (s.1 7 4)) 12 5 (s.1 7 5)) 12 6 (s.1 7 6))
def X8_image (s : mSG) : Option (Int32 × mSG) :=
  (X5_become_12_7 s).bind (fun r1 =>
  some (r1.1 12 4, sI r1 6 10 1))
def X5_become_7_12 (s : mSG) : Option mSG :=
  some (sI (sI (sI (sC (sC (sC (sC s 13 8 0 0 64) 14 9 0 0 30) 15 10 0 0 25) 16 11 0 0 24) 7 4 (s.1 12 4)) 7 5 (s.1 12 5)) 7 6 (s.1 12 6))
def X8_back (s : mSG) : Option (Int32 × mSG) :=
  if (s.1 6 10) = 0 then
    some ((-3), s)
  else
    (X5_become_7_12 s).bind (fun r2 =>
    some (r2.1 7 4, r2))
def X5_muddyPairs_7_j32_14 (x1 : Int32) (x2 : Int32) (x3 : Int32) (s : mSG) : Option ((Int32 × Int32) ⊕ Int32) :=
  some (.inl (x1, x3 + 1))
def X5_muddyPairs_7_b14 (x2 : Int32) (x1 : Int32) (x3 : Int32) (s : mSG) : Option ((Int32 × Int32) ⊕ Int32) :=
  if 8 ≤ x3 then
    some (.inr x1)
  else
    (X5_mudBetween_7 x2 x3 s).bind (fun r3 =>
    if r3 ≤ 0 then
      X5_muddyPairs_7_j32_14 x1 x2 x3 s
    else
      X5_muddyPairs_7_j32_14 (x1 + 1) x2 x3 s)
def X5_muddyPairs_7_l14 (x2 : Int32) (s : mSG) (v : Int32 × Int32) : Option Int32 :=
  iter (fun v : Int32 × Int32 => X5_muddyPairs_7_b14 x2 v.1 v.2 s) mFU v
def X5_muddyPairs_7_b4 (x1 : Int32) (x2 : Int32) (s : mSG) : Option ((Int32 × Int32) ⊕ Int32) :=
  if 8 ≤ x2 then
    some (.inr x1)
  else
    (X5_muddyPairs_7_l14 x2 s (x1, x2 + 1)).bind (fun e14 =>
    some (.inl (e14, x2 + 1)))
def X5_muddyPairs_7_l4 (s : mSG) (v : Int32 × Int32) : Option Int32 :=
  iter (fun v : Int32 × Int32 => X5_muddyPairs_7_b4 v.1 v.2 s) mFU v
def X5_muddyPairs_7 (s : mSG) : Option Int32 :=
  (X5_muddyPairs_7_l4 s (0, 0)).bind (fun e4 =>
  some e4)
def X5_allDebts_7_b4 (x1 : Int32) (x2 : Int32) (s : mSG) : Option ((Int32 × Int32) ⊕ Int32) :=
  if (s.1 7 4) ≤ x2 then
    some (.inr x1)
  else
    (X5_owes_7 x2 s).bind (fun r2 =>
    some (.inl (x1 + r2, x2 + 1)))
def X5_allDebts_7_l4 (s : mSG) (v : Int32 × Int32) : Option Int32 :=
  iter (fun v : Int32 × Int32 => X5_allDebts_7_b4 v.1 v.2 s) mFU v
def X5_allDebts_7 (s : mSG) : Option Int32 :=
  (X5_allDebts_7_l4 s (0, 0)).bind (fun e4 =>
  some e4)
def X8_count (x1 : Int32) (s : mSG) : Option Int32 :=
  if x1 = 0 then
    some (s.1 7 4)
  else if x1 = 1 then
    (X5_muddyPairs_7 s).bind (fun r1 =>
    some r1)
  else if x1 = 2 then
    some (s.1 7 5)
  else if x1 = 3 then
    (X5_rainNow_7 s).bind (fun r2 =>
    some r2)
  else if x1 = 4 then
    some (s.1 6 11)
  else if x1 = 5 then
    some (s.1 6 12)
  else if x1 = 6 then
    some (s.1 7 6)
  else if x1 = 7 then
    (X5_allDebts_7 s).bind (fun r3 =>
    some r3)
  else 
    some (-2)
def J7_fill_b5 (t : mTX) (a0_ : Nat) (x1 : Int32) (x3 : Int32) (x2 : Int32) (s : mSG) : Option ((Int32 × mSG) ⊕ mSG) :=
  if x3 ≤ x2 then
    some (.inr s)
  else
    if (mKl (LAY t) a0_).1 = 20 ∧ mInb x2 (mKl (LAY t) a0_).2 = true then
      some (.inl (x2 + 1, sI s a0_ x2.toNatClampNeg x1))
    else none
def J7_fill_l5 (t : mTX) (a0_ : Nat) (x1 : Int32) (x3 : Int32) (v : Int32 × mSG) : Option mSG :=
  iter (fun v : Int32 × mSG => J7_fill_b5 t a0_ x1 x3 v.1 v.2) mFU v
def J7_fill (t : mTX) (a0_ : Nat) (x1 : Int32) (s : mSG) : Option mSG :=
  if (mKl (LAY t) a0_).1 = 20 then
    (J7_fill_l5 t a0_ x1 (Int32.ofNat (mKl (LAY t) a0_).2) (0, s)).bind (fun e5 =>
    some e5)
  else none
def X4_become (t : mTX) (a0_ : Nat) (x1 : Int32) (x2 : Int32) (s : mSG) : Option mSG :=
  if (mKl (LAY t) a0_).1 = 3 then
    if (mKl (LAY t) a0_).1 = 3 then
      if (mKl (LAY t) a0_).1 = 3 then
        (mRf (LAY t) a0_ 0).bind (fun a1 =>
        (J7_fill t a1 0 (sI (sI s a0_ 1 x1) a0_ 2 (X8_bounded x2 0 40))).bind (fun r2 =>
        some r2))
      else none
    else none
  else none
def X8_sheet (t : mTX) (x1 : Int32) (x2 : Int32) (x3 : Int32) (s : mSG) : Option (Int32 × mSG) :=
  if X8_isWithin x1 3 = true then
    if x2 < (-1) then
      some ((-2), s)
    else
      if x2 < 3 then
        if x2 = (-1) then
          if mInb x1 4 = true then
            (s.2.1 24 x1.toNatClampNeg).bind (fun a4 =>
            if (mKl (LAY t) a4).1 = 3 then
              (X4_become t a4 (-1) 0 s).bind (fun r5 =>
            some (1, r5))
            else none)
          else none
        else
          if x3 ≤ 40 then
            if 0 ≤ x3 then
              if mInb x1 4 = true then
                (s.2.1 24 x1.toNatClampNeg).bind (fun a8 =>
                if (mKl (LAY t) a8).1 = 3 then
                  (X4_become t a8 x2 x3 s).bind (fun r9 =>
                some (1, r9))
                else none)
              else none
            else
              some ((-14), s)
          else
            some ((-2), s)
      else
        some ((-2), s)
  else
    some ((-2), s)
def X4_put (t : mTX) (a0_ : Nat) (x1 : Int32) (x2 : Int32) (s : mSG) : Option mSG :=
  if (mKl (LAY t) a0_).1 = 3 then
    if X8_isWithin x1 ((s.1 a0_ 2) - 1) = true then
      if (mKl (LAY t) a0_).1 = 3 then
        (mRf (LAY t) a0_ 0).bind (fun a1 =>
        if (mKl (LAY t) a0_).1 = 3 then
          if (s.1 a0_ 1) = 0 then
            if (mKl (LAY t) a1).1 = 20 ∧ mInb x1 (mKl (LAY t) a1).2 = true then
              some (sI s a1 x1.toNatClampNeg x2.toInt8.toInt32)
            else none
          else
            if (mKl (LAY t) a0_).1 = 3 then
              if (s.1 a0_ 1) = 1 then
                if (mKl (LAY t) a1).1 = 20 ∧ mInb x1 (mKl (LAY t) a1).2 = true then
                  some (sI s a1 x1.toNatClampNeg x2.toInt16.toInt32)
                else none
              else
                if (mKl (LAY t) a1).1 = 20 ∧ mInb x1 (mKl (LAY t) a1).2 = true then
                  some (sI s a1 x1.toNatClampNeg x2)
                else none
            else none
        else none)
      else none
    else
      some s
  else none
def X8_cell (t : mTX) (x1 : Int32) (x2 : Int32) (x3 : Int32) (s : mSG) : Option (Int32 × mSG) :=
  if X8_isWithin x1 3 = true then
    if mInb x1 4 = true then
      (s.2.1 24 x1.toNatClampNeg).bind (fun a1 =>
      if (mKl (LAY t) a1).1 = 3 then
        (X4_isMissing t a1 s).bind (fun r2 =>
      if r2 = true then
        some ((-11), s)
      else
        if (mKl (LAY t) a1).1 = 3 then
          if X8_isWithin x2 ((s.1 a1 2) - 1) = true then
            if (mKl (LAY t) a1).1 = 3 then
              (X4_put t a1 x2 x3 s).bind (fun r3 =>
            some (1, r3))
            else none
          else
            some ((-12), s)
        else none)
      else none)
    else none
  else
    some ((-2), s)
def X4_hasRun (t : mTX) (a0_ : Nat) (x1 : Int32) (x2 : Int32) (s : mSG) : Option Bool :=
  if x1 < 0 then
    some false
  else
    if x2 < 0 then
      some false
    else
      if (mKl (LAY t) a0_).1 = 3 then
        if ((s.1 a0_ 2) - x1) < x2 then
          some false
        else
          some true
      else none
def X8_copy (t : mTX) (x1 : Int32) (x2 : Int32) (x3 : Int32) (x4 : Int32) (x5 : Int32) (s : mSG) : Option (Int32 × mSG) :=
  if X8_isWithin x1 3 = true then
    if X8_isWithin x3 3 = true then
      if mInb x1 4 = true then
        (s.2.1 24 x1.toNatClampNeg).bind (fun a1 =>
        if mInb x3 4 = true then
          (s.2.1 24 x3.toNatClampNeg).bind (fun a2 =>
          if (mKl (LAY t) a1).1 = 3 then
            (X4_isMissing t a1 s).bind (fun r3 =>
          if r3 = true then
            some ((-11), s)
          else
            if (mKl (LAY t) a2).1 = 3 then
              (X4_isMissing t a2 s).bind (fun r4 =>
            if r4 = true then
              some ((-11), s)
            else
              if (mKl (LAY t) a1).1 = 3 then
                if (mKl (LAY t) a2).1 = 3 then
                  if (s.1 a1 1) = (s.1 a2 1) then
                    if (mKl (LAY t) a1).1 = 3 then
                      (X4_hasRun t a1 x2 x5 s).bind (fun r6 =>
                    if r6 = true then
                      if (mKl (LAY t) a2).1 = 3 then
                        (X4_hasRun t a2 x4 x5 s).bind (fun r7 =>
                      if r7 = true then
                        if (mKl (LAY t) a1).1 = 3 then
                          (mRf (LAY t) a1 0).bind (fun a8 =>
                          if (mKl (LAY t) a2).1 = 3 then
                            (mRf (LAY t) a2 0).bind (fun a9 =>
                            if ((mKl (LAY t) a8).1 = 20 ∧ (mKl (LAY t) a9).1 = 20) ∧ (¬ x2 < 0 ∧ ¬ x4 < 0 ∧ ¬ x5 < 0 ∧ x2.toNatClampNeg + x5.toNatClampNeg ≤ (mKl (LAY t) a8).2 ∧ x4.toNatClampNeg + x5.toNatClampNeg ≤ (mKl (LAY t) a9).2) then
                              some (x5, sC s a8 a9 x2.toNatClampNeg x4.toNatClampNeg x5.toNatClampNeg)
                            else none)
                          else none)
                        else none
                      else
                        some ((-12), s))
                      else none
                    else
                      some ((-12), s))
                    else none
                  else
                    some ((-13), s)
                else none
              else none)
            else none)
          else none)
        else none)
      else none
    else
      some ((-2), s)
  else
    some ((-2), s)
def X8_muds_j133_66 (t : mTX) (x3 : Int32) (x4 : Int32) (a5_ : Nat) (x6 : Int32) (x7 : Int32) (s : mSG) : Option ((Int32 × Int32 × mSG) ⊕ (mSG ⊕ Int32 × mSG)) :=
  some (.inl (x6, x7 + 1, s))
def X8_muds_b66 (t : mTX) (x3 : Int32) (x4 : Int32) (a5_ : Nat) (x6 : Int32) (x7 : Int32) (s : mSG) : Option ((Int32 × Int32 × mSG) ⊕ (mSG ⊕ Int32 × mSG)) :=
  if x4 ≤ x7 then
    some (.inr (.inr (x6, s)))
  else
    if (mKl (LAY t) a5_).1 = 3 then
      (X4_hasRun t a5_ (x3 + (3 * x7)) 3 s).bind (fun r5 =>
    if r5 = true then
      if (mKl (LAY t) a5_).1 = 3 then
        (X4_item t a5_ (x3 + (3 * x7)) s).bind (fun r6 =>
      if (mKl (LAY t) a5_).1 = 3 then
        (X4_item t a5_ ((x3 + (3 * x7)) + 1) s).bind (fun r7 =>
      if (mKl (LAY t) a5_).1 = 3 then
        (X4_item t a5_ ((x3 + (3 * x7)) + 2) s).bind (fun r8 =>
      (X5_putMud_7 r6 r7 r8 s).bind (fun r9 =>
      if r9.1 = true then
        X8_muds_j133_66 t x3 x4 a5_ (x6 + 1) x7 r9.2
      else
        X8_muds_j133_66 t x3 x4 a5_ x6 x7 r9.2))
      else none)
      else none)
      else none
    else
      some (.inr (.inl s)))
    else none
def X8_muds_l66 (t : mTX) (x3 : Int32) (x4 : Int32) (a5_ : Nat) (v : Int32 × Int32 × mSG) : Option (mSG ⊕ Int32 × mSG) :=
  iter (fun v : Int32 × Int32 × mSG => X8_muds_b66 t x3 x4 a5_ v.1 v.2.1 v.2.2) mFU v
def X8_muds (t : mTX) (x1 : Int32) (x2 : Int32) (x3 : Int32) (x4 : Int32) (s : mSG) : Option (Int32 × mSG) :=
  if X8_isWithin x1 3 = true then
    if X8_isWithin x2 2 = true then
      if X8_isWithin x4 13 = true then
        if mInb x1 4 = true then
          (s.2.1 24 x1.toNatClampNeg).bind (fun a1 =>
          if (mKl (LAY t) a1).1 = 3 then
            (X4_isMissing t a1 s).bind (fun r2 =>
          if r2 = true then
            some ((-11), s)
          else
            if (mKl (LAY t) a1).1 = 3 then
              if (s.1 a1 1) = x2 then
                (X8_muds_l66 t x3 x4 a1 (0, 0, s)).bind (fun e66 =>
                Sum.elim (fun e66_0 =>
                  some ((-12), e66_0)) (fun e66_1 =>
                  some (e66_1.1, e66_1.2)) e66)
              else
                some ((-13), s)
            else none)
          else none)
        else none
      else
        some ((-2), s)
    else
      some ((-2), s)
  else
    some ((-2), s)
def X2_isUnder_b4 (x1 : Int32) (x2 : Int32) (x3 : Int32) (s : mSG) : Option ((Int32 × Int32) ⊕ (Unit ⊕ Unit)) :=
  if 6 ≤ x3 then
    some (.inr (.inr ()))
  else
    if X8_isWithin x2 5 = true then
      if x2 = x1 then
        some (.inr (.inl ()))
      else
        if mInb x2 6 = true then
          some (.inl (s.1 1 x2.toNatClampNeg, x3 + 1))
        else none
    else
      some (.inr (.inr ()))
def X2_isUnder_l4 (x1 : Int32) (s : mSG) (v : Int32 × Int32) : Option (Unit ⊕ Unit) :=
  iter (fun v : Int32 × Int32 => X2_isUnder_b4 x1 v.1 v.2 s) mFU v
def X2_isUnder (x0 : Int32) (x1 : Int32) (s : mSG) : Option Bool :=
  (X2_isUnder_l4 x1 s (x0, 0)).bind (fun e4 =>
  Sum.elim (fun e4_0 =>
    some true) (fun e4_1 =>
    some false) e4)
def X8_taken (x1 : Int32) (x2 : Int32) (s : mSG) : Option Int32 :=
  if X8_isWithin x2 5 = true then
    if X5_isOne_7 x1 s = true then
      (X5_trait_7 x1 5 s).bind (fun r1 =>
      (X2_isUnder r1 x2 s).bind (fun r2 =>
      if r2 = true then
        (X5_trait_7 x1 4 s).bind (fun r3 =>
        some r3)
      else
        some (-13)))
    else
      some (-11)
  else
    some (-2)
def X9_in (j0 : Int64) (j2 : Int64) (j4 : Int64) : Bool :=
  if (lg_cmp j0 j2) < 0 then
    false
  else
    if 0 < (lg_cmp j0 j4) then
      false
    else
      true
def X9_within (x0 : Int32) (x1 : Int32) (x2 : Int32) : Int32 :=
  if x1 ≤ x0 then
    if x0 ≤ x2 then
      x0
    else
      x2
  else
    x1
def X9_spell (x1 : Int32) (x2 : Int32) (x3 : Int32) (x4 : Int32) (x5 : Int32) (x6 : Int32) (x7 : Int32) (x8 : Int32) (x9 : Int32) (s : mSG) : Option mSG :=
  if mInb x1 960 = true then
    if mInb (x1 + 1) 960 = true then
      if mInb (x1 + 2) 960 = true then
        if mInb (x1 + 3) 960 = true then
          if mInb (x1 + 4) 960 = true then
            if mInb (x1 + 5) 960 = true then
              if mInb (x1 + 6) 960 = true then
                if mInb (x1 + 7) 960 = true then
                  some (sI (sI (sI (sI (sI (sI (sI (sI s 57 x1.toNatClampNeg x2) 57 (x1 + 1).toNatClampNeg x3) 57 (x1 + 2).toNatClampNeg x4) 57 (x1 + 3).toNatClampNeg x5) 57 (x1 + 4).toNatClampNeg x6) 57 (x1 + 5).toNatClampNeg x7) 57 (x1 + 6).toNatClampNeg x8) 57 (x1 + 7).toNatClampNeg x9)
                else none
              else none
            else none
          else none
        else none
      else none
    else none
  else none
def X9_isStone (x0 : Int32) : Bool :=
  X9_in x0.toInt64 0 7
def X9_isOne (x1 : Int32) (s : mSG) : Bool :=
  X9_in x1.toInt64 0 (((s.1 56 15) - 1).toInt64)
def X9_muddy (x1 : Int32) (x2 : Int32) (x3 : Int32) (s : mSG) : Option mSG :=
  if mInb ((8 * x1) + x2) 64 = true then
    if mInb ((8 * x2) + x1) 64 = true then
      some (sI (sI s 60 ((8 * x1) + x2).toNatClampNeg x3) 60 ((8 * x2) + x1).toNatClampNeg x3)
    else none
  else none
def X9_mud (x1 : Int32) (x2 : Int32) (x3 : Int32) (s : mSG) : Option (Int32 × mSG) :=
  if X9_isStone x1 = true then
    if X9_isStone x2 = true then
      if x1 = x2 then
        some ((-2), s)
      else
        if X9_in x3.toInt64 0 99 = true then
          if mInb ((8 * x1) + x2) 64 = true then
            (X9_muddy x1 x2 x3 s).bind (fun r3 =>
            some (s.1 60 ((8 * x1) + x2).toNatClampNeg, r3))
          else none
        else
          some ((-2), s)
    else
      some ((-2), s)
  else
    some ((-2), s)
def X9_far (x1 : Int32) (x2 : Int32) (s : mSG) : Option Int32 :=
  if X9_isStone x1 = true then
    if X9_isStone x2 = true then
      if x1 = x2 then
        some (-2)
      else
        if mInb ((8 * x1) + x2) 64 = true then
          some (s.1 60 ((8 * x1) + x2).toNatClampNeg)
        else none
    else
      some (-2)
  else
    some (-2)
def X9_one_b119 (x4 : Int32) (s : mSG) : Option ((Int32 × mSG) ⊕ mSG) :=
  if 5 ≤ x4 then
    some (.inr s)
  else
    if mInb ((5 * (s.1 56 15)) + x4) 25 = true then
      if mInb ((5 * x4) + (s.1 56 15)) 25 = true then
        some (.inl (x4 + 1, sI (sI s 67 ((5 * (s.1 56 15)) + x4).toNatClampNeg 0) 67 ((5 * x4) + (s.1 56 15)).toNatClampNeg 0))
      else none
    else none
def X9_one_l119 (v : Int32 × mSG) : Option mSG :=
  iter (fun v : Int32 × mSG => X9_one_b119 v.1 v.2) mFU v
def X9_one (x1 : Int32) (x2 : Int32) (x3 : Int32) (s : mSG) : Option (Int32 × mSG) :=
  if X9_in x1.toInt64 0 5 = true then
    if X9_in x2.toInt64 0 999 = true then
      if X9_in x3.toInt64 0 9 = true then
        if (s.1 56 15) = 5 then
          some ((-4), s)
        else
          if mInb (s.1 56 15) 5 = true then
            (X9_one_l119 (0, sI (sI (sI (sI (sI (sI s 61 (s.1 56 15).toNatClampNeg x1) 63 (s.1 56 15).toNatClampNeg (x2 / 10)) 62 (s.1 56 15).toNatClampNeg (x2 - x2 / 10 * 10)) 64 (s.1 56 15).toNatClampNeg x3) 65 (s.1 56 15).toNatClampNeg 0) 66 (s.1 56 15).toNatClampNeg 0)).bind (fun e119 =>
            some (((e119.1 56 15) + 1) - 1, sI e119 56 15 ((e119.1 56 15) + 1)))
          else none
      else
        some ((-2), s)
    else
      some ((-2), s)
  else
    some ((-2), s)
def X9_set_j177 (x1 : Int32) (x2 : Int32) (x3 : Int32) (p0 : Int32) (s : mSG) : Option (Int32 × mSG) :=
  if x1 = 0 then
    if mInb x2 5 = true then
      some (p0, sI s 65 x2.toNatClampNeg x3)
    else none
  else
    if x1 = 1 then
      if mInb x2 5 = true then
        some (p0, sI s 63 x2.toNatClampNeg x3)
      else none
    else
      if x1 = 2 then
        if mInb x2 5 = true then
          some (p0, sI s 66 x2.toNatClampNeg x3)
        else none
      else
        if x1 = 3 then
          if mInb x2 5 = true then
            some (p0, sI s 64 x2.toNatClampNeg x3)
          else none
        else
          if x1 = 4 then
            if mInb x2 5 = true then
              some (p0, sI s 62 x2.toNatClampNeg x3)
            else none
          else
            if x1 = 5 then
              some (p0, sI s 56 16 x3)
            else
              if mInb x2 24 = true then
                some (p0, sI s 68 x2.toNatClampNeg x3)
              else none
def X9_set_j81 (x1 : Int32) (x2 : Int32) (x3 : Int32) (pj0 : Int64) (pj1 : Int64) (pj2 : Int64) (s : mSG) : Option (Int32 × mSG) :=
  if X9_in pj0 pj1 pj2 = true then
    if x1 = 0 then
      if mInb x2 5 = true then
        X9_set_j177 x1 x2 x3 (s.1 65 x2.toNatClampNeg) s
      else none
    else
      if x1 = 1 then
        if mInb x2 5 = true then
          X9_set_j177 x1 x2 x3 (s.1 63 x2.toNatClampNeg) s
        else none
      else
        if x1 = 2 then
          if mInb x2 5 = true then
            X9_set_j177 x1 x2 x3 (s.1 66 x2.toNatClampNeg) s
          else none
        else
          if x1 = 3 then
            if mInb x2 5 = true then
              X9_set_j177 x1 x2 x3 (s.1 64 x2.toNatClampNeg) s
            else none
          else
            if x1 = 4 then
              if mInb x2 5 = true then
                X9_set_j177 x1 x2 x3 (s.1 62 x2.toNatClampNeg) s
              else none
            else
              if x1 = 5 then
                X9_set_j177 x1 x2 x3 (s.1 56 16) s
              else
                if mInb x2 24 = true then
                  X9_set_j177 x1 x2 x3 (s.1 68 x2.toNatClampNeg) s
                else none
  else
    some ((-2), s)
def X9_set_j43 (x1 : Int32) (x2 : Int32) (x3 : Int32) (s : mSG) : Option (Int32 × mSG) :=
  if x1 = 0 then
    X9_set_j81 x1 x2 x3 x3.toInt64 0 7 s
  else
    if x1 = 1 then
      X9_set_j81 x1 x2 x3 x3.toInt64 0 99 s
    else
      if x1 = 5 then
        X9_set_j81 x1 x2 x3 x3.toInt64 0 9999 s
      else
        X9_set_j81 x1 x2 x3 x3.toInt64 0 9 s
def X9_set_j25 (x1 : Int32) (x2 : Int32) (x3 : Int32) (s : mSG) : Option (Int32 × mSG) :=
  if x1 = 6 then
    if X9_in x2.toInt64 0 23 = true then
      X9_set_j43 x1 x2 x3 s
    else
      some ((-2), s)
  else
    X9_set_j43 x1 x2 x3 s
def X9_set (x1 : Int32) (x2 : Int32) (x3 : Int32) (s : mSG) : Option (Int32 × mSG) :=
  if X9_in x1.toInt64 0 6 = true then
    if 5 ≤ x1 then
      X9_set_j25 x1 x2 x3 s
    else
      if X9_isOne x2 s = true then
        X9_set_j25 x1 x2 x3 s
      else
        some ((-2), s)
  else
    some ((-2), s)
def X9_reaches_j89 (x6 : Int32) (s : mSG) : Int32 :=
  if 0 ≤ x6 then
    x6
  else
    0
def X9_reaches_j78 (x2 : Int32) (x3 : Int32) (x5 : Int32) (x6 : Int32) (s : mSG) : Int32 :=
  if x3 = 5 then
    X9_reaches_j89 (x5 - x2) s
  else
    X9_reaches_j89 x6 s
def X9_reaches_j67 (x2 : Int32) (x3 : Int32) (x5 : Int32) (x6 : Int32) (s : mSG) : Int32 :=
  if x3 = 3 then
    X9_reaches_j78 x2 x3 x5 (x5 / 2) s
  else
    X9_reaches_j78 x2 x3 x5 x6 s
def X9_reaches_j59 (x2 : Int32) (x3 : Int32) (x4 : Int32) (x5 : Int32) (s : mSG) : Int32 :=
  X9_reaches_j67 x2 x3 x5 (x4 - (x2 / 2)) s
def X9_reaches_j39 (x1 : Int32) (x2 : Int32) (x3 : Int32) (x4 : Int32) (x5 : Int32) (x6 : Int32) (s : mSG) : Option Int32 :=
  if x3 = 2 then
    some (X9_reaches_j59 x2 x3 x4 x5 s)
  else
    if x3 = 4 then
      if mInb x1 5 = true then
        if x2 ≤ (s.1 62 x1.toNatClampNeg) then
          some (X9_reaches_j67 x2 x3 x5 x6 s)
        else
          some (X9_reaches_j59 x2 x3 x4 x5 s)
      else none
    else
      some (X9_reaches_j67 x2 x3 x5 x6 s)
def X9_reaches (x1 : Int32) (x2 : Int32) (s : mSG) : Option Int32 :=
  if mInb x1 5 = true then
    if (s.1 61 x1.toNatClampNeg) = 1 then
      X9_reaches_j39 x1 x2 (s.1 61 x1.toNatClampNeg) (s.1 63 x1.toNatClampNeg) ((s.1 63 x1.toNatClampNeg) + (s.1 62 x1.toNatClampNeg)) ((s.1 63 x1.toNatClampNeg) + (s.1 62 x1.toNatClampNeg)) s
    else
      X9_reaches_j39 x1 x2 (s.1 61 x1.toNatClampNeg) (s.1 63 x1.toNatClampNeg) ((s.1 63 x1.toNatClampNeg) + (s.1 62 x1.toNatClampNeg)) (s.1 63 x1.toNatClampNeg) s
  else none
def X9_lasts_j84 (x4 : Int32) (s : mSG) : Int32 :=
  if 1 ≤ x4 then
    x4
  else
    1
def X9_lasts_j62 (x1 : Int32) (x2 : Int32) (x3 : Int32) (x4 : Int32) (s : mSG) : Option Int32 :=
  if x3 = 5 then
    if mInb x1 5 = true then
      some (X9_lasts_j84 ((x2 + (s.1 64 x1.toNatClampNeg)) + (s.1 62 x1.toNatClampNeg)) s)
    else none
  else
    some (X9_lasts_j84 x4 s)
def X9_lasts_j45 (x1 : Int32) (x2 : Int32) (x3 : Int32) (x4 : Int32) (s : mSG) : Option Int32 :=
  if x3 = 3 then
    if mInb x1 5 = true then
      X9_lasts_j62 x1 x2 x3 (2 * (x2 + (s.1 64 x1.toNatClampNeg))) s
    else none
  else
    X9_lasts_j62 x1 x2 x3 x4 s
def X9_lasts_j35 (x1 : Int32) (x2 : Int32) (x3 : Int32) (s : mSG) : Option Int32 :=
  if mInb x1 5 = true then
    X9_lasts_j45 x1 x2 x3 (x2 - (s.1 62 x1.toNatClampNeg)) s
  else none
def X9_lasts_j25 (x1 : Int32) (x2 : Int32) (x3 : Int32) (x4 : Int32) (s : mSG) : Option Int32 :=
  if x3 = 2 then
    X9_lasts_j35 x1 x2 x3 s
  else
    if x3 = 4 then
      X9_lasts_j35 x1 x2 x3 s
    else
      X9_lasts_j45 x1 x2 x3 x4 s
def X9_lasts (x1 : Int32) (x2 : Int32) (s : mSG) : Option Int32 :=
  if mInb x1 5 = true then
    if (s.1 61 x1.toNatClampNeg) = 1 then
      X9_lasts_j25 x1 x2 (s.1 61 x1.toNatClampNeg) (x2 + (s.1 64 x1.toNatClampNeg)) s
    else
      X9_lasts_j25 x1 x2 (s.1 61 x1.toNatClampNeg) x2 s
  else none
def X9_soaks_j58 (x5 : Int32) (s : mSG) : Int32 :=
  X9_within x5 0 9
def X9_soaks_j46 (x4 : Int32) (x5 : Int32) (s : mSG) : Int32 :=
  if x4 = 5 then
    X9_soaks_j58 (2 * x5) s
  else
    X9_soaks_j58 x5 s
def X9_soaks_j37 (x2 : Int32) (x4 : Int32) (x5 : Int32) (s : mSG) : Int32 :=
  if x4 = 4 then
    X9_soaks_j46 x4 x2 s
  else
    X9_soaks_j46 x4 x5 s
def X9_soaks_j25 (x2 : Int32) (x4 : Int32) (x5 : Int32) (s : mSG) : Int32 :=
  if x4 = 3 then
    X9_soaks_j37 x2 x4 (x5 + 1) s
  else
    X9_soaks_j37 x2 x4 x5 s
def X9_soaks (x1 : Int32) (x2 : Int32) (x3 : Int32) (s : mSG) : Option Int32 :=
  if mInb x1 5 = true then
    if (s.1 61 x1.toNatClampNeg) = 2 then
      some (X9_soaks_j25 x2 (s.1 61 x1.toNatClampNeg) ((x2 + x3) / 2) s)
    else
      some (X9_soaks_j25 x2 (s.1 61 x1.toNatClampNeg) (x2 + x3) s)
  else none
def X9_told_j168_127 (x1 : Int32) (x2 : Int32) (x4 : Int32) (p0 : Int32) (p1 : Int32) (s : mSG) : Option ((Int32 × Int32) ⊕ Int32) :=
  some (.inl (p0 + p1, x4 + 1))
def X9_told_b127 (x1 : Int32) (x2 : Int32) (x3 : Int32) (x4 : Int32) (s : mSG) : Option ((Int32 × Int32) ⊕ Int32) :=
  if (s.1 56 15) ≤ x4 then
    some (.inr x3)
  else
    if x2 = 7 then
      if mInb ((5 * x1) + x4) 25 = true then
        X9_told_j168_127 x1 x2 x4 x3 (s.1 67 ((5 * x1) + x4).toNatClampNeg) s
      else none
    else
      if mInb ((5 * x4) + x1) 25 = true then
        X9_told_j168_127 x1 x2 x4 x3 (s.1 67 ((5 * x4) + x1).toNatClampNeg) s
      else none
def X9_told_l127 (x1 : Int32) (x2 : Int32) (s : mSG) (v : Int32 × Int32) : Option Int32 :=
  iter (fun v : Int32 × Int32 => X9_told_b127 x1 x2 v.1 v.2 s) mFU v
def X9_told (x1 : Int32) (x2 : Int32) (s : mSG) : Option Int32 :=
  if X9_isOne x1 s = true then
    if X9_in x2.toInt64 0 8 = true then
      if 5 ≤ x2 then
        if 7 ≤ x2 then
          (X9_told_l127 x1 x2 s (0, 0)).bind (fun e127 =>
          some e127)
        else
          if x2 = 5 then
            if mInb x1 5 = true then
              some (s.1 61 x1.toNatClampNeg)
            else none
          else
            if mInb x1 5 = true then
              (X9_reaches x1 (s.1 66 x1.toNatClampNeg) s).bind (fun r6 =>
              some r6)
            else none
      else
        if x2 = 0 then
          if mInb x1 5 = true then
            some (s.1 65 x1.toNatClampNeg)
          else none
        else
          if x2 = 1 then
            if mInb x1 5 = true then
              some (s.1 63 x1.toNatClampNeg)
            else none
          else
            if x2 = 2 then
              if mInb x1 5 = true then
                some (s.1 66 x1.toNatClampNeg)
              else none
            else
              if x2 = 3 then
                if mInb x1 5 = true then
                  some (s.1 64 x1.toNatClampNeg)
                else none
              else
                if mInb x1 5 = true then
                  some (s.1 62 x1.toNatClampNeg)
                else none
    else
      some (-2)
  else
    some (-2)
def X9_feed (x1 : Int32) (s : mSG) : Option (Int32 × mSG) :=
  if X9_in x1.toInt64 0 255 = true then
    if (s.1 56 6) = 160 then
      some ((-4), s)
    else
      if mInb (s.1 56 6) 160 = true then
        some (((s.1 56 6) + 1), sI (sI s 59 (s.1 56 6).toNatClampNeg x1) 56 6 ((s.1 56 6) + 1))
      else none
  else
    some ((-2), s)
def X9_byteAt (x1 : Int32) (s : mSG) : Option Int32 :=
  if (s.1 56 25) ≤ x1 then
    some (-1)
  else
    if mInb ((s.1 56 24) + x1) 960 = true then
      some (s.1 57 ((s.1 56 24) + x1).toNatClampNeg)
    else none
def X9_next_j26_0 (s : mSG) : Option (mSG ⊕ mSG) :=
  some (.inl (sI s 56 26 ((s.1 56 26) + 1)))
def X9_next_b0 (s : mSG) : Option (mSG ⊕ mSG) :=
  (X9_byteAt (s.1 56 26) s).bind (fun r1 =>
  if r1 = 32 then
    X9_next_j26_0 s
  else
    (X9_byteAt (s.1 56 26) s).bind (fun r3 =>
    if r3 = 10 then
      X9_next_j26_0 s
    else
      some (.inr s)))
def X9_next_l0 (v : mSG) : Option mSG :=
  iter (fun v : mSG => X9_next_b0  v) mFU v
def X9_next_b100 (s : mSG) : Option (mSG ⊕ mSG) :=
  (X9_byteAt (s.1 56 26) s).bind (fun r15 =>
  if X9_in r15.toInt64 97 122 = true then
    some (.inl (sI s 56 26 ((s.1 56 26) + 1)))
  else
    some (.inr s))
def X9_next_l100 (v : mSG) : Option mSG :=
  iter (fun v : mSG => X9_next_b100  v) mFU v
def X9_next_j216_160 (x2 : Int32) (pj1 : Int64) (s : mSG) : Option ((Int32 × mSG) ⊕ Int32 × mSG) :=
  some (.inl (x2 + 1, sI (sJ s 56 29 pj1) 56 26 ((s.1 56 26) + 1)))
def X9_next_b160 (x2 : Int32) (s : mSG) : Option ((Int32 × mSG) ⊕ Int32 × mSG) :=
  (X9_byteAt (s.1 56 26) s).bind (fun r16 =>
  if X9_in r16.toInt64 48 57 = true then
    if 4 ≤ x2 then
      X9_next_j216_160 x2 (s.2.2 56 29) s
    else
      (X9_byteAt (s.1 56 26) s).bind (fun r18 =>
      X9_next_j216_160 x2 (((10 * (s.2.2 56 29)) + r18.toInt64) - 48) s)
  else
    some (.inr (x2, s)))
def X9_next_l160 (v : Int32 × mSG) : Option (Int32 × mSG) :=
  iter (fun v : Int32 × mSG => X9_next_b160 v.1 v.2) mFU v
def X9_next_j300 (x1 : Int32) (s : mSG) : Option mSG :=
  some (sI (sJ (sI s 56 27 3) 56 29 x1.toInt64) 56 26 ((s.1 56 26) + 1))
def X9_next (s : mSG) : Option mSG :=
  (X9_next_l0 s).bind (fun e0 =>
  (X9_byteAt (e0.1 56 26) (sI e0 56 28 (e0.1 56 26))).bind (fun r5 =>
  if 0 ≤ r5 then
    if X9_in r5.toInt64 97 122 = true then
      (X9_next_l100 (sI (sI (sI e0 56 28 (e0.1 56 26)) 56 27 4) 56 27 1)).bind (fun e100 =>
      some e100)
    else
      if X9_in r5.toInt64 48 57 = true then
        (X9_next_l160 (0, sJ (sI (sI (sI e0 56 28 (e0.1 56 26)) 56 27 4) 56 27 2) 56 29 0)).bind (fun e160 =>
        if e160.1 ≤ 4 then
          some (sI e160.2 56 27 2)
        else
          some (sI e160.2 56 27 4))
      else
        if r5 = 40 then
          X9_next_j300 r5 (sI (sI e0 56 28 (e0.1 56 26)) 56 27 4)
        else
          if r5 = 41 then
            X9_next_j300 r5 (sI (sI e0 56 28 (e0.1 56 26)) 56 27 4)
          else
            if r5 = 59 then
              X9_next_j300 r5 (sI (sI e0 56 28 (e0.1 56 26)) 56 27 4)
            else
              if r5 = 43 then
                X9_next_j300 r5 (sI (sI e0 56 28 (e0.1 56 26)) 56 27 4)
              else
                if r5 = 45 then
                  X9_next_j300 r5 (sI (sI e0 56 28 (e0.1 56 26)) 56 27 4)
                else
                  if r5 = 42 then
                    X9_next_j300 r5 (sI (sI e0 56 28 (e0.1 56 26)) 56 27 4)
                  else
                    if r5 = 60 then
                      X9_next_j300 r5 (sI (sI e0 56 28 (e0.1 56 26)) 56 27 4)
                    else
                      if r5 = 61 then
                        X9_next_j300 r5 (sI (sI e0 56 28 (e0.1 56 26)) 56 27 4)
                      else
                        some (sI (sI e0 56 28 (e0.1 56 26)) 56 27 4)
  else
    some (sI (sI (sI (sI e0 56 28 (e0.1 56 26)) 56 27 4) 56 27 0) 56 28 (e0.1 56 25))))
def X9_fail (s : mSG) : Option mSG :=
  if (s.1 56 31) = 0 then
    some (sI (sI s 56 31 1) 56 32 (s.1 56 28))
  else
    some s
def X9_isLetter (x1 : Int32) (x2 : Int32) (s : mSG) : Option Bool :=
  if (s.1 56 26) ≤ ((s.1 56 28) + x1) then
    if x2 = 0 then
      some true
    else
      some false
  else
    (X9_byteAt ((s.1 56 28) + x1) s).bind (fun r3 =>
    if r3 = x2 then
      some true
    else
      some false)
def X9_isWord (x1 : Int32) (x2 : Int32) (x3 : Int32) (x4 : Int32) (x5 : Int32) (x6 : Int32) (x7 : Int32) (x8 : Int32) (s : mSG) : Option Bool :=
  if (s.1 56 31) = 0 then
    if (s.1 56 27) = 1 then
      if ((s.1 56 28) + 8) < (s.1 56 26) then
        some false
      else
        (X9_isLetter 0 x1 s).bind (fun r4 =>
        if r4 = true then
          (X9_isLetter 1 x2 s).bind (fun r5 =>
          if r5 = true then
            (X9_isLetter 2 x3 s).bind (fun r6 =>
            if r6 = true then
              (X9_isLetter 3 x4 s).bind (fun r7 =>
              if r7 = true then
                (X9_isLetter 4 x5 s).bind (fun r8 =>
                if r8 = true then
                  (X9_isLetter 5 x6 s).bind (fun r9 =>
                  if r9 = true then
                    (X9_isLetter 6 x7 s).bind (fun r10 =>
                    if r10 = true then
                      (X9_isLetter 7 x8 s).bind (fun r11 =>
                      if r11 = true then
                        some true
                      else
                        some false)
                    else
                      some false)
                  else
                    some false)
                else
                  some false)
              else
                some false)
            else
              some false)
          else
            some false)
        else
          some false)
    else
      some false
  else
    some false
def X9_isSign (x1 : Int32) (s : mSG) : Bool :=
  if (s.1 56 31) = 0 then
    if (s.1 56 27) = 3 then
      if (lg_cmp (s.2.2 56 29) x1.toInt64) = 0 then
        true
      else
        false
    else
      false
  else
    false
def X9_opens (s : mSG) : Option (Bool × mSG) :=
  if (s.1 56 30) = 5 then
    (X9_fail s).bind (fun r2 =>
    some (false, r2))
  else
    (X9_next (sI s 56 30 ((s.1 56 30) + 1))).bind (fun r3 =>
    some (true, r3))
def X9_name (s : mSG) : Option (Int32 × mSG) :=
  (X9_isWord 109 117 100 0 0 0 0 0 s).bind (fun r1 =>
  if r1 = true then
    some (s.1 56 18, s)
  else
    (X9_isWord 119 101 116 0 0 0 0 0 s).bind (fun r2 =>
    if r2 = true then
      some (s.1 56 19, s)
    else
      (X9_isWord 108 111 97 100 0 0 0 0 s).bind (fun r3 =>
      if r3 = true then
        some (s.1 56 20, s)
      else
        (X9_isWord 114 97 105 110 0 0 0 0 s).bind (fun r4 =>
        if r4 = true then
          some (s.1 56 21, s)
        else
          (X9_isWord 102 114 111 109 0 0 0 0 s).bind (fun r5 =>
          if r5 = true then
            some (s.1 56 22, s)
          else
            (X9_isWord 116 111 0 0 0 0 0 0 s).bind (fun r6 =>
            if r6 = true then
              some (s.1 56 23, s)
            else
              (X9_fail s).bind (fun r7 =>
              some (0, r7))))))))
def X9_atom5_j98 (x1 : Int32) (s : mSG) : Option (Int32 × mSG) :=
  (X9_fail s).bind (fun r11 =>
  some (x1, r11))
def X9_atom5_j64 (x1 : Int32) (s : mSG) : Option (Int32 × mSG) :=
  if (s.1 56 31) = 0 then
    if (s.1 56 27) = 1 then
      (X9_name s).bind (fun r8 =>
      if (r8.2.1 56 31) = 0 then
        (X9_next r8.2).bind (fun r10 =>
        some (r8.1, r10))
      else
        some (r8.1, r8.2))
    else
      X9_atom5_j98 x1 s
  else
    X9_atom5_j98 x1 s
def X9_atom5 (s : mSG) : Option (Int32 × mSG) :=
  if X9_isSign 45 s = true then
    (X9_opens s).bind (fun r5 =>
    some (0, r5.2))
  else
    if X9_isSign 40 s = true then
      (X9_opens s).bind (fun r4 =>
      some (0, r4.2))
    else
      if (s.1 56 31) = 0 then
        if (s.1 56 27) = 2 then
          (X9_next s).bind (fun r3 =>
          some ((s.2.2 56 29).toInt32, r3))
        else
          X9_atom5_j64 0 s
      else
        X9_atom5_j64 0 s
def X9_term5_b5 (x1 : Int32) (s : mSG) : Option ((Int32 × mSG) ⊕ Int32 × mSG) :=
  if X9_isSign 42 s = true then
    (X9_next s).bind (fun r2 =>
    (X9_atom5 r2).bind (fun r3 =>
    some (.inl (x1 * r3.1, r3.2))))
  else
    some (.inr (x1, s))
def X9_term5_l5 (v : Int32 × mSG) : Option (Int32 × mSG) :=
  iter (fun v : Int32 × mSG => X9_term5_b5 v.1 v.2) mFU v
def X9_term5 (s : mSG) : Option (Int32 × mSG) :=
  (X9_atom5 s).bind (fun r1 =>
  (X9_term5_l5 (r1.1, r1.2)).bind (fun e5 =>
  some (e5.1, e5.2)))
def X9_added5_j62_5 (p0 : Int32) (s : mSG) : Option ((Int32 × mSG) ⊕ Int32 × mSG) :=
  some (.inl (p0, s))
def X9_added5_j39_5 (x1 : Int32) (p0 : Int32) (s : mSG) : Option ((Int32 × mSG) ⊕ Int32 × mSG) :=
  (X9_next s).bind (fun r3 =>
  (X9_term5 r3).bind (fun r4 =>
  if p0 = 0 then
    X9_added5_j62_5 (x1 - r4.1) r4.2
  else
    X9_added5_j62_5 (x1 + r4.1) r4.2))
def X9_added5_j23_5 (x1 : Int32) (s : mSG) : Option ((Int32 × mSG) ⊕ Int32 × mSG) :=
  if (lg_cmp (s.2.2 56 29) 43) = 0 then
    X9_added5_j39_5 x1 1 s
  else
    X9_added5_j39_5 x1 0 s
def X9_added5_b5 (x1 : Int32) (s : mSG) : Option ((Int32 × mSG) ⊕ Int32 × mSG) :=
  if X9_isSign 43 s = true then
    X9_added5_j23_5 x1 s
  else
    if X9_isSign 45 s = true then
      X9_added5_j23_5 x1 s
    else
      some (.inr (x1, s))
def X9_added5_l5 (v : Int32 × mSG) : Option (Int32 × mSG) :=
  iter (fun v : Int32 × mSG => X9_added5_b5 v.1 v.2) mFU v
def X9_added5 (s : mSG) : Option (Int32 × mSG) :=
  (X9_term5 s).bind (fun r1 =>
  (X9_added5_l5 (r1.1, r1.2)).bind (fun e5 =>
  some (e5.1, e5.2)))
def X9_not5_j66 (x1 : Int32) (p0 : Int32) (s : mSG) : Option (Int32 × mSG) :=
  (X9_next s).bind (fun r5 =>
  (X9_added5 r5).bind (fun r6 =>
  if p0 = 0 then
    if x1 = r6.1 then
      some (1, r6.2)
    else
      some (0, r6.2)
  else
    if r6.1 ≤ x1 then
      some (0, r6.2)
    else
      some (1, r6.2)))
def X9_not5_j50 (x1 : Int32) (s : mSG) : Option (Int32 × mSG) :=
  if (lg_cmp (s.2.2 56 29) 60) = 0 then
    X9_not5_j66 x1 1 s
  else
    X9_not5_j66 x1 0 s
def X9_not5 (s : mSG) : Option (Int32 × mSG) :=
  (X9_isWord 110 111 116 0 0 0 0 0 s).bind (fun r1 =>
  if r1 = true then
    (X9_opens s).bind (fun r3 =>
    some (0, r3.2))
  else
    (X9_added5 s).bind (fun r2 =>
    if X9_isSign 60 r2.2 = true then
      X9_not5_j50 r2.1 r2.2
    else
      if X9_isSign 61 r2.2 = true then
        X9_not5_j50 r2.1 r2.2
      else
        some (r2.1, r2.2)))
def X9_both5_j45_5 (p0 : Int32) (s : mSG) : Option ((Int32 × mSG) ⊕ Int32 × mSG) :=
  some (.inl (p0, s))
def X9_both5_j44_5 (s : mSG) : Option ((Int32 × mSG) ⊕ Int32 × mSG) :=
  X9_both5_j45_5 0 s
def X9_both5_b5 (x1 : Int32) (s : mSG) : Option ((Int32 × mSG) ⊕ Int32 × mSG) :=
  (X9_isWord 97 110 100 0 0 0 0 0 s).bind (fun r2 =>
  if r2 = true then
    (X9_next s).bind (fun r3 =>
    (X9_not5 r3).bind (fun r4 =>
    if x1 = 0 then
      X9_both5_j44_5 r4.2
    else
      if r4.1 = 0 then
        X9_both5_j44_5 r4.2
      else
        X9_both5_j45_5 1 r4.2))
  else
    some (.inr (x1, s)))
def X9_both5_l5 (v : Int32 × mSG) : Option (Int32 × mSG) :=
  iter (fun v : Int32 × mSG => X9_both5_b5 v.1 v.2) mFU v
def X9_both5 (s : mSG) : Option (Int32 × mSG) :=
  (X9_not5 s).bind (fun r1 =>
  (X9_both5_l5 (r1.1, r1.2)).bind (fun e5 =>
  some (e5.1, e5.2)))
def X9_either5_j44_5 (p0 : Int32) (s : mSG) : Option ((Int32 × mSG) ⊕ Int32 × mSG) :=
  some (.inl (p0, s))
def X9_either5_j39_5 (s : mSG) : Option ((Int32 × mSG) ⊕ Int32 × mSG) :=
  X9_either5_j44_5 1 s
def X9_either5_b5 (x1 : Int32) (s : mSG) : Option ((Int32 × mSG) ⊕ Int32 × mSG) :=
  (X9_isWord 111 114 0 0 0 0 0 0 s).bind (fun r2 =>
  if r2 = true then
    (X9_next s).bind (fun r3 =>
    (X9_both5 r3).bind (fun r4 =>
    if x1 = 0 then
      if r4.1 = 0 then
        X9_either5_j44_5 0 r4.2
      else
        X9_either5_j39_5 r4.2
    else
      X9_either5_j39_5 r4.2))
  else
    some (.inr (x1, s)))
def X9_either5_l5 (v : Int32 × mSG) : Option (Int32 × mSG) :=
  iter (fun v : Int32 × mSG => X9_either5_b5 v.1 v.2) mFU v
def X9_either5 (s : mSG) : Option (Int32 × mSG) :=
  (X9_both5 s).bind (fun r1 =>
  (X9_either5_l5 (r1.1, r1.2)).bind (fun e5 =>
  some (e5.1, e5.2)))
def X9_atom4_j71 (x1 : Int32) (s : mSG) : Option (Int32 × mSG) :=
  if (s.1 56 31) = 0 then
    (X9_next (sI s 56 30 ((s.1 56 30) - 1))).bind (fun r10 =>
    some (x1, r10))
  else
    some (x1, sI s 56 30 ((s.1 56 30) - 1))
def X9_atom4_j157 (x1 : Int32) (s : mSG) : Option (Int32 × mSG) :=
  (X9_fail s).bind (fun r16 =>
  some (x1, r16))
def X9_atom4_j123 (x1 : Int32) (s : mSG) : Option (Int32 × mSG) :=
  if (s.1 56 31) = 0 then
    if (s.1 56 27) = 1 then
      (X9_name s).bind (fun r13 =>
      if (r13.2.1 56 31) = 0 then
        (X9_next r13.2).bind (fun r15 =>
        some (r13.1, r15))
      else
        some (r13.1, r13.2))
    else
      X9_atom4_j157 x1 s
  else
    X9_atom4_j157 x1 s
def X9_atom4 (s : mSG) : Option (Int32 × mSG) :=
  if X9_isSign 45 s = true then
    (X9_opens s).bind (fun r7 =>
    if r7.1 = true then
      (X9_atom5 r7.2).bind (fun r8 =>
      some (-r8.1, sI r8.2 56 30 ((r8.2.1 56 30) - 1)))
    else
      some (0, r7.2))
  else
    if X9_isSign 40 s = true then
      (X9_opens s).bind (fun r4 =>
      if r4.1 = true then
        (X9_either5 r4.2).bind (fun r5 =>
        if X9_isSign 41 r5.2 = true then
          X9_atom4_j71 r5.1 r5.2
        else
          (X9_fail r5.2).bind (fun r6 =>
          X9_atom4_j71 r5.1 r6))
      else
        some (0, r4.2))
    else
      if (s.1 56 31) = 0 then
        if (s.1 56 27) = 2 then
          (X9_next s).bind (fun r3 =>
          some ((s.2.2 56 29).toInt32, r3))
        else
          X9_atom4_j123 0 s
      else
        X9_atom4_j123 0 s
def X9_term4_b5 (x1 : Int32) (s : mSG) : Option ((Int32 × mSG) ⊕ Int32 × mSG) :=
  if X9_isSign 42 s = true then
    (X9_next s).bind (fun r2 =>
    (X9_atom4 r2).bind (fun r3 =>
    some (.inl (x1 * r3.1, r3.2))))
  else
    some (.inr (x1, s))
def X9_term4_l5 (v : Int32 × mSG) : Option (Int32 × mSG) :=
  iter (fun v : Int32 × mSG => X9_term4_b5 v.1 v.2) mFU v
def X9_term4 (s : mSG) : Option (Int32 × mSG) :=
  (X9_atom4 s).bind (fun r1 =>
  (X9_term4_l5 (r1.1, r1.2)).bind (fun e5 =>
  some (e5.1, e5.2)))
def X9_added4_j62_5 (p0 : Int32) (s : mSG) : Option ((Int32 × mSG) ⊕ Int32 × mSG) :=
  some (.inl (p0, s))
def X9_added4_j39_5 (x1 : Int32) (p0 : Int32) (s : mSG) : Option ((Int32 × mSG) ⊕ Int32 × mSG) :=
  (X9_next s).bind (fun r3 =>
  (X9_term4 r3).bind (fun r4 =>
  if p0 = 0 then
    X9_added4_j62_5 (x1 - r4.1) r4.2
  else
    X9_added4_j62_5 (x1 + r4.1) r4.2))
def X9_added4_j23_5 (x1 : Int32) (s : mSG) : Option ((Int32 × mSG) ⊕ Int32 × mSG) :=
  if (lg_cmp (s.2.2 56 29) 43) = 0 then
    X9_added4_j39_5 x1 1 s
  else
    X9_added4_j39_5 x1 0 s
def X9_added4_b5 (x1 : Int32) (s : mSG) : Option ((Int32 × mSG) ⊕ Int32 × mSG) :=
  if X9_isSign 43 s = true then
    X9_added4_j23_5 x1 s
  else
    if X9_isSign 45 s = true then
      X9_added4_j23_5 x1 s
    else
      some (.inr (x1, s))
def X9_added4_l5 (v : Int32 × mSG) : Option (Int32 × mSG) :=
  iter (fun v : Int32 × mSG => X9_added4_b5 v.1 v.2) mFU v
def X9_added4 (s : mSG) : Option (Int32 × mSG) :=
  (X9_term4 s).bind (fun r1 =>
  (X9_added4_l5 (r1.1, r1.2)).bind (fun e5 =>
  some (e5.1, e5.2)))
def X9_not4_j93 (x1 : Int32) (p0 : Int32) (s : mSG) : Option (Int32 × mSG) :=
  (X9_next s).bind (fun r7 =>
  (X9_added4 r7).bind (fun r8 =>
  if p0 = 0 then
    if x1 = r8.1 then
      some (1, r8.2)
    else
      some (0, r8.2)
  else
    if r8.1 ≤ x1 then
      some (0, r8.2)
    else
      some (1, r8.2)))
def X9_not4_j77 (x1 : Int32) (s : mSG) : Option (Int32 × mSG) :=
  if (lg_cmp (s.2.2 56 29) 60) = 0 then
    X9_not4_j93 x1 1 s
  else
    X9_not4_j93 x1 0 s
def X9_not4 (s : mSG) : Option (Int32 × mSG) :=
  (X9_isWord 110 111 116 0 0 0 0 0 s).bind (fun r1 =>
  if r1 = true then
    (X9_opens s).bind (fun r3 =>
    if r3.1 = true then
      (X9_not5 r3.2).bind (fun r4 =>
      if r4.1 = 0 then
        some (1, sI r4.2 56 30 ((r4.2.1 56 30) - 1))
      else
        some (0, sI r4.2 56 30 ((r4.2.1 56 30) - 1)))
    else
      some (0, r3.2))
  else
    (X9_added4 s).bind (fun r2 =>
    if X9_isSign 60 r2.2 = true then
      X9_not4_j77 r2.1 r2.2
    else
      if X9_isSign 61 r2.2 = true then
        X9_not4_j77 r2.1 r2.2
      else
        some (r2.1, r2.2)))
def X9_both4_j45_5 (p0 : Int32) (s : mSG) : Option ((Int32 × mSG) ⊕ Int32 × mSG) :=
  some (.inl (p0, s))
def X9_both4_j44_5 (s : mSG) : Option ((Int32 × mSG) ⊕ Int32 × mSG) :=
  X9_both4_j45_5 0 s
def X9_both4_b5 (x1 : Int32) (s : mSG) : Option ((Int32 × mSG) ⊕ Int32 × mSG) :=
  (X9_isWord 97 110 100 0 0 0 0 0 s).bind (fun r2 =>
  if r2 = true then
    (X9_next s).bind (fun r3 =>
    (X9_not4 r3).bind (fun r4 =>
    if x1 = 0 then
      X9_both4_j44_5 r4.2
    else
      if r4.1 = 0 then
        X9_both4_j44_5 r4.2
      else
        X9_both4_j45_5 1 r4.2))
  else
    some (.inr (x1, s)))
def X9_both4_l5 (v : Int32 × mSG) : Option (Int32 × mSG) :=
  iter (fun v : Int32 × mSG => X9_both4_b5 v.1 v.2) mFU v
def X9_both4 (s : mSG) : Option (Int32 × mSG) :=
  (X9_not4 s).bind (fun r1 =>
  (X9_both4_l5 (r1.1, r1.2)).bind (fun e5 =>
  some (e5.1, e5.2)))
def X9_either4_j44_5 (p0 : Int32) (s : mSG) : Option ((Int32 × mSG) ⊕ Int32 × mSG) :=
  some (.inl (p0, s))
def X9_either4_j39_5 (s : mSG) : Option ((Int32 × mSG) ⊕ Int32 × mSG) :=
  X9_either4_j44_5 1 s
def X9_either4_b5 (x1 : Int32) (s : mSG) : Option ((Int32 × mSG) ⊕ Int32 × mSG) :=
  (X9_isWord 111 114 0 0 0 0 0 0 s).bind (fun r2 =>
  if r2 = true then
    (X9_next s).bind (fun r3 =>
    (X9_both4 r3).bind (fun r4 =>
    if x1 = 0 then
      if r4.1 = 0 then
        X9_either4_j44_5 0 r4.2
      else
        X9_either4_j39_5 r4.2
    else
      X9_either4_j39_5 r4.2))
  else
    some (.inr (x1, s)))
def X9_either4_l5 (v : Int32 × mSG) : Option (Int32 × mSG) :=
  iter (fun v : Int32 × mSG => X9_either4_b5 v.1 v.2) mFU v
def X9_either4 (s : mSG) : Option (Int32 × mSG) :=
  (X9_both4 s).bind (fun r1 =>
  (X9_either4_l5 (r1.1, r1.2)).bind (fun e5 =>
  some (e5.1, e5.2)))
def X9_atom3_j71 (x1 : Int32) (s : mSG) : Option (Int32 × mSG) :=
  if (s.1 56 31) = 0 then
    (X9_next (sI s 56 30 ((s.1 56 30) - 1))).bind (fun r10 =>
    some (x1, r10))
  else
    some (x1, sI s 56 30 ((s.1 56 30) - 1))
def X9_atom3_j157 (x1 : Int32) (s : mSG) : Option (Int32 × mSG) :=
  (X9_fail s).bind (fun r16 =>
  some (x1, r16))
def X9_atom3_j123 (x1 : Int32) (s : mSG) : Option (Int32 × mSG) :=
  if (s.1 56 31) = 0 then
    if (s.1 56 27) = 1 then
      (X9_name s).bind (fun r13 =>
      if (r13.2.1 56 31) = 0 then
        (X9_next r13.2).bind (fun r15 =>
        some (r13.1, r15))
      else
        some (r13.1, r13.2))
    else
      X9_atom3_j157 x1 s
  else
    X9_atom3_j157 x1 s
def X9_atom3 (s : mSG) : Option (Int32 × mSG) :=
  if X9_isSign 45 s = true then
    (X9_opens s).bind (fun r7 =>
    if r7.1 = true then
      (X9_atom4 r7.2).bind (fun r8 =>
      some (-r8.1, sI r8.2 56 30 ((r8.2.1 56 30) - 1)))
    else
      some (0, r7.2))
  else
    if X9_isSign 40 s = true then
      (X9_opens s).bind (fun r4 =>
      if r4.1 = true then
        (X9_either4 r4.2).bind (fun r5 =>
        if X9_isSign 41 r5.2 = true then
          X9_atom3_j71 r5.1 r5.2
        else
          (X9_fail r5.2).bind (fun r6 =>
          X9_atom3_j71 r5.1 r6))
      else
        some (0, r4.2))
    else
      if (s.1 56 31) = 0 then
        if (s.1 56 27) = 2 then
          (X9_next s).bind (fun r3 =>
          some ((s.2.2 56 29).toInt32, r3))
        else
          X9_atom3_j123 0 s
      else
        X9_atom3_j123 0 s
def X9_term3_b5 (x1 : Int32) (s : mSG) : Option ((Int32 × mSG) ⊕ Int32 × mSG) :=
  if X9_isSign 42 s = true then
    (X9_next s).bind (fun r2 =>
    (X9_atom3 r2).bind (fun r3 =>
    some (.inl (x1 * r3.1, r3.2))))
  else
    some (.inr (x1, s))
def X9_term3_l5 (v : Int32 × mSG) : Option (Int32 × mSG) :=
  iter (fun v : Int32 × mSG => X9_term3_b5 v.1 v.2) mFU v
def X9_term3 (s : mSG) : Option (Int32 × mSG) :=
  (X9_atom3 s).bind (fun r1 =>
  (X9_term3_l5 (r1.1, r1.2)).bind (fun e5 =>
  some (e5.1, e5.2)))
def X9_added3_j62_5 (p0 : Int32) (s : mSG) : Option ((Int32 × mSG) ⊕ Int32 × mSG) :=
  some (.inl (p0, s))
def X9_added3_j39_5 (x1 : Int32) (p0 : Int32) (s : mSG) : Option ((Int32 × mSG) ⊕ Int32 × mSG) :=
  (X9_next s).bind (fun r3 =>
  (X9_term3 r3).bind (fun r4 =>
  if p0 = 0 then
    X9_added3_j62_5 (x1 - r4.1) r4.2
  else
    X9_added3_j62_5 (x1 + r4.1) r4.2))
def X9_added3_j23_5 (x1 : Int32) (s : mSG) : Option ((Int32 × mSG) ⊕ Int32 × mSG) :=
  if (lg_cmp (s.2.2 56 29) 43) = 0 then
    X9_added3_j39_5 x1 1 s
  else
    X9_added3_j39_5 x1 0 s
def X9_added3_b5 (x1 : Int32) (s : mSG) : Option ((Int32 × mSG) ⊕ Int32 × mSG) :=
  if X9_isSign 43 s = true then
    X9_added3_j23_5 x1 s
  else
    if X9_isSign 45 s = true then
      X9_added3_j23_5 x1 s
    else
      some (.inr (x1, s))
def X9_added3_l5 (v : Int32 × mSG) : Option (Int32 × mSG) :=
  iter (fun v : Int32 × mSG => X9_added3_b5 v.1 v.2) mFU v
def X9_added3 (s : mSG) : Option (Int32 × mSG) :=
  (X9_term3 s).bind (fun r1 =>
  (X9_added3_l5 (r1.1, r1.2)).bind (fun e5 =>
  some (e5.1, e5.2)))
def X9_not3_j93 (x1 : Int32) (p0 : Int32) (s : mSG) : Option (Int32 × mSG) :=
  (X9_next s).bind (fun r7 =>
  (X9_added3 r7).bind (fun r8 =>
  if p0 = 0 then
    if x1 = r8.1 then
      some (1, r8.2)
    else
      some (0, r8.2)
  else
    if r8.1 ≤ x1 then
      some (0, r8.2)
    else
      some (1, r8.2)))
def X9_not3_j77 (x1 : Int32) (s : mSG) : Option (Int32 × mSG) :=
  if (lg_cmp (s.2.2 56 29) 60) = 0 then
    X9_not3_j93 x1 1 s
  else
    X9_not3_j93 x1 0 s
def X9_not3 (s : mSG) : Option (Int32 × mSG) :=
  (X9_isWord 110 111 116 0 0 0 0 0 s).bind (fun r1 =>
  if r1 = true then
    (X9_opens s).bind (fun r3 =>
    if r3.1 = true then
      (X9_not4 r3.2).bind (fun r4 =>
      if r4.1 = 0 then
        some (1, sI r4.2 56 30 ((r4.2.1 56 30) - 1))
      else
        some (0, sI r4.2 56 30 ((r4.2.1 56 30) - 1)))
    else
      some (0, r3.2))
  else
    (X9_added3 s).bind (fun r2 =>
    if X9_isSign 60 r2.2 = true then
      X9_not3_j77 r2.1 r2.2
    else
      if X9_isSign 61 r2.2 = true then
        X9_not3_j77 r2.1 r2.2
      else
        some (r2.1, r2.2)))
def X9_both3_j45_5 (p0 : Int32) (s : mSG) : Option ((Int32 × mSG) ⊕ Int32 × mSG) :=
  some (.inl (p0, s))
def X9_both3_j44_5 (s : mSG) : Option ((Int32 × mSG) ⊕ Int32 × mSG) :=
  X9_both3_j45_5 0 s
def X9_both3_b5 (x1 : Int32) (s : mSG) : Option ((Int32 × mSG) ⊕ Int32 × mSG) :=
  (X9_isWord 97 110 100 0 0 0 0 0 s).bind (fun r2 =>
  if r2 = true then
    (X9_next s).bind (fun r3 =>
    (X9_not3 r3).bind (fun r4 =>
    if x1 = 0 then
      X9_both3_j44_5 r4.2
    else
      if r4.1 = 0 then
        X9_both3_j44_5 r4.2
      else
        X9_both3_j45_5 1 r4.2))
  else
    some (.inr (x1, s)))
def X9_both3_l5 (v : Int32 × mSG) : Option (Int32 × mSG) :=
  iter (fun v : Int32 × mSG => X9_both3_b5 v.1 v.2) mFU v
def X9_both3 (s : mSG) : Option (Int32 × mSG) :=
  (X9_not3 s).bind (fun r1 =>
  (X9_both3_l5 (r1.1, r1.2)).bind (fun e5 =>
  some (e5.1, e5.2)))
def X9_either3_j44_5 (p0 : Int32) (s : mSG) : Option ((Int32 × mSG) ⊕ Int32 × mSG) :=
  some (.inl (p0, s))
def X9_either3_j39_5 (s : mSG) : Option ((Int32 × mSG) ⊕ Int32 × mSG) :=
  X9_either3_j44_5 1 s
def X9_either3_b5 (x1 : Int32) (s : mSG) : Option ((Int32 × mSG) ⊕ Int32 × mSG) :=
  (X9_isWord 111 114 0 0 0 0 0 0 s).bind (fun r2 =>
  if r2 = true then
    (X9_next s).bind (fun r3 =>
    (X9_both3 r3).bind (fun r4 =>
    if x1 = 0 then
      if r4.1 = 0 then
        X9_either3_j44_5 0 r4.2
      else
        X9_either3_j39_5 r4.2
    else
      X9_either3_j39_5 r4.2))
  else
    some (.inr (x1, s)))
def X9_either3_l5 (v : Int32 × mSG) : Option (Int32 × mSG) :=
  iter (fun v : Int32 × mSG => X9_either3_b5 v.1 v.2) mFU v
def X9_either3 (s : mSG) : Option (Int32 × mSG) :=
  (X9_both3 s).bind (fun r1 =>
  (X9_either3_l5 (r1.1, r1.2)).bind (fun e5 =>
  some (e5.1, e5.2)))
def X9_atom2_j71 (x1 : Int32) (s : mSG) : Option (Int32 × mSG) :=
  if (s.1 56 31) = 0 then
    (X9_next (sI s 56 30 ((s.1 56 30) - 1))).bind (fun r10 =>
    some (x1, r10))
  else
    some (x1, sI s 56 30 ((s.1 56 30) - 1))
def X9_atom2_j157 (x1 : Int32) (s : mSG) : Option (Int32 × mSG) :=
  (X9_fail s).bind (fun r16 =>
  some (x1, r16))
def X9_atom2_j123 (x1 : Int32) (s : mSG) : Option (Int32 × mSG) :=
  if (s.1 56 31) = 0 then
    if (s.1 56 27) = 1 then
      (X9_name s).bind (fun r13 =>
      if (r13.2.1 56 31) = 0 then
        (X9_next r13.2).bind (fun r15 =>
        some (r13.1, r15))
      else
        some (r13.1, r13.2))
    else
      X9_atom2_j157 x1 s
  else
    X9_atom2_j157 x1 s
def X9_atom2 (s : mSG) : Option (Int32 × mSG) :=
  if X9_isSign 45 s = true then
    (X9_opens s).bind (fun r7 =>
    if r7.1 = true then
      (X9_atom3 r7.2).bind (fun r8 =>
      some (-r8.1, sI r8.2 56 30 ((r8.2.1 56 30) - 1)))
    else
      some (0, r7.2))
  else
    if X9_isSign 40 s = true then
      (X9_opens s).bind (fun r4 =>
      if r4.1 = true then
        (X9_either3 r4.2).bind (fun r5 =>
        if X9_isSign 41 r5.2 = true then
          X9_atom2_j71 r5.1 r5.2
        else
          (X9_fail r5.2).bind (fun r6 =>
          X9_atom2_j71 r5.1 r6))
      else
        some (0, r4.2))
    else
      if (s.1 56 31) = 0 then
        if (s.1 56 27) = 2 then
          (X9_next s).bind (fun r3 =>
          some ((s.2.2 56 29).toInt32, r3))
        else
          X9_atom2_j123 0 s
      else
        X9_atom2_j123 0 s
def X9_term2_b5 (x1 : Int32) (s : mSG) : Option ((Int32 × mSG) ⊕ Int32 × mSG) :=
  if X9_isSign 42 s = true then
    (X9_next s).bind (fun r2 =>
    (X9_atom2 r2).bind (fun r3 =>
    some (.inl (x1 * r3.1, r3.2))))
  else
    some (.inr (x1, s))
def X9_term2_l5 (v : Int32 × mSG) : Option (Int32 × mSG) :=
  iter (fun v : Int32 × mSG => X9_term2_b5 v.1 v.2) mFU v
def X9_term2 (s : mSG) : Option (Int32 × mSG) :=
  (X9_atom2 s).bind (fun r1 =>
  (X9_term2_l5 (r1.1, r1.2)).bind (fun e5 =>
  some (e5.1, e5.2)))
def X9_added2_j62_5 (p0 : Int32) (s : mSG) : Option ((Int32 × mSG) ⊕ Int32 × mSG) :=
  some (.inl (p0, s))
def X9_added2_j39_5 (x1 : Int32) (p0 : Int32) (s : mSG) : Option ((Int32 × mSG) ⊕ Int32 × mSG) :=
  (X9_next s).bind (fun r3 =>
  (X9_term2 r3).bind (fun r4 =>
  if p0 = 0 then
    X9_added2_j62_5 (x1 - r4.1) r4.2
  else
    X9_added2_j62_5 (x1 + r4.1) r4.2))
def X9_added2_j23_5 (x1 : Int32) (s : mSG) : Option ((Int32 × mSG) ⊕ Int32 × mSG) :=
  if (lg_cmp (s.2.2 56 29) 43) = 0 then
    X9_added2_j39_5 x1 1 s
  else
    X9_added2_j39_5 x1 0 s
def X9_added2_b5 (x1 : Int32) (s : mSG) : Option ((Int32 × mSG) ⊕ Int32 × mSG) :=
  if X9_isSign 43 s = true then
    X9_added2_j23_5 x1 s
  else
    if X9_isSign 45 s = true then
      X9_added2_j23_5 x1 s
    else
      some (.inr (x1, s))
def X9_added2_l5 (v : Int32 × mSG) : Option (Int32 × mSG) :=
  iter (fun v : Int32 × mSG => X9_added2_b5 v.1 v.2) mFU v
def X9_added2 (s : mSG) : Option (Int32 × mSG) :=
  (X9_term2 s).bind (fun r1 =>
  (X9_added2_l5 (r1.1, r1.2)).bind (fun e5 =>
  some (e5.1, e5.2)))
def X9_not2_j93 (x1 : Int32) (p0 : Int32) (s : mSG) : Option (Int32 × mSG) :=
  (X9_next s).bind (fun r7 =>
  (X9_added2 r7).bind (fun r8 =>
  if p0 = 0 then
    if x1 = r8.1 then
      some (1, r8.2)
    else
      some (0, r8.2)
  else
    if r8.1 ≤ x1 then
      some (0, r8.2)
    else
      some (1, r8.2)))
def X9_not2_j77 (x1 : Int32) (s : mSG) : Option (Int32 × mSG) :=
  if (lg_cmp (s.2.2 56 29) 60) = 0 then
    X9_not2_j93 x1 1 s
  else
    X9_not2_j93 x1 0 s
def X9_not2 (s : mSG) : Option (Int32 × mSG) :=
  (X9_isWord 110 111 116 0 0 0 0 0 s).bind (fun r1 =>
  if r1 = true then
    (X9_opens s).bind (fun r3 =>
    if r3.1 = true then
      (X9_not3 r3.2).bind (fun r4 =>
      if r4.1 = 0 then
        some (1, sI r4.2 56 30 ((r4.2.1 56 30) - 1))
      else
        some (0, sI r4.2 56 30 ((r4.2.1 56 30) - 1)))
    else
      some (0, r3.2))
  else
    (X9_added2 s).bind (fun r2 =>
    if X9_isSign 60 r2.2 = true then
      X9_not2_j77 r2.1 r2.2
    else
      if X9_isSign 61 r2.2 = true then
        X9_not2_j77 r2.1 r2.2
      else
        some (r2.1, r2.2)))
def X9_both2_j45_5 (p0 : Int32) (s : mSG) : Option ((Int32 × mSG) ⊕ Int32 × mSG) :=
  some (.inl (p0, s))
def X9_both2_j44_5 (s : mSG) : Option ((Int32 × mSG) ⊕ Int32 × mSG) :=
  X9_both2_j45_5 0 s
def X9_both2_b5 (x1 : Int32) (s : mSG) : Option ((Int32 × mSG) ⊕ Int32 × mSG) :=
  (X9_isWord 97 110 100 0 0 0 0 0 s).bind (fun r2 =>
  if r2 = true then
    (X9_next s).bind (fun r3 =>
    (X9_not2 r3).bind (fun r4 =>
    if x1 = 0 then
      X9_both2_j44_5 r4.2
    else
      if r4.1 = 0 then
        X9_both2_j44_5 r4.2
      else
        X9_both2_j45_5 1 r4.2))
  else
    some (.inr (x1, s)))
def X9_both2_l5 (v : Int32 × mSG) : Option (Int32 × mSG) :=
  iter (fun v : Int32 × mSG => X9_both2_b5 v.1 v.2) mFU v
def X9_both2 (s : mSG) : Option (Int32 × mSG) :=
  (X9_not2 s).bind (fun r1 =>
  (X9_both2_l5 (r1.1, r1.2)).bind (fun e5 =>
  some (e5.1, e5.2)))
def X9_either2_j44_5 (p0 : Int32) (s : mSG) : Option ((Int32 × mSG) ⊕ Int32 × mSG) :=
  some (.inl (p0, s))
def X9_either2_j39_5 (s : mSG) : Option ((Int32 × mSG) ⊕ Int32 × mSG) :=
  X9_either2_j44_5 1 s
def X9_either2_b5 (x1 : Int32) (s : mSG) : Option ((Int32 × mSG) ⊕ Int32 × mSG) :=
  (X9_isWord 111 114 0 0 0 0 0 0 s).bind (fun r2 =>
  if r2 = true then
    (X9_next s).bind (fun r3 =>
    (X9_both2 r3).bind (fun r4 =>
    if x1 = 0 then
      if r4.1 = 0 then
        X9_either2_j44_5 0 r4.2
      else
        X9_either2_j39_5 r4.2
    else
      X9_either2_j39_5 r4.2))
  else
    some (.inr (x1, s)))
def X9_either2_l5 (v : Int32 × mSG) : Option (Int32 × mSG) :=
  iter (fun v : Int32 × mSG => X9_either2_b5 v.1 v.2) mFU v
def X9_either2 (s : mSG) : Option (Int32 × mSG) :=
  (X9_both2 s).bind (fun r1 =>
  (X9_either2_l5 (r1.1, r1.2)).bind (fun e5 =>
  some (e5.1, e5.2)))
def X9_atom1_j71 (x1 : Int32) (s : mSG) : Option (Int32 × mSG) :=
  if (s.1 56 31) = 0 then
    (X9_next (sI s 56 30 ((s.1 56 30) - 1))).bind (fun r10 =>
    some (x1, r10))
  else
    some (x1, sI s 56 30 ((s.1 56 30) - 1))
def X9_atom1_j157 (x1 : Int32) (s : mSG) : Option (Int32 × mSG) :=
  (X9_fail s).bind (fun r16 =>
  some (x1, r16))
def X9_atom1_j123 (x1 : Int32) (s : mSG) : Option (Int32 × mSG) :=
  if (s.1 56 31) = 0 then
    if (s.1 56 27) = 1 then
      (X9_name s).bind (fun r13 =>
      if (r13.2.1 56 31) = 0 then
        (X9_next r13.2).bind (fun r15 =>
        some (r13.1, r15))
      else
        some (r13.1, r13.2))
    else
      X9_atom1_j157 x1 s
  else
    X9_atom1_j157 x1 s
def X9_atom1 (s : mSG) : Option (Int32 × mSG) :=
  if X9_isSign 45 s = true then
    (X9_opens s).bind (fun r7 =>
    if r7.1 = true then
      (X9_atom2 r7.2).bind (fun r8 =>
      some (-r8.1, sI r8.2 56 30 ((r8.2.1 56 30) - 1)))
    else
      some (0, r7.2))
  else
    if X9_isSign 40 s = true then
      (X9_opens s).bind (fun r4 =>
      if r4.1 = true then
        (X9_either2 r4.2).bind (fun r5 =>
        if X9_isSign 41 r5.2 = true then
          X9_atom1_j71 r5.1 r5.2
        else
          (X9_fail r5.2).bind (fun r6 =>
          X9_atom1_j71 r5.1 r6))
      else
        some (0, r4.2))
    else
      if (s.1 56 31) = 0 then
        if (s.1 56 27) = 2 then
          (X9_next s).bind (fun r3 =>
          some ((s.2.2 56 29).toInt32, r3))
        else
          X9_atom1_j123 0 s
      else
        X9_atom1_j123 0 s
def X9_term1_b5 (x1 : Int32) (s : mSG) : Option ((Int32 × mSG) ⊕ Int32 × mSG) :=
  if X9_isSign 42 s = true then
    (X9_next s).bind (fun r2 =>
    (X9_atom1 r2).bind (fun r3 =>
    some (.inl (x1 * r3.1, r3.2))))
  else
    some (.inr (x1, s))
def X9_term1_l5 (v : Int32 × mSG) : Option (Int32 × mSG) :=
  iter (fun v : Int32 × mSG => X9_term1_b5 v.1 v.2) mFU v
def X9_term1 (s : mSG) : Option (Int32 × mSG) :=
  (X9_atom1 s).bind (fun r1 =>
  (X9_term1_l5 (r1.1, r1.2)).bind (fun e5 =>
  some (e5.1, e5.2)))
def X9_added1_j62_5 (p0 : Int32) (s : mSG) : Option ((Int32 × mSG) ⊕ Int32 × mSG) :=
  some (.inl (p0, s))
def X9_added1_j39_5 (x1 : Int32) (p0 : Int32) (s : mSG) : Option ((Int32 × mSG) ⊕ Int32 × mSG) :=
  (X9_next s).bind (fun r3 =>
  (X9_term1 r3).bind (fun r4 =>
  if p0 = 0 then
    X9_added1_j62_5 (x1 - r4.1) r4.2
  else
    X9_added1_j62_5 (x1 + r4.1) r4.2))
def X9_added1_j23_5 (x1 : Int32) (s : mSG) : Option ((Int32 × mSG) ⊕ Int32 × mSG) :=
  if (lg_cmp (s.2.2 56 29) 43) = 0 then
    X9_added1_j39_5 x1 1 s
  else
    X9_added1_j39_5 x1 0 s
def X9_added1_b5 (x1 : Int32) (s : mSG) : Option ((Int32 × mSG) ⊕ Int32 × mSG) :=
  if X9_isSign 43 s = true then
    X9_added1_j23_5 x1 s
  else
    if X9_isSign 45 s = true then
      X9_added1_j23_5 x1 s
    else
      some (.inr (x1, s))
def X9_added1_l5 (v : Int32 × mSG) : Option (Int32 × mSG) :=
  iter (fun v : Int32 × mSG => X9_added1_b5 v.1 v.2) mFU v
def X9_added1 (s : mSG) : Option (Int32 × mSG) :=
  (X9_term1 s).bind (fun r1 =>
  (X9_added1_l5 (r1.1, r1.2)).bind (fun e5 =>
  some (e5.1, e5.2)))
def X9_not1_j93 (x1 : Int32) (p0 : Int32) (s : mSG) : Option (Int32 × mSG) :=
  (X9_next s).bind (fun r7 =>
  (X9_added1 r7).bind (fun r8 =>
  if p0 = 0 then
    if x1 = r8.1 then
      some (1, r8.2)
    else
      some (0, r8.2)
  else
    if r8.1 ≤ x1 then
      some (0, r8.2)
    else
      some (1, r8.2)))
def X9_not1_j77 (x1 : Int32) (s : mSG) : Option (Int32 × mSG) :=
  if (lg_cmp (s.2.2 56 29) 60) = 0 then
    X9_not1_j93 x1 1 s
  else
    X9_not1_j93 x1 0 s
def X9_not1 (s : mSG) : Option (Int32 × mSG) :=
  (X9_isWord 110 111 116 0 0 0 0 0 s).bind (fun r1 =>
  if r1 = true then
    (X9_opens s).bind (fun r3 =>
    if r3.1 = true then
      (X9_not2 r3.2).bind (fun r4 =>
      if r4.1 = 0 then
        some (1, sI r4.2 56 30 ((r4.2.1 56 30) - 1))
      else
        some (0, sI r4.2 56 30 ((r4.2.1 56 30) - 1)))
    else
      some (0, r3.2))
  else
    (X9_added1 s).bind (fun r2 =>
    if X9_isSign 60 r2.2 = true then
      X9_not1_j77 r2.1 r2.2
    else
      if X9_isSign 61 r2.2 = true then
        X9_not1_j77 r2.1 r2.2
      else
        some (r2.1, r2.2)))
def X9_both1_j45_5 (p0 : Int32) (s : mSG) : Option ((Int32 × mSG) ⊕ Int32 × mSG) :=
  some (.inl (p0, s))
def X9_both1_j44_5 (s : mSG) : Option ((Int32 × mSG) ⊕ Int32 × mSG) :=
  X9_both1_j45_5 0 s
def X9_both1_b5 (x1 : Int32) (s : mSG) : Option ((Int32 × mSG) ⊕ Int32 × mSG) :=
  (X9_isWord 97 110 100 0 0 0 0 0 s).bind (fun r2 =>
  if r2 = true then
    (X9_next s).bind (fun r3 =>
    (X9_not1 r3).bind (fun r4 =>
    if x1 = 0 then
      X9_both1_j44_5 r4.2
    else
      if r4.1 = 0 then
        X9_both1_j44_5 r4.2
      else
        X9_both1_j45_5 1 r4.2))
  else
    some (.inr (x1, s)))
def X9_both1_l5 (v : Int32 × mSG) : Option (Int32 × mSG) :=
  iter (fun v : Int32 × mSG => X9_both1_b5 v.1 v.2) mFU v
def X9_both1 (s : mSG) : Option (Int32 × mSG) :=
  (X9_not1 s).bind (fun r1 =>
  (X9_both1_l5 (r1.1, r1.2)).bind (fun e5 =>
  some (e5.1, e5.2)))
def X9_either1_j44_5 (p0 : Int32) (s : mSG) : Option ((Int32 × mSG) ⊕ Int32 × mSG) :=
  some (.inl (p0, s))
def X9_either1_j39_5 (s : mSG) : Option ((Int32 × mSG) ⊕ Int32 × mSG) :=
  X9_either1_j44_5 1 s
def X9_either1_b5 (x1 : Int32) (s : mSG) : Option ((Int32 × mSG) ⊕ Int32 × mSG) :=
  (X9_isWord 111 114 0 0 0 0 0 0 s).bind (fun r2 =>
  if r2 = true then
    (X9_next s).bind (fun r3 =>
    (X9_both1 r3).bind (fun r4 =>
    if x1 = 0 then
      if r4.1 = 0 then
        X9_either1_j44_5 0 r4.2
      else
        X9_either1_j39_5 r4.2
    else
      X9_either1_j39_5 r4.2))
  else
    some (.inr (x1, s)))
def X9_either1_l5 (v : Int32 × mSG) : Option (Int32 × mSG) :=
  iter (fun v : Int32 × mSG => X9_either1_b5 v.1 v.2) mFU v
def X9_either1 (s : mSG) : Option (Int32 × mSG) :=
  (X9_both1 s).bind (fun r1 =>
  (X9_either1_l5 (r1.1, r1.2)).bind (fun e5 =>
  some (e5.1, e5.2)))
def X9_atom0_j71 (x1 : Int32) (s : mSG) : Option (Int32 × mSG) :=
  if (s.1 56 31) = 0 then
    (X9_next (sI s 56 30 ((s.1 56 30) - 1))).bind (fun r10 =>
    some (x1, r10))
  else
    some (x1, sI s 56 30 ((s.1 56 30) - 1))
def X9_atom0_j157 (x1 : Int32) (s : mSG) : Option (Int32 × mSG) :=
  (X9_fail s).bind (fun r16 =>
  some (x1, r16))
def X9_atom0_j123 (x1 : Int32) (s : mSG) : Option (Int32 × mSG) :=
  if (s.1 56 31) = 0 then
    if (s.1 56 27) = 1 then
      (X9_name s).bind (fun r13 =>
      if (r13.2.1 56 31) = 0 then
        (X9_next r13.2).bind (fun r15 =>
        some (r13.1, r15))
      else
        some (r13.1, r13.2))
    else
      X9_atom0_j157 x1 s
  else
    X9_atom0_j157 x1 s
def X9_atom0 (s : mSG) : Option (Int32 × mSG) :=
  if X9_isSign 45 s = true then
    (X9_opens s).bind (fun r7 =>
    if r7.1 = true then
      (X9_atom1 r7.2).bind (fun r8 =>
      some (-r8.1, sI r8.2 56 30 ((r8.2.1 56 30) - 1)))
    else
      some (0, r7.2))
  else
    if X9_isSign 40 s = true then
      (X9_opens s).bind (fun r4 =>
      if r4.1 = true then
        (X9_either1 r4.2).bind (fun r5 =>
        if X9_isSign 41 r5.2 = true then
          X9_atom0_j71 r5.1 r5.2
        else
          (X9_fail r5.2).bind (fun r6 =>
          X9_atom0_j71 r5.1 r6))
      else
        some (0, r4.2))
    else
      if (s.1 56 31) = 0 then
        if (s.1 56 27) = 2 then
          (X9_next s).bind (fun r3 =>
          some ((s.2.2 56 29).toInt32, r3))
        else
          X9_atom0_j123 0 s
      else
        X9_atom0_j123 0 s
def X9_term0_b5 (x1 : Int32) (s : mSG) : Option ((Int32 × mSG) ⊕ Int32 × mSG) :=
  if X9_isSign 42 s = true then
    (X9_next s).bind (fun r2 =>
    (X9_atom0 r2).bind (fun r3 =>
    some (.inl (x1 * r3.1, r3.2))))
  else
    some (.inr (x1, s))
def X9_term0_l5 (v : Int32 × mSG) : Option (Int32 × mSG) :=
  iter (fun v : Int32 × mSG => X9_term0_b5 v.1 v.2) mFU v
def X9_term0 (s : mSG) : Option (Int32 × mSG) :=
  (X9_atom0 s).bind (fun r1 =>
  (X9_term0_l5 (r1.1, r1.2)).bind (fun e5 =>
  some (e5.1, e5.2)))
def X9_added0_j62_5 (p0 : Int32) (s : mSG) : Option ((Int32 × mSG) ⊕ Int32 × mSG) :=
  some (.inl (p0, s))
def X9_added0_j39_5 (x1 : Int32) (p0 : Int32) (s : mSG) : Option ((Int32 × mSG) ⊕ Int32 × mSG) :=
  (X9_next s).bind (fun r3 =>
  (X9_term0 r3).bind (fun r4 =>
  if p0 = 0 then
    X9_added0_j62_5 (x1 - r4.1) r4.2
  else
    X9_added0_j62_5 (x1 + r4.1) r4.2))
def X9_added0_j23_5 (x1 : Int32) (s : mSG) : Option ((Int32 × mSG) ⊕ Int32 × mSG) :=
  if (lg_cmp (s.2.2 56 29) 43) = 0 then
    X9_added0_j39_5 x1 1 s
  else
    X9_added0_j39_5 x1 0 s
def X9_added0_b5 (x1 : Int32) (s : mSG) : Option ((Int32 × mSG) ⊕ Int32 × mSG) :=
  if X9_isSign 43 s = true then
    X9_added0_j23_5 x1 s
  else
    if X9_isSign 45 s = true then
      X9_added0_j23_5 x1 s
    else
      some (.inr (x1, s))
def X9_added0_l5 (v : Int32 × mSG) : Option (Int32 × mSG) :=
  iter (fun v : Int32 × mSG => X9_added0_b5 v.1 v.2) mFU v
def X9_added0 (s : mSG) : Option (Int32 × mSG) :=
  (X9_term0 s).bind (fun r1 =>
  (X9_added0_l5 (r1.1, r1.2)).bind (fun e5 =>
  some (e5.1, e5.2)))
def X9_not0_j93 (x1 : Int32) (p0 : Int32) (s : mSG) : Option (Int32 × mSG) :=
  (X9_next s).bind (fun r7 =>
  (X9_added0 r7).bind (fun r8 =>
  if p0 = 0 then
    if x1 = r8.1 then
      some (1, r8.2)
    else
      some (0, r8.2)
  else
    if r8.1 ≤ x1 then
      some (0, r8.2)
    else
      some (1, r8.2)))
def X9_not0_j77 (x1 : Int32) (s : mSG) : Option (Int32 × mSG) :=
  if (lg_cmp (s.2.2 56 29) 60) = 0 then
    X9_not0_j93 x1 1 s
  else
    X9_not0_j93 x1 0 s
def X9_not0 (s : mSG) : Option (Int32 × mSG) :=
  (X9_isWord 110 111 116 0 0 0 0 0 s).bind (fun r1 =>
  if r1 = true then
    (X9_opens s).bind (fun r3 =>
    if r3.1 = true then
      (X9_not1 r3.2).bind (fun r4 =>
      if r4.1 = 0 then
        some (1, sI r4.2 56 30 ((r4.2.1 56 30) - 1))
      else
        some (0, sI r4.2 56 30 ((r4.2.1 56 30) - 1)))
    else
      some (0, r3.2))
  else
    (X9_added0 s).bind (fun r2 =>
    if X9_isSign 60 r2.2 = true then
      X9_not0_j77 r2.1 r2.2
    else
      if X9_isSign 61 r2.2 = true then
        X9_not0_j77 r2.1 r2.2
      else
        some (r2.1, r2.2)))
def X9_both0_j45_5 (p0 : Int32) (s : mSG) : Option ((Int32 × mSG) ⊕ Int32 × mSG) :=
  some (.inl (p0, s))
def X9_both0_j44_5 (s : mSG) : Option ((Int32 × mSG) ⊕ Int32 × mSG) :=
  X9_both0_j45_5 0 s
def X9_both0_b5 (x1 : Int32) (s : mSG) : Option ((Int32 × mSG) ⊕ Int32 × mSG) :=
  (X9_isWord 97 110 100 0 0 0 0 0 s).bind (fun r2 =>
  if r2 = true then
    (X9_next s).bind (fun r3 =>
    (X9_not0 r3).bind (fun r4 =>
    if x1 = 0 then
      X9_both0_j44_5 r4.2
    else
      if r4.1 = 0 then
        X9_both0_j44_5 r4.2
      else
        X9_both0_j45_5 1 r4.2))
  else
    some (.inr (x1, s)))
def X9_both0_l5 (v : Int32 × mSG) : Option (Int32 × mSG) :=
  iter (fun v : Int32 × mSG => X9_both0_b5 v.1 v.2) mFU v
def X9_both0 (s : mSG) : Option (Int32 × mSG) :=
  (X9_not0 s).bind (fun r1 =>
  (X9_both0_l5 (r1.1, r1.2)).bind (fun e5 =>
  some (e5.1, e5.2)))
def X9_either0_j44_5 (p0 : Int32) (s : mSG) : Option ((Int32 × mSG) ⊕ Int32 × mSG) :=
  some (.inl (p0, s))
def X9_either0_j39_5 (s : mSG) : Option ((Int32 × mSG) ⊕ Int32 × mSG) :=
  X9_either0_j44_5 1 s
def X9_either0_b5 (x1 : Int32) (s : mSG) : Option ((Int32 × mSG) ⊕ Int32 × mSG) :=
  (X9_isWord 111 114 0 0 0 0 0 0 s).bind (fun r2 =>
  if r2 = true then
    (X9_next s).bind (fun r3 =>
    (X9_both0 r3).bind (fun r4 =>
    if x1 = 0 then
      if r4.1 = 0 then
        X9_either0_j44_5 0 r4.2
      else
        X9_either0_j39_5 r4.2
    else
      X9_either0_j39_5 r4.2))
  else
    some (.inr (x1, s)))
def X9_either0_l5 (v : Int32 × mSG) : Option (Int32 × mSG) :=
  iter (fun v : Int32 × mSG => X9_either0_b5 v.1 v.2) mFU v
def X9_either0 (s : mSG) : Option (Int32 × mSG) :=
  (X9_both0 s).bind (fun r1 =>
  (X9_either0_l5 (r1.1, r1.2)).bind (fun e5 =>
  some (e5.1, e5.2)))
def X9_part_j48 (x2 : Int32) (s : mSG) : Option (Int32 × mSG) :=
  if (s.1 56 31) = 0 then
    (X9_next s).bind (fun r9 =>
    some (x2, r9))
  else
    some (x2, s)
def X9_part_j34 (p0 : Int32) (s : mSG) : Option (Int32 × mSG) :=
  if X9_isSign 59 s = true then
    X9_part_j48 p0 s
  else
    (X9_fail s).bind (fun r7 =>
    X9_part_j48 p0 r7)
def X9_part_j19 (s : mSG) : Option (Int32 × mSG) :=
  if (s.1 56 31) = 0 then
    (X9_either0 s).bind (fun r6 =>
    X9_part_j34 r6.1 r6.2)
  else
    X9_part_j34 0 s
def X9_part_j8 (s : mSG) : Option (Int32 × mSG) :=
  if (s.1 56 31) = 0 then
    (X9_next s).bind (fun r4 =>
    X9_part_j19 r4)
  else
    X9_part_j19 s
def X9_part (x1 : Int32) (s : mSG) : Option (Int32 × mSG) :=
  if x1 = 0 then
    (X9_fail s).bind (fun r2 =>
    X9_part_j8 r2)
  else
    X9_part_j8 s
def X9_read_j146 (x2 : Int32) (x3 : Int32) (x4 : Int32) (x5 : Int32) (s : mSG) : Option (Int32 × mSG) :=
  if x2 = 0 then
    some (x3, s)
  else
    if x2 = 1 then
      some (x4, s)
    else
      some (x5, s)
def X9_read_j126 (x2 : Int32) (x3 : Int32) (x4 : Int32) (p0 : Int32) (s : mSG) : Option (Int32 × mSG) :=
  if (s.1 56 31) = 0 then
    if (s.1 56 27) = 0 then
      X9_read_j146 x2 x3 x4 p0 s
    else
      (X9_fail s).bind (fun r13 =>
      X9_read_j146 x2 x3 x4 p0 r13)
  else
    X9_read_j146 x2 x3 x4 p0 s
def X9_read_j92 (x2 : Int32) (x3 : Int32) (p0 : Int32) (s : mSG) : Option (Int32 × mSG) :=
  if (s.1 56 31) = 0 then
    (X9_isWord 108 101 110 100 115 0 0 0 s).bind (fun r9 =>
    (X9_part (b2i r9) s).bind (fun r10 =>
    X9_read_j126 x2 x3 p0 r10.1 r10.2))
  else
    X9_read_j126 x2 x3 p0 0 s
def X9_read (x1 : Int32) (x2 : Int32) (s : mSG) : Option (Int32 × mSG) :=
  if mInb x1 6 = true then
    (X9_next (sI (sI (sI (sI (sI s 56 24 (160 * x1)) 56 25 (s.1 58 x1.toNatClampNeg)) 56 26 0) 56 30 0) 56 31 0)).bind (fun r2 =>
    (X9_isWord 119 97 110 116 115 0 0 0 r2).bind (fun r3 =>
    (X9_part (b2i r3) r2).bind (fun r4 =>
    if (r4.2.1 56 31) = 0 then
      (X9_isWord 116 97 107 101 115 0 0 0 r4.2).bind (fun r6 =>
      (X9_part (b2i r6) r4.2).bind (fun r7 =>
      X9_read_j92 x2 r4.1 r7.1 r7.2))
    else
      X9_read_j92 x2 r4.1 0 r4.2)))
  else none
def X9_text_b14 (x1 : Int32) (s : mSG) : Option ((Int32 × mSG) ⊕ mSG) :=
  if (s.1 56 6) ≤ x1 then
    some (.inr s)
  else
    if mInb x1 160 = true then
      if mInb ((160 * (s.1 56 3)) + x1) 960 = true then
        some (.inl (x1 + 1, sI s 57 ((160 * (s.1 56 3)) + x1).toNatClampNeg (s.1 59 x1.toNatClampNeg)))
      else none
    else none
def X9_text_l14 (v : Int32 × mSG) : Option mSG :=
  iter (fun v : Int32 × mSG => X9_text_b14 v.1 v.2) mFU v
def X9_text (s : mSG) : Option (Int32 × mSG) :=
  if (s.1 56 3) = 6 then
    some ((-4), s)
  else
    (X9_text_l14 (0, s)).bind (fun e14 =>
    if mInb (e14.1 56 3) 6 = true then
      (X9_read (e14.1 56 3) 0 (sI (sI e14 58 (e14.1 56 3).toNatClampNeg (e14.1 56 6)) 56 6 0)).bind (fun r6 =>
      if (r6.2.1 56 31) = 0 then
        some (((r6.2.1 56 3) + 1) - 1, sI r6.2 56 3 ((r6.2.1 56 3) + 1))
      else
        some ((-100) - (r6.2.1 56 32), r6.2))
    else none)
def X9_force (x1 : Int32) (s : mSG) : Option (Int32 × mSG) :=
  if X9_in x1.toInt64 0 (((s.1 56 3) - 1).toInt64) = true then
    some (s.1 56 4, sI s 56 4 x1)
  else
    some ((-2), s)
def X9_says_j23 (x1 : Int32) (x2 : Int32) (x3 : Int32) (x4 : Int32) (x5 : Int32) (x6 : Int32) (p1 : Int32) (s : mSG) : Option (Int32 × mSG) :=
  if mInb x2 5 = true then
    (X9_read (s.1 56 4) x1 (sI (sI (sI (sI (sI (sI s 56 18 p1) 56 19 x3) 56 20 (s.1 64 x2.toNatClampNeg)) 56 21 x4) 56 22 x5) 56 23 x6)).bind (fun r4 =>
    some (X9_within r4.1 0 99, r4.2))
  else none
def X9_says (x1 : Int32) (x2 : Int32) (x3 : Int32) (x4 : Int32) (x5 : Int32) (x6 : Int32) (s : mSG) : Option (Int32 × mSG) :=
  if x1 = 2 then
    X9_says_j23 x1 x2 x3 x4 x5 x6 0 s
  else
    if mInb ((8 * x5) + x6) 64 = true then
      X9_says_j23 x1 x2 x3 x4 x5 x6 (s.1 60 ((8 * x5) + x6).toNatClampNeg) s
    else none
def X9_rainAt (x1 : Int32) (s : mSG) : Option Int32 :=
  if mInb (x1 - x1 / 24 * 24) 24 = true then
    some (s.1 68 (x1 - x1 / 24 * 24).toNatClampNeg)
  else none
def X9_canGo (x1 : Int32) (x2 : Int32) (x3 : Int32) (x4 : Int32) (x5 : Int32) (s : mSG) : Option (Bool × mSG) :=
  if mInb ((8 * x4) + x5) 64 = true then
    if x4 = x5 then
      some (false, s)
    else
      if (s.1 60 ((8 * x4) + x5).toNatClampNeg) ≤ 0 then
        some (false, s)
      else
        (X9_reaches x1 x2 s).bind (fun r4 =>
        (X9_says 0 x1 x2 x3 x4 x5 s).bind (fun r5 =>
        if r4 < ((s.1 60 ((8 * x4) + x5).toNatClampNeg) + r5.1) then
          some (false, r5.2)
        else
          some (true, r5.2)))
  else none
def X9_hoursOf (x1 : Int32) (x2 : Int32) (x3 : Int32) (x4 : Int32) (x5 : Int32) (s : mSG) : Option (Int32 × mSG) :=
  if mInb ((8 * x4) + x5) 64 = true then
    (X9_lasts x1 (s.1 60 ((8 * x4) + x5).toNatClampNeg) s).bind (fun r2 =>
    (X9_says 1 x1 x2 x3 x4 x5 s).bind (fun r3 =>
    some (r2 + r3.1, r3.2)))
  else none
def X9_can (x1 : Int32) (x2 : Int32) (x3 : Int32) (s : mSG) : Option (Int32 × mSG) :=
  if X9_isOne x1 s = true then
    if X9_isStone x2 = true then
      if X9_in x3.toInt64 0 1 = true then
        if mInb x1 5 = true then
          (X9_rainAt (s.1 56 16) s).bind (fun r2 =>
          (X9_canGo x1 (s.1 66 x1.toNatClampNeg) r2 (s.1 65 x1.toNatClampNeg) x2 s).bind (fun r3 =>
          if x3 = 0 then
            if (b2i r3.1) = 0 then
              some (0, r3.2)
            else
              some (1, r3.2)
          else
            if (b2i r3.1) = 0 then
              some ((-1), r3.2)
            else
              (X9_rainAt (r3.2.1 56 16) r3.2).bind (fun r7 =>
              (X9_hoursOf x1 (r3.2.1 66 x1.toNatClampNeg) r7 (r3.2.1 65 x1.toNatClampNeg) x2 r3.2).bind (fun r8 =>
              some (r8.1, r8.2)))))
        else none
      else
        some ((-2), s)
    else
      some ((-2), s)
  else
    some ((-2), s)
def X9_goes (x1 : Int32) (x2 : Int32) (s : mSG) : Option (Bool × mSG) :=
  (X9_rainAt (s.1 56 16) s).bind (fun r1 =>
  if mInb x1 5 = true then
    (X9_canGo x1 (s.1 66 x1.toNatClampNeg) r1 (s.1 65 x1.toNatClampNeg) x2 s).bind (fun r3 =>
    if r3.1 = true then
      (X9_hoursOf x1 (r3.2.1 66 x1.toNatClampNeg) r1 (r3.2.1 65 x1.toNatClampNeg) x2 r3.2).bind (fun r4 =>
      (X9_soaks x1 (r4.2.1 66 x1.toNatClampNeg) r1 r4.2).bind (fun r5 =>
      if 9999 ≤ ((r3.2.1 56 16) + r4.1) then
        some (true, sI (sI (sI r4.2 66 x1.toNatClampNeg r5) 65 x1.toNatClampNeg x2) 56 16 9999)
      else
        some (true, sI (sI (sI r4.2 66 x1.toNatClampNeg r5) 65 x1.toNatClampNeg x2) 56 16 ((r3.2.1 56 16) + r4.1))))
    else
      some (false, r3.2))
  else none)
def X9_go (x1 : Int32) (x2 : Int32) (s : mSG) : Option (Int32 × mSG) :=
  if X9_isOne x1 s = true then
    if X9_isStone x2 = true then
      (X9_goes x1 x2 s).bind (fun r1 =>
      if r1.1 = true then
        some (r1.2.1 56 16, r1.2)
      else
        some ((-3), r1.2))
    else
      some ((-2), s)
  else
    some ((-2), s)
def X9_leaves_j150_15 (x1 : Int32) (x2 : Int32) (x3 : Int32) (x4 : Int32) (x5 : Int32) (x6 : Int32) (s : mSG) : Option ((Int32 × mSG) ⊕ mSG) :=
  some (.inl (x6 + 1, s))
def X9_leaves_j132_15 (x1 : Int32) (x2 : Int32) (x3 : Int32) (x4 : Int32) (x5 : Int32) (x6 : Int32) (x7 : Int32) (x8 : Int32) (x9 : Int32) (s : mSG) : Option ((Int32 × mSG) ⊕ mSG) :=
  if mInb x8 80 = true then
    X9_leaves_j150_15 x1 x2 x3 x4 x5 x6 (sI (sI s 69 x8.toNatClampNeg x7) 70 x8.toNatClampNeg x9)
  else none
def X9_leaves_j94_15 (x1 : Int32) (x2 : Int32) (x3 : Int32) (x4 : Int32) (x5 : Int32) (x6 : Int32) (x7 : Int32) (x8 : Int32) (p0 : Int32) (s : mSG) : Option ((Int32 × mSG) ⊕ mSG) :=
  if mInb x8 80 = true then
    if x7 < (s.1 69 x8.toNatClampNeg) then
      X9_leaves_j132_15 x1 x2 x3 x4 x5 x6 x7 x8 p0 s
    else
      if x7 = (s.1 69 x8.toNatClampNeg) then
        if (s.1 70 x8.toNatClampNeg) ≤ p0 then
          X9_leaves_j150_15 x1 x2 x3 x4 x5 x6 s
        else
          X9_leaves_j132_15 x1 x2 x3 x4 x5 x6 x7 x8 p0 s
      else
        X9_leaves_j150_15 x1 x2 x3 x4 x5 x6 s
  else none
def X9_leaves_b15 (x1 : Int32) (x2 : Int32) (x3 : Int32) (x4 : Int32) (x5 : Int32) (x6 : Int32) (s : mSG) : Option ((Int32 × mSG) ⊕ mSG) :=
  if 8 ≤ x6 then
    some (.inr s)
  else
    (X9_canGo x1 x5 x3 x4 x6 s).bind (fun r2 =>
    if r2.1 = true then
      if mInb x2 80 = true then
        (X9_hoursOf x1 x5 x3 x4 x6 r2.2).bind (fun r4 =>
        (X9_soaks x1 x5 x3 r4.2).bind (fun r5 =>
        if (r4.2.1 69 x2.toNatClampNeg) = 0 then
          X9_leaves_j94_15 x1 x2 x3 x4 x5 x6 ((r2.2.1 69 x2.toNatClampNeg) + r4.1) ((10 * x6) + r5) x6 r4.2
        else
          X9_leaves_j94_15 x1 x2 x3 x4 x5 x6 ((r2.2.1 69 x2.toNatClampNeg) + r4.1) ((10 * x6) + r5) (r4.2.1 70 x2.toNatClampNeg) r4.2))
      else none
    else
      X9_leaves_j150_15 x1 x2 x3 x4 x5 x6 r2.2)
def X9_leaves_l15 (x1 : Int32) (x2 : Int32) (x3 : Int32) (x4 : Int32) (x5 : Int32) (v : Int32 × mSG) : Option mSG :=
  iter (fun v : Int32 × mSG => X9_leaves_b15 x1 x2 x3 x4 x5 v.1 v.2) mFU v
def X9_leaves (x1 : Int32) (x2 : Int32) (x3 : Int32) (s : mSG) : Option mSG :=
  (X9_leaves_l15 x1 x2 x3 (x2 / 10) (x2 - x2 / 10 * 10) (0, s)).bind (fun e15 =>
  some e15)
def X9_seeks_b3 (x1 : Int32) (x2 : Int32) (x3 : Int32) (x4 : Int32) (s : mSG) : Option ((Int32 × mSG) ⊕ mSG) :=
  if 80 ≤ x4 then
    some (.inr s)
  else
    if mInb x4 80 = true then
      some (.inl (x4 + 1, sI (sI (sI s 69 x4.toNatClampNeg 99999999) 70 x4.toNatClampNeg (-1)) 71 x4.toNatClampNeg 0))
    else none
def X9_seeks_l3 (x1 : Int32) (x2 : Int32) (x3 : Int32) (v : Int32 × mSG) : Option mSG :=
  iter (fun v : Int32 × mSG => X9_seeks_b3 x1 x2 x3 v.1 v.2) mFU v
def X9_seeks_j135_78 (x1 : Int32) (x2 : Int32) (x3 : Int32) (x5 : Int32) (x6 : Int32) (s : mSG) : Option ((Int32 × Int32) ⊕ Int32) :=
  some (.inl (x5, x6 + 1))
def X9_seeks_j131_78 (x1 : Int32) (x2 : Int32) (x3 : Int32) (x6 : Int32) (s : mSG) : Option ((Int32 × Int32) ⊕ Int32) :=
  X9_seeks_j135_78 x1 x2 x3 x6 x6 s
def X9_seeks_b78 (x1 : Int32) (x2 : Int32) (x3 : Int32) (x5 : Int32) (x6 : Int32) (s : mSG) : Option ((Int32 × Int32) ⊕ Int32) :=
  if 80 ≤ x6 then
    some (.inr x5)
  else
    if mInb x6 80 = true then
      if (s.1 71 x6.toNatClampNeg) = 0 then
        if 99999999 ≤ (s.1 69 x6.toNatClampNeg) then
          X9_seeks_j135_78 x1 x2 x3 x5 x6 s
        else
          if x5 = (-1) then
            X9_seeks_j131_78 x1 x2 x3 x6 s
          else
            if mInb x5 80 = true then
              if (s.1 69 x5.toNatClampNeg) ≤ (s.1 69 x6.toNatClampNeg) then
                X9_seeks_j135_78 x1 x2 x3 x5 x6 s
              else
                X9_seeks_j131_78 x1 x2 x3 x6 s
            else none
      else
        X9_seeks_j135_78 x1 x2 x3 x5 x6 s
    else none
def X9_seeks_l78 (x1 : Int32) (x2 : Int32) (x3 : Int32) (s : mSG) (v : Int32 × Int32) : Option Int32 :=
  iter (fun v : Int32 × Int32 => X9_seeks_b78 x1 x2 x3 v.1 v.2 s) mFU v
def X9_seeks_j175_67 (x1 : Int32) (x2 : Int32) (x3 : Int32) (x4 : Int32) (s : mSG) : Option ((Int32 × mSG) ⊕ mSG) :=
  some (.inl (x4, s))
def X9_seeks_j152_67 (x1 : Int32) (x2 : Int32) (x3 : Int32) (x5 : Int32) (p0 : Int32) (s : mSG) : Option ((Int32 × mSG) ⊕ mSG) :=
  if p0 = 0 then
    X9_seeks_j175_67 x1 x2 x3 p0 s
  else
    if mInb x5 80 = true then
      (X9_leaves x1 x5 x3 (sI s 71 x5.toNatClampNeg 1)).bind (fun r16 =>
      X9_seeks_j175_67 x1 x2 x3 p0 r16)
    else none
def X9_seeks_b67 (x1 : Int32) (x2 : Int32) (x3 : Int32) (x4 : Int32) (s : mSG) : Option ((Int32 × mSG) ⊕ mSG) :=
  if x4 = 0 then
    some (.inr s)
  else
    (X9_seeks_l78 x1 x2 x3 s ((-1), 0)).bind (fun e78 =>
    if e78 = (-1) then
      X9_seeks_j152_67 x1 x2 x3 e78 0 s
    else
      X9_seeks_j152_67 x1 x2 x3 e78 1 s)
def X9_seeks_l67 (x1 : Int32) (x2 : Int32) (x3 : Int32) (v : Int32 × mSG) : Option mSG :=
  iter (fun v : Int32 × mSG => X9_seeks_b67 x1 x2 x3 v.1 v.2) mFU v
def X9_seeks_j291_194 (x2 : Int32) (x5 : Int32) (s : mSG) : Option ((Int32 × mSG) ⊕ mSG) :=
  some (.inl (x5 + 1, s))
def X9_seeks_j269_194 (x2 : Int32) (x5 : Int32) (s : mSG) : Option ((Int32 × mSG) ⊕ mSG) :=
  if mInb x5 80 = true then
    X9_seeks_j291_194 x2 x5 (sI (sI s 56 36 (s.1 69 x5.toNatClampNeg)) 56 37 (s.1 70 x5.toNatClampNeg))
  else none
def X9_seeks_b194 (x2 : Int32) (x5 : Int32) (s : mSG) : Option ((Int32 × mSG) ⊕ mSG) :=
  if ((10 * x2) + 10) ≤ x5 then
    some (.inr s)
  else
    if mInb x5 80 = true then
      if 99999999 ≤ (s.1 69 x5.toNatClampNeg) then
        X9_seeks_j291_194 x2 x5 s
      else
        if (s.1 56 36) = (-1) then
          X9_seeks_j269_194 x2 x5 s
        else
          if (s.1 69 x5.toNatClampNeg) < (s.1 56 36) then
            X9_seeks_j269_194 x2 x5 s
          else
            if (s.1 69 x5.toNatClampNeg) = (s.1 56 36) then
              if (s.1 56 37) ≤ (s.1 70 x5.toNatClampNeg) then
                X9_seeks_j291_194 x2 x5 s
              else
                X9_seeks_j269_194 x2 x5 s
            else
              X9_seeks_j291_194 x2 x5 s
    else none
def X9_seeks_l194 (x2 : Int32) (v : Int32 × mSG) : Option mSG :=
  iter (fun v : Int32 × mSG => X9_seeks_b194 x2 v.1 v.2) mFU v
def X9_seeks (x1 : Int32) (x2 : Int32) (x3 : Int32) (s : mSG) : Option mSG :=
  (X9_seeks_l3 x1 x2 x3 (0, s)).bind (fun e3 =>
  if mInb x1 5 = true then
    if mInb ((10 * (e3.1 65 x1.toNatClampNeg)) + (e3.1 66 x1.toNatClampNeg)) 80 = true then
      (X9_seeks_l67 x1 x2 x3 (1, sI e3 69 ((10 * (e3.1 65 x1.toNatClampNeg)) + (e3.1 66 x1.toNatClampNeg)).toNatClampNeg 0)).bind (fun e67 =>
      (X9_seeks_l194 x2 (10 * x2, sI (sI e67 56 36 (-1)) 56 37 (-1))).bind (fun e194 =>
      some e194))
    else none
  else none)
def X9_soonest (x1 : Int32) (x2 : Int32) (x3 : Int32) (s : mSG) : Option (Int32 × mSG) :=
  if X9_isOne x1 s = true then
    if X9_isStone x2 = true then
      if X9_in x3.toInt64 0 1 = true then
        (X9_rainAt (s.1 56 16) s).bind (fun r1 =>
        (X9_seeks x1 x2 r1 s).bind (fun r2 =>
        if x3 = 0 then
          some (r2.1 56 36, r2)
        else
          some (r2.1 56 37, r2)))
      else
        some ((-2), s)
    else
      some ((-2), s)
  else
    some ((-2), s)
def X9_together_b87 (x1 : Int32) (x2 : Int32) (x3 : Int32) (x4 : Int32) (x5 : Int32) (x6 : Int32) (s : mSG) : Option ((Int32 × mSG) ⊕ mSG) :=
  if 8 ≤ x6 then
    some (.inr s)
  else
    if mInb x6 8 = true then
      some (.inl (x6 + 1, sI s 72 x6.toNatClampNeg (-1)))
    else none
def X9_together_l87 (x1 : Int32) (x2 : Int32) (x3 : Int32) (x4 : Int32) (x5 : Int32) (v : Int32 × mSG) : Option mSG :=
  iter (fun v : Int32 × mSG => X9_together_b87 x1 x2 x3 x4 x5 v.1 v.2) mFU v
def X9_together_j260_143 (x1 : Int32) (x2 : Int32) (x3 : Int32) (x4 : Int32) (x5 : Int32) (x6 : Int32) (x7 : Int32) (x8 : Int32) (s : mSG) : Option ((Int32 × mSG) ⊕ mSG) :=
  some (.inl (x8 + 1, s))
def X9_together_b143 (x1 : Int32) (x2 : Int32) (x3 : Int32) (x4 : Int32) (x5 : Int32) (x6 : Int32) (x7 : Int32) (x8 : Int32) (s : mSG) : Option ((Int32 × mSG) ⊕ mSG) :=
  if 8 ≤ x8 then
    some (.inr s)
  else
    if mInb x7 8 = true then
      if (s.1 72 x7.toNatClampNeg) = x6 then
        if mInb ((8 * x7) + x8) 64 = true then
          if x7 = x8 then
            X9_together_j260_143 x1 x2 x3 x4 x5 x6 x7 x8 s
          else
            if (s.1 60 ((8 * x7) + x8).toNatClampNeg) ≤ 0 then
              X9_together_j260_143 x1 x2 x3 x4 x5 x6 x7 x8 s
            else
              if mInb x8 8 = true then
                if (s.1 72 x8.toNatClampNeg) = (-1) then
                  if mInb x1 5 = true then
                    (X9_says 0 x1 (s.1 66 x1.toNatClampNeg) x4 x7 x8 s).bind (fun r22 =>
                    if mInb x2 5 = true then
                      (X9_says 0 x2 (r22.2.1 66 x2.toNatClampNeg) x4 x7 x8 r22.2).bind (fun r24 =>
                      if x5 < (((s.1 60 ((8 * x7) + x8).toNatClampNeg) + r22.1) + r24.1) then
                        X9_together_j260_143 x1 x2 x3 x4 x5 x6 x7 x8 r24.2
                      else
                        X9_together_j260_143 x1 x2 x3 x4 x5 x6 x7 x8 (sI r24.2 72 x8.toNatClampNeg (x6 + 1)))
                    else none)
                  else none
                else
                  X9_together_j260_143 x1 x2 x3 x4 x5 x6 x7 x8 s
              else none
        else none
      else
        some (.inr s)
    else none
def X9_together_l143 (x1 : Int32) (x2 : Int32) (x3 : Int32) (x4 : Int32) (x5 : Int32) (x6 : Int32) (x7 : Int32) (v : Int32 × mSG) : Option mSG :=
  iter (fun v : Int32 × mSG => X9_together_b143 x1 x2 x3 x4 x5 x6 x7 v.1 v.2) mFU v
def X9_together_j266_133 (x1 : Int32) (x2 : Int32) (x3 : Int32) (x4 : Int32) (x5 : Int32) (x6 : Int32) (x7 : Int32) (s : mSG) : Option ((Int32 × mSG) ⊕ mSG) :=
  some (.inl (x7 + 1, s))
def X9_together_b133 (x1 : Int32) (x2 : Int32) (x3 : Int32) (x4 : Int32) (x5 : Int32) (x6 : Int32) (x7 : Int32) (s : mSG) : Option ((Int32 × mSG) ⊕ mSG) :=
  if 8 ≤ x7 then
    some (.inr s)
  else
    (X9_together_l143 x1 x2 x3 x4 x5 x6 x7 (0, s)).bind (fun e143 =>
    X9_together_j266_133 x1 x2 x3 x4 x5 x6 x7 e143)
def X9_together_l133 (x1 : Int32) (x2 : Int32) (x3 : Int32) (x4 : Int32) (x5 : Int32) (x6 : Int32) (v : Int32 × mSG) : Option mSG :=
  iter (fun v : Int32 × mSG => X9_together_b133 x1 x2 x3 x4 x5 x6 v.1 v.2) mFU v
def X9_together_b123 (x1 : Int32) (x2 : Int32) (x3 : Int32) (x4 : Int32) (x5 : Int32) (x6 : Int32) (s : mSG) : Option ((Int32 × mSG) ⊕ mSG) :=
  if 8 ≤ x6 then
    some (.inr s)
  else
    (X9_together_l133 x1 x2 x3 x4 x5 x6 (0, s)).bind (fun e133 =>
    some (.inl (x6 + 1, e133)))
def X9_together_l123 (x1 : Int32) (x2 : Int32) (x3 : Int32) (x4 : Int32) (x5 : Int32) (v : Int32 × mSG) : Option mSG :=
  iter (fun v : Int32 × mSG => X9_together_b123 x1 x2 x3 x4 x5 v.1 v.2) mFU v
def X9_together (x1 : Int32) (x2 : Int32) (x3 : Int32) (s : mSG) : Option (Int32 × mSG) :=
  if X9_isOne x1 s = true then
    if X9_isOne x2 s = true then
      if x1 = x2 then
        some ((-2), s)
      else
        if X9_isStone x3 = true then
          if mInb x1 5 = true then
            if mInb x2 5 = true then
              if (s.1 65 x1.toNatClampNeg) = (s.1 65 x2.toNatClampNeg) then
                (X9_rainAt (s.1 56 16) s).bind (fun r5 =>
                (X9_reaches x1 (s.1 66 x1.toNatClampNeg) s).bind (fun r6 =>
                (X9_reaches x2 (s.1 66 x2.toNatClampNeg) s).bind (fun r7 =>
                (X9_together_l87 x1 x2 x3 r5 (r6 + r7) (0, s)).bind (fun e87 =>
                if mInb (e87.1 65 x1.toNatClampNeg) 8 = true then
                  (X9_together_l123 x1 x2 x3 r5 (r6 + r7) (0, sI e87 72 (e87.1 65 x1.toNatClampNeg).toNatClampNeg 0)).bind (fun e123 =>
                  if mInb x3 8 = true then
                    some (e123.1 72 x3.toNatClampNeg, e123)
                  else none)
                else none))))
              else
                some ((-3), s)
            else none
          else none
        else
          some ((-2), s)
    else
      some ((-2), s)
  else
    some ((-2), s)
def X9_lend (x1 : Int32) (x2 : Int32) (x3 : Int32) (s : mSG) : Option (Int32 × mSG) :=
  if X9_isOne x1 s = true then
    if X9_isOne x2 s = true then
      if x1 = x2 then
        some ((-2), s)
      else
        if X9_in x3.toInt64 1 99 = true then
          if mInb x1 5 = true then
            if mInb x2 5 = true then
              if (s.1 65 x1.toNatClampNeg) = (s.1 65 x2.toNatClampNeg) then
                if (s.1 63 x1.toNatClampNeg) < x3 then
                  some ((-3), s)
                else
                  if 99 < ((s.1 63 x2.toNatClampNeg) + x3) then
                    some ((-3), s)
                  else
                    if mInb ((5 * x2) + x1) 25 = true then
                      if ((s.1 67 ((5 * x2) + x1).toNatClampNeg) + x3) ≤ 99 then
                        (X9_rainAt (s.1 56 16) s).bind (fun r9 =>
                        (X9_says 2 x1 (s.1 66 x1.toNatClampNeg) r9 (s.1 65 x1.toNatClampNeg) (s.1 65 x1.toNatClampNeg) s).bind (fun r10 =>
                        some (x3 * r10.1, sI (sI (sI r10.2 63 x1.toNatClampNeg ((r10.2.1 63 x1.toNatClampNeg) - x3)) 63 x2.toNatClampNeg (((sI r10.2 63 x1.toNatClampNeg ((r10.2.1 63 x1.toNatClampNeg) - x3)).1 63 x2.toNatClampNeg) + x3)) 67 ((5 * x2) + x1).toNatClampNeg ((r10.2.1 67 ((5 * x2) + x1).toNatClampNeg) + x3))))
                      else
                        some ((-3), s)
                    else none
              else
                some ((-3), s)
            else none
          else none
        else
          some ((-2), s)
    else
      some ((-2), s)
  else
    some ((-2), s)
def X9_owed (x1 : Int32) (x2 : Int32) (s : mSG) : Option Int32 :=
  if X9_isOne x1 s = true then
    if X9_isOne x2 s = true then
      if mInb ((5 * x1) + x2) 25 = true then
        some (s.1 67 ((5 * x1) + x2).toNatClampNeg)
      else none
    else
      some (-2)
  else
    some (-2)
def X9_takesRing_j81 (x4 : Int32) (x5 : Int32) (x6 : Int32) (p0 : Int32) (s : mSG) : Option (Int32 × mSG) :=
  if mInb x4 25 = true then
    if mInb x5 25 = true then
      if mInb x6 25 = true then
        some (p0, sI (sI (sI s 67 x4.toNatClampNeg ((s.1 67 x4.toNatClampNeg) - p0)) 67 x5.toNatClampNeg (((sI s 67 x4.toNatClampNeg ((s.1 67 x4.toNatClampNeg) - p0)).1 67 x5.toNatClampNeg) - p0)) 67 x6.toNatClampNeg (((sI (sI s 67 x4.toNatClampNeg ((s.1 67 x4.toNatClampNeg) - p0)) 67 x5.toNatClampNeg (((sI s 67 x4.toNatClampNeg ((s.1 67 x4.toNatClampNeg) - p0)).1 67 x5.toNatClampNeg) - p0)).1 67 x6.toNatClampNeg) - p0))
      else none
    else none
  else none
def X9_takesRing_j55 (x4 : Int32) (x5 : Int32) (x6 : Int32) (p0 : Int32) (s : mSG) : Option (Int32 × mSG) :=
  if mInb x6 25 = true then
    if p0 ≤ (s.1 67 x6.toNatClampNeg) then
      X9_takesRing_j81 x4 x5 x6 p0 s
    else
      X9_takesRing_j81 x4 x5 x6 (s.1 67 x6.toNatClampNeg) s
  else none
def X9_takesRing (x1 : Int32) (x2 : Int32) (x3 : Int32) (s : mSG) : Option (Int32 × mSG) :=
  if mInb ((5 * x1) + x2) 25 = true then
    if mInb ((5 * x2) + x3) 25 = true then
      if (s.1 67 ((5 * x2) + x3).toNatClampNeg) ≤ (s.1 67 ((5 * x1) + x2).toNatClampNeg) then
        X9_takesRing_j55 ((5 * x1) + x2) ((5 * x2) + x3) ((5 * x3) + x1) (s.1 67 ((5 * x2) + x3).toNatClampNeg) s
      else
        X9_takesRing_j55 ((5 * x1) + x2) ((5 * x2) + x3) ((5 * x3) + x1) (s.1 67 ((5 * x1) + x2).toNatClampNeg) s
    else none
  else none
def X9_rings_j72_16 (x1 : Int32) (x2 : Int32) (x3 : Int32) (x4 : Int32) (x5 : Int32) (p0 : Int32) (s : mSG) : Option ((Int32 × Int32 × mSG) ⊕ Int32 × mSG) :=
  if mInb x4 25 = true then
    if mInb x5 25 = true then
      some (.inl (x1 + p0, x3 + 1, sI (sI s 67 x4.toNatClampNeg ((s.1 67 x4.toNatClampNeg) - p0)) 67 x5.toNatClampNeg (((sI s 67 x4.toNatClampNeg ((s.1 67 x4.toNatClampNeg) - p0)).1 67 x5.toNatClampNeg) - p0)))
    else none
  else none
def X9_rings_b16 (x2 : Int32) (x1 : Int32) (x3 : Int32) (s : mSG) : Option ((Int32 × Int32 × mSG) ⊕ Int32 × mSG) :=
  if (s.1 56 15) ≤ x3 then
    some (.inr (x1, s))
  else
    if mInb ((5 * x2) + x3) 25 = true then
      if mInb ((5 * x3) + x2) 25 = true then
        if (s.1 67 ((5 * x3) + x2).toNatClampNeg) ≤ (s.1 67 ((5 * x2) + x3).toNatClampNeg) then
          X9_rings_j72_16 x1 x2 x3 ((5 * x2) + x3) ((5 * x3) + x2) (s.1 67 ((5 * x3) + x2).toNatClampNeg) s
        else
          X9_rings_j72_16 x1 x2 x3 ((5 * x2) + x3) ((5 * x3) + x2) (s.1 67 ((5 * x2) + x3).toNatClampNeg) s
      else none
    else none
def X9_rings_l16 (x2 : Int32) (v : Int32 × Int32 × mSG) : Option (Int32 × mSG) :=
  iter (fun v : Int32 × Int32 × mSG => X9_rings_b16 x2 v.1 v.2.1 v.2.2) mFU v
def X9_rings_b4 (x1 : Int32) (x2 : Int32) (s : mSG) : Option ((Int32 × Int32 × mSG) ⊕ Int32 × mSG) :=
  if (s.1 56 15) ≤ x2 then
    some (.inr (x1, s))
  else
    (X9_rings_l16 x2 (x1, x2 + 1, s)).bind (fun e16 =>
    some (.inl (e16.1, x2 + 1, e16.2)))
def X9_rings_l4 (v : Int32 × Int32 × mSG) : Option (Int32 × mSG) :=
  iter (fun v : Int32 × Int32 × mSG => X9_rings_b4 v.1 v.2.1 v.2.2) mFU v
def X9_rings_b142 (x2 : Int32) (x3 : Int32) (x1 : Int32) (x4 : Int32) (s : mSG) : Option ((Int32 × Int32 × mSG) ⊕ Int32 × mSG) :=
  if (s.1 56 15) ≤ x4 then
    some (.inr (x1, s))
  else
    (X9_takesRing x2 x3 x4 s).bind (fun r11 =>
    (X9_takesRing x2 x4 x3 r11.2).bind (fun r12 =>
    some (.inl ((x1 + r11.1) + r12.1, x4 + 1, r12.2))))
def X9_rings_l142 (x2 : Int32) (x3 : Int32) (v : Int32 × Int32 × mSG) : Option (Int32 × mSG) :=
  iter (fun v : Int32 × Int32 × mSG => X9_rings_b142 x2 x3 v.1 v.2.1 v.2.2) mFU v
def X9_rings_b129 (x2 : Int32) (x1 : Int32) (x3 : Int32) (s : mSG) : Option ((Int32 × Int32 × mSG) ⊕ Int32 × mSG) :=
  if (s.1 56 15) ≤ x3 then
    some (.inr (x1, s))
  else
    (X9_rings_l142 x2 x3 (x1, x3 + 1, s)).bind (fun e142 =>
    some (.inl (e142.1, x3 + 1, e142.2)))
def X9_rings_l129 (x2 : Int32) (v : Int32 × Int32 × mSG) : Option (Int32 × mSG) :=
  iter (fun v : Int32 × Int32 × mSG => X9_rings_b129 x2 v.1 v.2.1 v.2.2) mFU v
def X9_rings_b117 (x1 : Int32) (x2 : Int32) (s : mSG) : Option ((Int32 × Int32 × mSG) ⊕ Int32 × mSG) :=
  if (s.1 56 15) ≤ x2 then
    some (.inr (x1, s))
  else
    (X9_rings_l129 x2 (x1, x2 + 1, s)).bind (fun e129 =>
    some (.inl (e129.1, x2 + 1, e129.2)))
def X9_rings_l117 (v : Int32 × Int32 × mSG) : Option (Int32 × mSG) :=
  iter (fun v : Int32 × Int32 × mSG => X9_rings_b117 v.1 v.2.1 v.2.2) mFU v
def X9_rings (s : mSG) : Option (Int32 × mSG) :=
  (X9_rings_l4 (0, 0, s)).bind (fun e4 =>
  (X9_rings_l117 (e4.1, 0, e4.2)).bind (fun e117 =>
  some (e117.1, e117.2)))
def X9_shaken_b54 (x1 : Int32) (x2 : Int32) (x3 : Int32) (x4 : Int32) (s : mSG) : Option ((Int32 × mSG) ⊕ mSG) :=
  if 800 ≤ x4 then
    some (.inr s)
  else
    if mInb x4 800 = true then
      some (.inl (x4 + 1, sI s 73 x4.toNatClampNeg (-1)))
    else none
def X9_shaken_l54 (x1 : Int32) (x2 : Int32) (x3 : Int32) (v : Int32 × mSG) : Option mSG :=
  iter (fun v : Int32 × mSG => X9_shaken_b54 x1 x2 x3 v.1 v.2) mFU v
def X9_shaken_j269_132 (x1 : Int32) (x2 : Int32) (x3 : Int32) (x4 : Int32) (x5 : Int32) (x6 : Int32) (s : mSG) : Option ((Int32 × mSG) ⊕ (mSG ⊕ mSG)) :=
  some (.inl (x6 + 1, s))
def X9_shaken_j268_132 (x1 : Int32) (x2 : Int32) (x3 : Int32) (x4 : Int32) (x5 : Int32) (x6 : Int32) (p1 : Int32) (p2 : Int32) (s : mSG) : Option ((Int32 × mSG) ⊕ (mSG ⊕ mSG)) :=
  if mInb p1 800 = true then
    X9_shaken_j269_132 x1 x2 x3 x4 x5 x6 (sI s 73 p1.toNatClampNeg p2)
  else none
def X9_shaken_b132 (x1 : Int32) (x2 : Int32) (x3 : Int32) (x4 : Int32) (x5 : Int32) (x6 : Int32) (s : mSG) : Option ((Int32 × mSG) ⊕ (mSG ⊕ mSG)) :=
  if 8 ≤ x6 then
    some (.inr (.inr s))
  else
    if mInb x5 800 = true then
      if (s.1 73 x5.toNatClampNeg) = x4 then
        (X9_canGo x1 ((x5 / 10) - (x5 / 10) / 10 * 10) x3 (x5 / 100) x6 s).bind (fun r14 =>
        if r14.1 = true then
          (X9_canGo x2 (x5 - x5 / 10 * 10) x3 (x5 / 100) x6 r14.2).bind (fun r15 =>
          if r15.1 = true then
            (X9_soaks x1 ((x5 / 10) - (x5 / 10) / 10 * 10) x3 r15.2).bind (fun r16 =>
            (X9_soaks x2 (x5 - x5 / 10 * 10) x3 r15.2).bind (fun r17 =>
            if mInb (((100 * x6) + (10 * r16)) + r17) 800 = true then
              if (r15.2.1 73 (((100 * x6) + (10 * r16)) + r17).toNatClampNeg) = (-1) then
                X9_shaken_j268_132 x1 x2 x3 x4 x5 x6 (((100 * x6) + (10 * r16)) + r17) (x4 + 1) r15.2
              else
                X9_shaken_j268_132 x1 x2 x3 x4 x5 x6 (((100 * x6) + (10 * r16)) + r17) (r15.2.1 73 (((100 * x6) + (10 * r16)) + r17).toNatClampNeg) r15.2
            else none))
          else
            some (.inr (.inl r15.2)))
        else
          X9_shaken_j269_132 x1 x2 x3 x4 x5 x6 r14.2)
      else
        some (.inr (.inr s))
    else none
def X9_shaken_l132 (x1 : Int32) (x2 : Int32) (x3 : Int32) (x4 : Int32) (x5 : Int32) (v : Int32 × mSG) : Option (mSG ⊕ mSG) :=
  iter (fun v : Int32 × mSG => X9_shaken_b132 x1 x2 x3 x4 x5 v.1 v.2) mFU v
def X9_shaken_j275_121 (x1 : Int32) (x2 : Int32) (x3 : Int32) (x4 : Int32) (x5 : Int32) (s : mSG) : Option ((Int32 × mSG) ⊕ (mSG ⊕ mSG)) :=
  some (.inl (x5 + 1, s))
def X9_shaken_b121 (x1 : Int32) (x2 : Int32) (x3 : Int32) (x4 : Int32) (x5 : Int32) (s : mSG) : Option ((Int32 × mSG) ⊕ (mSG ⊕ mSG)) :=
  if 800 ≤ x5 then
    some (.inr (.inr s))
  else
    (X9_shaken_l132 x1 x2 x3 x4 x5 (0, s)).bind (fun e132 =>
    Sum.elim (fun e132_0 =>
      some (.inr (.inl e132_0))) (fun e132_1 =>
      X9_shaken_j275_121 x1 x2 x3 x4 x5 e132_1) e132)
def X9_shaken_l121 (x1 : Int32) (x2 : Int32) (x3 : Int32) (x4 : Int32) (v : Int32 × mSG) : Option (mSG ⊕ mSG) :=
  iter (fun v : Int32 × mSG => X9_shaken_b121 x1 x2 x3 x4 v.1 v.2) mFU v
def X9_shaken_b111 (x1 : Int32) (x2 : Int32) (x3 : Int32) (x4 : Int32) (s : mSG) : Option ((Int32 × mSG) ⊕ ((Int32 × mSG) ⊕ mSG)) :=
  if 8 ≤ x4 then
    some (.inr (.inr s))
  else
    (X9_shaken_l121 x1 x2 x3 x4 (0, s)).bind (fun e121 =>
    Sum.elim (fun e121_0 =>
      some (.inr (.inl (x4, e121_0)))) (fun e121_1 =>
      some (.inl (x4 + 1, e121_1))) e121)
def X9_shaken_l111 (x1 : Int32) (x2 : Int32) (x3 : Int32) (v : Int32 × mSG) : Option ((Int32 × mSG) ⊕ mSG) :=
  iter (fun v : Int32 × mSG => X9_shaken_b111 x1 x2 x3 v.1 v.2) mFU v
def X9_shaken (x1 : Int32) (x2 : Int32) (s : mSG) : Option (Int32 × mSG) :=
  if X9_isOne x1 s = true then
    if X9_isOne x2 s = true then
      if x1 = x2 then
        some ((-2), s)
      else
        if mInb x1 5 = true then
          if mInb x2 5 = true then
            if (s.1 65 x1.toNatClampNeg) = (s.1 65 x2.toNatClampNeg) then
              (X9_rainAt (s.1 56 16) s).bind (fun r5 =>
              (X9_shaken_l54 x1 x2 r5 (0, s)).bind (fun e54 =>
              if mInb (((100 * (e54.1 65 x1.toNatClampNeg)) + (10 * (e54.1 66 x1.toNatClampNeg))) + (e54.1 66 x2.toNatClampNeg)) 800 = true then
                (X9_shaken_l111 x1 x2 r5 (0, sI e54 73 (((100 * (e54.1 65 x1.toNatClampNeg)) + (10 * (e54.1 66 x1.toNatClampNeg))) + (e54.1 66 x2.toNatClampNeg)).toNatClampNeg 0)).bind (fun e111 =>
                Sum.elim (fun e111_0 =>
                  some (e111_0.1 + 1, e111_0.2)) (fun e111_1 =>
                  some ((-1), e111_1)) e111)
              else none))
            else
              some ((-3), s)
          else none
        else none
    else
      some ((-2), s)
  else
    some ((-2), s)
def X9_isSheet (x0 : Int32) : Bool :=
  X9_in x0.toInt64 0 3
def X9_prints_b24 (x1 : Int32) (x2 : Int32) (s : mSG) : Option (Int32 ⊕ (Unit ⊕ Unit)) :=
  if mInb x1 4 = true then
    if (s.1 82 x1.toNatClampNeg) ≤ x2 then
      some (.inr (.inr ()))
    else
      if mInb ((40 * x1) + x2) 160 = true then
        if X9_isStone (s.1 83 ((40 * x1) + x2).toNatClampNeg) = true then
          some (.inl (x2 + 1))
        else
          some (.inr (.inl ()))
      else none
  else none
def X9_prints_l24 (x1 : Int32) (s : mSG) (v : Int32) : Option (Unit ⊕ Unit) :=
  iter (fun v : Int32 => X9_prints_b24 x1 v s) mFU v
def X9_prints_j170_111 (x1 : Int32) (x2 : Int32) (x3 : Int32) (x4 : Int32) (x5 : Int32) (x7 : Int32) (p0 : Int32) (s : mSG) : Option ((Int32 × Int32 × Int32 × mSG) ⊕ Int32 × mSG) :=
  (X9_soaks x4 x5 x2 s).bind (fun r16 =>
  some (.inl (r16, p0, x7 + 1, s)))
def X9_prints_j169_111 (x1 : Int32) (x2 : Int32) (x3 : Int32) (x4 : Int32) (x5 : Int32) (x7 : Int32) (s : mSG) : Option ((Int32 × Int32 × Int32 × mSG) ⊕ Int32 × mSG) :=
  X9_prints_j170_111 x1 x2 x3 x4 x5 x7 0 s
def X9_prints_b111 (x1 : Int32) (x2 : Int32) (x3 : Int32) (x4 : Int32) (x5 : Int32) (x6 : Int32) (x7 : Int32) (s : mSG) : Option ((Int32 × Int32 × Int32 × mSG) ⊕ Int32 × mSG) :=
  if mInb x1 4 = true then
    if (s.1 82 x1.toNatClampNeg) ≤ x7 then
      some (.inr (x6, s))
    else
      if x6 = 0 then
        X9_prints_j169_111 x1 x2 x3 x4 x5 x7 s
      else
        if mInb (((40 * x1) + x7) - 1) 160 = true then
          if mInb ((40 * x1) + x7) 160 = true then
            (X9_canGo x4 x5 x2 (s.1 83 (((40 * x1) + x7) - 1).toNatClampNeg) (s.1 83 ((40 * x1) + x7).toNatClampNeg) s).bind (fun r15 =>
            if r15.1 = true then
              X9_prints_j170_111 x1 x2 x3 x4 x5 x7 1 r15.2
            else
              X9_prints_j169_111 x1 x2 x3 x4 x5 x7 r15.2)
          else none
        else none
  else none
def X9_prints_l111 (x1 : Int32) (x2 : Int32) (x3 : Int32) (x4 : Int32) (v : Int32 × Int32 × Int32 × mSG) : Option (Int32 × mSG) :=
  iter (fun v : Int32 × Int32 × Int32 × mSG => X9_prints_b111 x1 x2 x3 x4 v.1 v.2.1 v.2.2.1 v.2.2.2) mFU v
def X9_prints_j200_87 (x1 : Int32) (x2 : Int32) (x4 : Int32) (p0 : Int32) (p1 : Int32) (s : mSG) : Option ((Int32 × Int32 × mSG) ⊕ Int32 × mSG) :=
  some (.inl (p0 ||| (p1 <<< (x4 &&& 31)), x4 + 1, s))
def X9_prints_b87 (x1 : Int32) (x2 : Int32) (x3 : Int32) (x4 : Int32) (s : mSG) : Option ((Int32 × Int32 × mSG) ⊕ Int32 × mSG) :=
  if (s.1 56 15) ≤ x4 then
    some (.inr (x3, s))
  else
    if mInb x4 5 = true then
      (X9_prints_l111 x1 x2 x3 x4 (s.1 66 x4.toNatClampNeg, 1, 1, s)).bind (fun e111 =>
      if e111.1 = 0 then
        X9_prints_j200_87 x1 x2 x4 x3 0 e111.2
      else
        X9_prints_j200_87 x1 x2 x4 x3 1 e111.2)
    else none
def X9_prints_l87 (x1 : Int32) (x2 : Int32) (v : Int32 × Int32 × mSG) : Option (Int32 × mSG) :=
  iter (fun v : Int32 × Int32 × mSG => X9_prints_b87 x1 x2 v.1 v.2.1 v.2.2) mFU v
def X9_prints (x1 : Int32) (s : mSG) : Option (Int32 × mSG) :=
  if X9_isSheet x1 = true then
    if mInb x1 4 = true then
      if (s.1 80 x1.toNatClampNeg) = 0 then
        some ((-11), s)
      else
        (X9_prints_l24 x1 s 0).bind (fun e24 =>
        Sum.elim (fun e24_0 =>
          some ((-2), s)) (fun e24_1 =>
          if 2 ≤ (s.1 82 x1.toNatClampNeg) then
            (X9_rainAt (s.1 56 16) s).bind (fun r7 =>
            (X9_prints_l87 x1 r7 (0, 0, s)).bind (fun e87 =>
            some (e87.1, e87.2)))
          else
            some ((-2), s)) e24)
    else none
  else
    some ((-2), s)
def X9_out_j100_37 (x1 : Int32) (x2 : Int32) (x3 : Int32) (x4 : Int32) (x5 : Int32) (x6 : Int32) (s : mSG) : Option ((Int32 × Int32 × Int32 × mSG) ⊕ Int32 × Int32 × mSG) :=
  some (.inl (x4, x5, x6 + 1, s))
def X9_out_j87_37 (x1 : Int32) (x2 : Int32) (x3 : Int32) (x6 : Int32) (s : mSG) : Option ((Int32 × Int32 × Int32 × mSG) ⊕ Int32 × Int32 × mSG) :=
  X9_out_j100_37 x1 x2 x3 x6 (x6 + (s.1 56 36)) x6 s
def X9_out_b37 (x1 : Int32) (x2 : Int32) (x3 : Int32) (x4 : Int32) (x5 : Int32) (x6 : Int32) (s : mSG) : Option ((Int32 × Int32 × Int32 × mSG) ⊕ Int32 × Int32 × mSG) :=
  if 24 ≤ x6 then
    some (.inr (x4, x5, s))
  else
    (X9_rainAt ((s.1 56 16) + x6) s).bind (fun r2 =>
    (X9_seeks x1 x2 r2 s).bind (fun r3 =>
    if (r3.1 56 36) = (-1) then
      X9_out_j100_37 x1 x2 x3 x4 x5 x6 r3
    else
      if x4 = (-1) then
        X9_out_j87_37 x1 x2 x3 x6 r3
      else
        if x5 ≤ (x6 + (r3.1 56 36)) then
          X9_out_j100_37 x1 x2 x3 x4 x5 x6 r3
        else
          X9_out_j87_37 x1 x2 x3 x6 r3))
def X9_out_l37 (x1 : Int32) (x2 : Int32) (x3 : Int32) (v : Int32 × Int32 × Int32 × mSG) : Option (Int32 × Int32 × mSG) :=
  iter (fun v : Int32 × Int32 × Int32 × mSG => X9_out_b37 x1 x2 x3 v.1 v.2.1 v.2.2.1 v.2.2.2) mFU v
def X9_out (x1 : Int32) (x2 : Int32) (x3 : Int32) (s : mSG) : Option (Int32 × mSG) :=
  if X9_isOne x1 s = true then
    if X9_isStone x2 = true then
      if X9_in x3.toInt64 0 1 = true then
        (X9_out_l37 x1 x2 x3 ((-1), (-1), 0, s)).bind (fun e37 =>
        if x3 = 0 then
          some (e37.1, e37.2.2)
        else
          some (e37.2.1, e37.2.2))
      else
        some ((-2), s)
    else
      some ((-2), s)
  else
    some ((-2), s)
def X9_road_j146_86 (x1 : Int32) (x2 : Int32) (x3 : Int32) (x4 : Int32) (x5 : Int32) (x6 : Int32) (x7 : Int32) (x8 : Int32) (x9 : Int32) (x11 : Int32) (p0 : Int32) (p1 : Int32) (s : mSG) : Option ((Int32 × Int32 × Int32 × mSG) ⊕ Int32 × Int32 × mSG) :=
  some (.inl (x9, p0 + p1, x11 + 1, s))
def X9_road_j125_86 (x1 : Int32) (x2 : Int32) (x3 : Int32) (x4 : Int32) (x5 : Int32) (x6 : Int32) (x7 : Int32) (x8 : Int32) (x10 : Int32) (x11 : Int32) (p0 : Int32) (p1 : Int32) (s : mSG) : Option ((Int32 × Int32 × Int32 × mSG) ⊕ Int32 × Int32 × mSG) :=
  if (s.1 56 36) = (-1) then
    X9_road_j146_86 x1 x2 x3 x4 x5 x6 x7 x8 (p0 + p1) x11 x10 0 s
  else
    X9_road_j146_86 x1 x2 x3 x4 x5 x6 x7 x8 (p0 + p1) x11 x10 (s.1 56 36) s
def X9_road_b86 (x1 : Int32) (x2 : Int32) (x3 : Int32) (x4 : Int32) (x5 : Int32) (x6 : Int32) (x7 : Int32) (x8 : Int32) (x9 : Int32) (x10 : Int32) (x11 : Int32) (s : mSG) : Option ((Int32 × Int32 × Int32 × mSG) ⊕ Int32 × Int32 × mSG) :=
  if (s.1 56 15) ≤ x11 then
    some (.inr (x9, x10, s))
  else
    (X9_rainAt (s.1 56 16) s).bind (fun r6 =>
    (X9_seeks x11 x1 r6 s).bind (fun r7 =>
    if (r7.1 56 36) = (-1) then
      X9_road_j125_86 x1 x2 x3 x4 x5 x6 x7 x8 x10 x11 x9 0 r7
    else
      X9_road_j125_86 x1 x2 x3 x4 x5 x6 x7 x8 x10 x11 x9 1 r7))
def X9_road_l86 (x1 : Int32) (x2 : Int32) (x3 : Int32) (x4 : Int32) (x5 : Int32) (x6 : Int32) (x7 : Int32) (x8 : Int32) (v : Int32 × Int32 × Int32 × mSG) : Option (Int32 × Int32 × mSG) :=
  iter (fun v : Int32 × Int32 × Int32 × mSG => X9_road_b86 x1 x2 x3 x4 x5 x6 x7 x8 v.1 v.2.1 v.2.2.1 v.2.2.2) mFU v
def X9_road_j203_46 (x1 : Int32) (x2 : Int32) (x3 : Int32) (x4 : Int32) (x5 : Int32) (x6 : Int32) (x7 : Int32) (s : mSG) : Option ((Int32 × Int32 × Int32 × Int32 × mSG) ⊕ Int32 × Int32 × Int32 × mSG) :=
  some (.inl (x3, x4, x5, x7 + 1, s))
def X9_road_j186_46 (x1 : Int32) (x2 : Int32) (x6 : Int32) (x7 : Int32) (x9 : Int32) (x10 : Int32) (s : mSG) : Option ((Int32 × Int32 × Int32 × Int32 × mSG) ⊕ Int32 × Int32 × Int32 × mSG) :=
  X9_road_j203_46 x1 x2 ((10 * x6) + x7) x9 x10 x6 x7 s
def X9_road_b46 (x1 : Int32) (x2 : Int32) (x6 : Int32) (x3 : Int32) (x4 : Int32) (x5 : Int32) (x7 : Int32) (s : mSG) : Option ((Int32 × Int32 × Int32 × Int32 × mSG) ⊕ Int32 × Int32 × Int32 × mSG) :=
  if 8 ≤ x7 then
    some (.inr (x3, x4, x5, s))
  else
    if mInb ((8 * x6) + x7) 64 = true then
      (X9_muddy x6 x7 1 s).bind (fun r4 =>
      (X9_road_l86 x1 x2 x3 x4 x5 x6 x7 (s.1 60 ((8 * x6) + x7).toNatClampNeg) (0, 0, 0, r4)).bind (fun e86 =>
      (X9_muddy x6 x7 (s.1 60 ((8 * x6) + x7).toNatClampNeg) e86.2.2).bind (fun r10 =>
      if x4 < e86.1 then
        X9_road_j186_46 x1 x2 x6 x7 e86.1 e86.2.1 r10
      else
        if e86.1 = x4 then
          if x5 ≤ e86.2.1 then
            X9_road_j203_46 x1 x2 x3 x4 x5 x6 x7 r10
          else
            X9_road_j186_46 x1 x2 x6 x7 e86.1 e86.2.1 r10
        else
          X9_road_j203_46 x1 x2 x3 x4 x5 x6 x7 r10)))
    else none
def X9_road_l46 (x1 : Int32) (x2 : Int32) (x6 : Int32) (v : Int32 × Int32 × Int32 × Int32 × mSG) : Option (Int32 × Int32 × Int32 × mSG) :=
  iter (fun v : Int32 × Int32 × Int32 × Int32 × mSG => X9_road_b46 x1 x2 x6 v.1 v.2.1 v.2.2.1 v.2.2.2.1 v.2.2.2.2) mFU v
def X9_road_b33 (x1 : Int32) (x2 : Int32) (x3 : Int32) (x4 : Int32) (x5 : Int32) (x6 : Int32) (s : mSG) : Option ((Int32 × Int32 × Int32 × Int32 × mSG) ⊕ Int32 × Int32 × Int32 × mSG) :=
  if 8 ≤ x6 then
    some (.inr (x3, x4, x5, s))
  else
    (X9_road_l46 x1 x2 x6 (x3, x4, x5, x6 + 1, s)).bind (fun e46 =>
    some (.inl (e46.1, e46.2.1, e46.2.2.1, x6 + 1, e46.2.2.2)))
def X9_road_l33 (x1 : Int32) (x2 : Int32) (v : Int32 × Int32 × Int32 × Int32 × mSG) : Option (Int32 × Int32 × Int32 × mSG) :=
  iter (fun v : Int32 × Int32 × Int32 × Int32 × mSG => X9_road_b33 x1 x2 v.1 v.2.1 v.2.2.1 v.2.2.2.1 v.2.2.2.2) mFU v
def X9_road (x1 : Int32) (x2 : Int32) (s : mSG) : Option (Int32 × mSG) :=
  if X9_isStone x1 = true then
    if X9_in x2.toInt64 0 2 = true then
      (X9_road_l33 x1 x2 (1, (-1), 0, 0, s)).bind (fun e33 =>
      if x2 = 0 then
        some (e33.1, e33.2.2.2)
      else
        if x2 = 1 then
          some (e33.2.1, e33.2.2.2)
        else
          some (e33.2.2.1, e33.2.2.2))
    else
      some ((-2), s)
  else
    some ((-2), s)
def X9_laysAside_b2 (x1 : Int32) (s : mSG) : Option ((Int32 × mSG) ⊕ mSG) :=
  if 5 ≤ x1 then
    some (.inr s)
  else
    if mInb x1 5 = true then
      some (.inl (x1 + 1, sI (sI s 74 x1.toNatClampNeg (s.1 65 x1.toNatClampNeg)) 75 x1.toNatClampNeg (s.1 66 x1.toNatClampNeg)))
    else none
def X9_laysAside_l2 (v : Int32 × mSG) : Option mSG :=
  iter (fun v : Int32 × mSG => X9_laysAside_b2 v.1 v.2) mFU v
def X9_laysAside (s : mSG) : Option mSG :=
  (X9_laysAside_l2 (0, s)).bind (fun e2 =>
  some (sI e2 56 42 (e2.1 56 16)))
def X9_laysBack_b2 (x1 : Int32) (s : mSG) : Option ((Int32 × mSG) ⊕ mSG) :=
  if 5 ≤ x1 then
    some (.inr s)
  else
    if mInb x1 5 = true then
      some (.inl (x1 + 1, sI (sI s 65 x1.toNatClampNeg (s.1 74 x1.toNatClampNeg)) 66 x1.toNatClampNeg (s.1 75 x1.toNatClampNeg)))
    else none
def X9_laysBack_l2 (v : Int32 × mSG) : Option mSG :=
  iter (fun v : Int32 × mSG => X9_laysBack_b2 v.1 v.2) mFU v
def X9_laysBack (s : mSG) : Option mSG :=
  (X9_laysBack_l2 (0, s)).bind (fun e2 =>
  some (sI e2 56 16 (e2.1 56 42)))
def X9_judge_j124_45 (x1 : Int32) (x2 : Int32) (x3 : Int32) (s : mSG) : Option ((Int32 × Int32 × mSG) ⊕ Int32 × mSG) :=
  some (.inl (x2, x3 + 1, s))
def X9_judge_j122_45 (x1 : Int32) (x3 : Int32) (s : mSG) : Option ((Int32 × Int32 × mSG) ⊕ Int32 × mSG) :=
  X9_judge_j124_45 x1 x3 x3 s
def X9_judge_b45 (x1 : Int32) (x2 : Int32) (x3 : Int32) (s : mSG) : Option ((Int32 × Int32 × mSG) ⊕ Int32 × mSG) :=
  if mInb x1 4 = true then
    if ((s.1 82 x1.toNatClampNeg) / 2) ≤ x3 then
      some (.inr (x2, s))
    else
      if x2 = (-1) then
        if mInb ((40 * x1) + (2 * x3)) 160 = true then
          if mInb (((40 * x1) + (2 * x3)) + 1) 160 = true then
            if X9_isOne (s.1 83 ((40 * x1) + (2 * x3)).toNatClampNeg) s = true then
              if X9_isStone (s.1 83 (((40 * x1) + (2 * x3)) + 1).toNatClampNeg) = true then
                (X9_goes (s.1 83 ((40 * x1) + (2 * x3)).toNatClampNeg) (s.1 83 (((40 * x1) + (2 * x3)) + 1).toNatClampNeg) s).bind (fun r10 =>
                if r10.1 = true then
                  X9_judge_j124_45 x1 x2 x3 r10.2
                else
                  X9_judge_j122_45 x1 x3 r10.2)
              else
                X9_judge_j122_45 x1 x3 s
            else
              X9_judge_j122_45 x1 x3 s
          else none
        else none
      else
        some (.inr (x2, s))
  else none
def X9_judge_l45 (x1 : Int32) (v : Int32 × Int32 × mSG) : Option (Int32 × mSG) :=
  iter (fun v : Int32 × Int32 × mSG => X9_judge_b45 x1 v.1 v.2.1 v.2.2) mFU v
def X9_judge_j130 (x2 : Int32) (s : mSG) : Option (Int32 × mSG) :=
  (X9_laysBack s).bind (fun r11 =>
  some (x2, r11))
def X9_judge (x1 : Int32) (s : mSG) : Option (Int32 × mSG) :=
  if X9_isSheet x1 = true then
    if mInb x1 4 = true then
      if (s.1 80 x1.toNatClampNeg) = 0 then
        some ((-11), s)
      else
        if ((s.1 82 x1.toNatClampNeg) - (s.1 82 x1.toNatClampNeg) / 2 * 2) = 1 then
          some ((-2), s)
        else
          (X9_laysAside s).bind (fun r4 =>
          (X9_judge_l45 x1 ((-1), 0, r4)).bind (fun e45 =>
          X9_judge_j130 e45.1 e45.2))
    else none
  else
    some ((-2), s)
def X9_draws_b19 (x2 : Int32) (x3 : Int32) (x5 : Int32) (x4 : Int32) (x6 : Int32) (s : mSG) : Option ((Int32 × Int32 × mSG) ⊕ Int32 × mSG) :=
  if (s.1 56 15) ≤ x6 then
    some (.inr (x4, s))
  else
    (X9_goes x6 (((((x4 * 1103515245) + 12345).toUInt32 >>> ((9 : Int32).toUInt32 &&& Int32.toUInt32 31)).toInt32) - ((((x4 * 1103515245) + 12345).toUInt32 >>> ((9 : Int32).toUInt32 &&& Int32.toUInt32 31)).toInt32) / 8 * 8) s).bind (fun r4 =>
    some (.inl ((x4 * 1103515245) + 12345, x6 + 1, r4.2)))
def X9_draws_l19 (x2 : Int32) (x3 : Int32) (x5 : Int32) (v : Int32 × Int32 × mSG) : Option (Int32 × mSG) :=
  iter (fun v : Int32 × Int32 × mSG => X9_draws_b19 x2 x3 x5 v.1 v.2.1 v.2.2) mFU v
def X9_draws_b10 (x2 : Int32) (x3 : Int32) (x4 : Int32) (x5 : Int32) (s : mSG) : Option ((Int32 × Int32 × mSG) ⊕ mSG) :=
  if x2 ≤ x5 then
    some (.inr s)
  else
    (X9_draws_l19 x2 x3 x5 (x4, 0, s)).bind (fun e19 =>
    some (.inl (e19.1, x5 + 1, e19.2)))
def X9_draws_l10 (x2 : Int32) (x3 : Int32) (v : Int32 × Int32 × mSG) : Option mSG :=
  iter (fun v : Int32 × Int32 × mSG => X9_draws_b10 x2 x3 v.1 v.2.1 v.2.2) mFU v
def X9_draws_j100_73 (x3 : Int32) (x6 : Int32) (p0 : Int32) (p1 : Int32) (s : mSG) : Option ((Int32 × Int32) ⊕ Int32) :=
  some (.inl (p0 + p1, x6 + 1))
def X9_draws_b73 (x3 : Int32) (x5 : Int32) (x6 : Int32) (s : mSG) : Option ((Int32 × Int32) ⊕ Int32) :=
  if (s.1 56 15) ≤ x6 then
    some (.inr x5)
  else
    if mInb x6 5 = true then
      if (s.1 65 x6.toNatClampNeg) = x3 then
        X9_draws_j100_73 x3 x6 x5 1 s
      else
        X9_draws_j100_73 x3 x6 x5 0 s
    else none
def X9_draws_l73 (x3 : Int32) (s : mSG) (v : Int32 × Int32) : Option Int32 :=
  iter (fun v : Int32 × Int32 => X9_draws_b73 x3 v.1 v.2 s) mFU v
def X9_draws (x1 : Int32) (x2 : Int32) (x3 : Int32) (s : mSG) : Option (Int32 × mSG) :=
  (X9_laysAside s).bind (fun r1 =>
  (X9_draws_l10 x2 x3 (x1, 0, r1)).bind (fun e10 =>
  (X9_draws_l73 x3 e10 (0, 0)).bind (fun e73 =>
  (X9_laysBack e10).bind (fun r8 =>
  some (e73, r8)))))
def X9_drawn (x1 : Int32) (x2 : Int32) (x3 : Int32) (s : mSG) : Option (Int32 × mSG) :=
  if X9_in x2.toInt64 0 30 = true then
    if X9_isStone x3 = true then
      (X9_draws x1 x2 x3 s).bind (fun r1 =>
      some (r1.1, r1.2))
    else
      some ((-2), s)
  else
    some ((-2), s)
def X9_chance_j80_53 (x1 : Int32) (x2 : Int32) (x3 : Int32) (x4 : Int32) (x5 : Int32) (x8 : Int32) (pj0 : Int64) (pj1 : Int64) (s : mSG) : Option ((Int64 × Int32 × mSG) ⊕ Int64 × mSG) :=
  some (.inl (pj0 + pj1, x8 + 1, s))
def X9_chance_b53 (x1 : Int32) (x2 : Int32) (x3 : Int32) (x4 : Int32) (x5 : Int32) (j6 : Int64) (x8 : Int32) (s : mSG) : Option ((Int64 × Int32 × mSG) ⊕ Int64 × mSG) :=
  if x2 ≤ x8 then
    some (.inr (j6, s))
  else
    (X9_draws (x1 + x8) x3 x4 s).bind (fun r2 =>
    if r2.1 ≤ 0 then
      X9_chance_j80_53 x1 x2 x3 x4 x5 x8 j6 0 r2.2
    else
      X9_chance_j80_53 x1 x2 x3 x4 x5 x8 j6 1 r2.2)
def X9_chance_l53 (x1 : Int32) (x2 : Int32) (x3 : Int32) (x4 : Int32) (x5 : Int32) (v : Int64 × Int32 × mSG) : Option (Int64 × mSG) :=
  iter (fun v : Int64 × Int32 × mSG => X9_chance_b53 x1 x2 x3 x4 x5 v.1 v.2.1 v.2.2) mFU v
def X9_chance_b97 (x2 : Int32) (x5 : Int32) (j6 : Int64) (j8 : Int64) (j10 : Int64) (s : mSG) : Option ((Int64 × Int64) ⊕ Int64) :=
  if (lg_cmp j10 0) = 0 then
    some (.inr j8)
  else
    if ¬ j10 = 0 then
      some (.inl (j10, j8 - j8 / j10 * j10))
    else none
def X9_chance_l97 (x2 : Int32) (x5 : Int32) (j6 : Int64) (s : mSG) (v : Int64 × Int64) : Option Int64 :=
  iter (fun v : Int64 × Int64 => X9_chance_b97 x2 x5 j6 v.1 v.2 s) mFU v
def X9_chance (x1 : Int32) (x2 : Int32) (x3 : Int32) (x4 : Int32) (x5 : Int32) (s : mSG) : Option (Int64 × mSG) :=
  if X9_in x2.toInt64 1 20 = true then
    if X9_in x3.toInt64 0 30 = true then
      if X9_isStone x4 = true then
        if X9_in x5.toInt64 0 1 = true then
          (X9_chance_l53 x1 x2 x3 x4 x5 (0, 0, s)).bind (fun e53 =>
          (X9_chance_l97 x2 x5 e53.1 e53.2 (e53.1, x2.toInt64)).bind (fun e97 =>
          if x5 = 0 then
            if ¬ e97 = 0 then
              some (e53.1 / e97, e53.2)
            else none
          else
            if ¬ e97 = 0 then
              some (x2.toInt64 / e97, e53.2)
            else none))
        else
          some ((-4611686018427387904), s)
      else
        some ((-4611686018427387904), s)
    else
      some ((-4611686018427387904), s)
  else
    some ((-4611686018427387904), s)
def X9_image_b2 (x1 : Int32) (s : mSG) : Option ((Int32 × mSG) ⊕ mSG) :=
  if 64 ≤ x1 then
    some (.inr s)
  else
    if mInb x1 64 = true then
      some (.inl (x1 + 1, sI s 76 x1.toNatClampNeg (s.1 60 x1.toNatClampNeg)))
    else none
def X9_image_l2 (v : Int32 × mSG) : Option mSG :=
  iter (fun v : Int32 × mSG => X9_image_b2 v.1 v.2) mFU v
def X9_image_b28 (x1 : Int32) (s : mSG) : Option ((Int32 × mSG) ⊕ mSG) :=
  if 25 ≤ x1 then
    some (.inr s)
  else
    if mInb x1 25 = true then
      some (.inl (x1 + 1, sI s 78 x1.toNatClampNeg (s.1 67 x1.toNatClampNeg)))
    else none
def X9_image_l28 (v : Int32 × mSG) : Option mSG :=
  iter (fun v : Int32 × mSG => X9_image_b28 v.1 v.2) mFU v
def X9_image_b54 (x1 : Int32) (s : mSG) : Option ((Int32 × mSG) ⊕ mSG) :=
  if 24 ≤ x1 then
    some (.inr s)
  else
    if mInb x1 24 = true then
      some (.inl (x1 + 1, sI s 79 x1.toNatClampNeg (s.1 68 x1.toNatClampNeg)))
    else none
def X9_image_l54 (v : Int32 × mSG) : Option mSG :=
  iter (fun v : Int32 × mSG => X9_image_b54 v.1 v.2) mFU v
def X9_image_b80 (x1 : Int32) (s : mSG) : Option ((Int32 × mSG) ⊕ mSG) :=
  if 5 ≤ x1 then
    some (.inr s)
  else
    if mInb x1 5 = true then
      if mInb x1 25 = true then
        if mInb (5 + x1) 25 = true then
          if mInb (10 + x1) 25 = true then
            if mInb (15 + x1) 25 = true then
              if mInb (20 + x1) 25 = true then
                some (.inl (x1 + 1, sI (sI (sI (sI (sI s 77 x1.toNatClampNeg (s.1 65 x1.toNatClampNeg)) 77 (5 + x1).toNatClampNeg (s.1 63 x1.toNatClampNeg)) 77 (10 + x1).toNatClampNeg (s.1 66 x1.toNatClampNeg)) 77 (15 + x1).toNatClampNeg (s.1 64 x1.toNatClampNeg)) 77 (20 + x1).toNatClampNeg (s.1 62 x1.toNatClampNeg)))
              else none
            else none
          else none
        else none
      else none
    else none
def X9_image_l80 (v : Int32 × mSG) : Option mSG :=
  iter (fun v : Int32 × mSG => X9_image_b80 v.1 v.2) mFU v
def X9_image (s : mSG) : Option (Int32 × mSG) :=
  (X9_image_l2 (0, s)).bind (fun e2 =>
  (X9_image_l28 (0, e2)).bind (fun e28 =>
  (X9_image_l54 (0, e28)).bind (fun e54 =>
  (X9_image_l80 (0, e54)).bind (fun e80 =>
  some (e80.1 56 15, sI (sI (sI e80 56 47 (e80.1 56 15)) 56 48 (e80.1 56 16)) 56 49 (e80.1 56 4))))))
def X9_back_b13 (x1 : Int32) (s : mSG) : Option ((Int32 × mSG) ⊕ mSG) :=
  if 64 ≤ x1 then
    some (.inr s)
  else
    if mInb x1 64 = true then
      some (.inl (x1 + 1, sI s 60 x1.toNatClampNeg (s.1 76 x1.toNatClampNeg)))
    else none
def X9_back_l13 (v : Int32 × mSG) : Option mSG :=
  iter (fun v : Int32 × mSG => X9_back_b13 v.1 v.2) mFU v
def X9_back_b39 (x1 : Int32) (s : mSG) : Option ((Int32 × mSG) ⊕ mSG) :=
  if 25 ≤ x1 then
    some (.inr s)
  else
    if mInb x1 25 = true then
      some (.inl (x1 + 1, sI s 67 x1.toNatClampNeg (s.1 78 x1.toNatClampNeg)))
    else none
def X9_back_l39 (v : Int32 × mSG) : Option mSG :=
  iter (fun v : Int32 × mSG => X9_back_b39 v.1 v.2) mFU v
def X9_back_b65 (x1 : Int32) (s : mSG) : Option ((Int32 × mSG) ⊕ mSG) :=
  if 24 ≤ x1 then
    some (.inr s)
  else
    if mInb x1 24 = true then
      some (.inl (x1 + 1, sI s 68 x1.toNatClampNeg (s.1 79 x1.toNatClampNeg)))
    else none
def X9_back_l65 (v : Int32 × mSG) : Option mSG :=
  iter (fun v : Int32 × mSG => X9_back_b65 v.1 v.2) mFU v
def X9_back_b91 (x1 : Int32) (s : mSG) : Option ((Int32 × mSG) ⊕ mSG) :=
  if 5 ≤ x1 then
    some (.inr s)
  else
    if mInb x1 25 = true then
      if mInb x1 5 = true then
        if mInb (5 + x1) 25 = true then
          if mInb (10 + x1) 25 = true then
            if mInb (15 + x1) 25 = true then
              if mInb (20 + x1) 25 = true then
                some (.inl (x1 + 1, sI (sI (sI (sI (sI s 65 x1.toNatClampNeg (s.1 77 x1.toNatClampNeg)) 63 x1.toNatClampNeg (s.1 77 (5 + x1).toNatClampNeg)) 66 x1.toNatClampNeg (s.1 77 (10 + x1).toNatClampNeg)) 64 x1.toNatClampNeg (s.1 77 (15 + x1).toNatClampNeg)) 62 x1.toNatClampNeg (s.1 77 (20 + x1).toNatClampNeg)))
              else none
            else none
          else none
        else none
      else none
    else none
def X9_back_l91 (v : Int32 × mSG) : Option mSG :=
  iter (fun v : Int32 × mSG => X9_back_b91 v.1 v.2) mFU v
def X9_back (s : mSG) : Option (Int32 × mSG) :=
  if (s.1 56 47) = (-1) then
    some ((-3), s)
  else
    (X9_back_l13 (0, s)).bind (fun e13 =>
    (X9_back_l39 (0, e13)).bind (fun e39 =>
    (X9_back_l65 (0, e39)).bind (fun e65 =>
    (X9_back_l91 (0, e65)).bind (fun e91 =>
    some ((e91.1 56 47), sI (sI (sI e91 56 15 (e91.1 56 47)) 56 16 (e91.1 56 48)) 56 4 (e91.1 56 49))))))
def X9_count_j45_24 (x3 : Int32) (p0 : Int32) (p1 : Int32) (s : mSG) : Option ((Int32 × Int32) ⊕ Int32) :=
  some (.inl (p0 + p1, x3 + 1))
def X9_count_b24 (x2 : Int32) (x3 : Int32) (s : mSG) : Option ((Int32 × Int32) ⊕ Int32) :=
  if 64 ≤ x3 then
    some (.inr x2)
  else
    if mInb x3 64 = true then
      if (s.1 60 x3.toNatClampNeg) ≤ 0 then
        X9_count_j45_24 x3 x2 0 s
      else
        X9_count_j45_24 x3 x2 1 s
    else none
def X9_count_l24 (s : mSG) (v : Int32 × Int32) : Option Int32 :=
  iter (fun v : Int32 × Int32 => X9_count_b24 v.1 v.2 s) mFU v
def X9_count_b67 (x2 : Int32) (x3 : Int32) (s : mSG) : Option ((Int32 × Int32) ⊕ Int32) :=
  if (s.1 56 15) ≤ x3 then
    some (.inr x2)
  else
    (X9_told x3 7 s).bind (fun r13 =>
    some (.inl (x2 + r13, x3 + 1)))
def X9_count_l67 (s : mSG) (v : Int32 × Int32) : Option Int32 :=
  iter (fun v : Int32 × Int32 => X9_count_b67 v.1 v.2 s) mFU v
def X9_count (x1 : Int32) (s : mSG) : Option Int32 :=
  if X9_in x1.toInt64 0 7 = true then
    if x1 = 1 then
      (X9_count_l24 s (0, 0)).bind (fun e24 =>
      some (e24 / 2))
    else
      if x1 = 7 then
        (X9_count_l67 s (0, 0)).bind (fun e67 =>
        some e67)
      else
        if 4 ≤ x1 then
          if x1 = 4 then
            some (s.1 56 3)
          else
            if x1 = 5 then
              some (s.1 56 6)
            else
              some (s.1 56 4)
        else
          if x1 = 0 then
            some (s.1 56 15)
          else
            if x1 = 2 then
              some (s.1 56 16)
            else
              (X9_rainAt (s.1 56 16) s).bind (fun r8 =>
              some r8)
  else
    some (-2)
def X9_sheet_b77 (x1 : Int32) (x2 : Int32) (x3 : Int32) (x4 : Int32) (s : mSG) : Option ((Int32 × mSG) ⊕ mSG) :=
  if x3 ≤ x4 then
    some (.inr s)
  else
    if x2 < 0 then
      some (.inr s)
    else
      if mInb ((40 * x1) + x4) 160 = true then
        some (.inl (x4 + 1, sI s 83 ((40 * x1) + x4).toNatClampNeg 0))
      else none
def X9_sheet_l77 (x1 : Int32) (x2 : Int32) (x3 : Int32) (v : Int32 × mSG) : Option mSG :=
  iter (fun v : Int32 × mSG => X9_sheet_b77 x1 x2 x3 v.1 v.2) mFU v
def X9_sheet_j59 (x1 : Int32) (x2 : Int32) (x3 : Int32) (p1 : Int32) (p2 : Int32) (s : mSG) : Option (Int32 × mSG) :=
  if mInb p1 4 = true ∧ (p2 = 0 ∨ p2 = 1) then
    if mInb x1 4 = true then
      (X9_sheet_l77 x1 x2 x3 (0, sI (sI (sI s 80 p1.toNatClampNeg p2) 81 x1.toNatClampNeg x2) 82 x1.toNatClampNeg x3)).bind (fun e77 =>
      some (1, e77))
    else none
  else none
def X9_sheet_j45 (x1 : Int32) (x2 : Int32) (x3 : Int32) (s : mSG) : Option (Int32 × mSG) :=
  if x2 < 0 then
    X9_sheet_j59 x1 x2 x3 x1 0 s
  else
    X9_sheet_j59 x1 x2 x3 x1 1 s
def X9_sheet_j34 (x1 : Int32) (x2 : Int32) (x3 : Int32) (s : mSG) : Option (Int32 × mSG) :=
  if x2 < 0 then
    X9_sheet_j45 x1 x2 x3 s
  else
    if 0 ≤ x3 then
      X9_sheet_j45 x1 x2 x3 s
    else
      some ((-14), s)
def X9_sheet (x1 : Int32) (x2 : Int32) (x3 : Int32) (s : mSG) : Option (Int32 × mSG) :=
  if X9_isSheet x1 = true then
    if X9_in x2.toInt64 (-1) 2 = true then
      if x2 < 0 then
        X9_sheet_j34 x1 x2 x3 s
      else
        if x3 ≤ 40 then
          X9_sheet_j34 x1 x2 x3 s
        else
          some ((-2), s)
    else
      some ((-2), s)
  else
    some ((-2), s)
def X9_cell (x1 : Int32) (x2 : Int32) (x3 : Int32) (s : mSG) : Option (Int32 × mSG) :=
  if X9_isSheet x1 = true then
    if mInb x1 4 = true then
      if (s.1 80 x1.toNatClampNeg) = 0 then
        some ((-11), s)
      else
        if X9_in x2.toInt64 0 (((s.1 82 x1.toNatClampNeg) - 1).toInt64) = true then
          if (s.1 81 x1.toNatClampNeg) = 0 then
            if mInb ((40 * x1) + x2) 160 = true then
              some (1, sI s 83 ((40 * x1) + x2).toNatClampNeg x3.toInt8.toInt32)
            else none
          else
            if (s.1 81 x1.toNatClampNeg) = 1 then
              if mInb ((40 * x1) + x2) 160 = true then
                some (1, sI s 83 ((40 * x1) + x2).toNatClampNeg x3.toInt16.toInt32)
              else none
            else
              if mInb ((40 * x1) + x2) 160 = true then
                some (1, sI s 83 ((40 * x1) + x2).toNatClampNeg x3)
              else none
        else
          some ((-12), s)
    else none
  else
    some ((-2), s)
def X9_copy_j145_121 (x1 : Int32) (x2 : Int32) (x3 : Int32) (x4 : Int32) (x5 : Int32) (x6 : Int32) (x7 : Int32) (p0 : Int32) (s : mSG) : Option ((Int32 × mSG) ⊕ mSG) :=
  if mInb (((40 * x1) + x2) + p0) 160 = true then
    if mInb (((40 * x3) + x4) + p0) 160 = true then
      some (.inl (x7 + 1, sI s 83 (((40 * x3) + x4) + p0).toNatClampNeg (s.1 83 (((40 * x1) + x2) + p0).toNatClampNeg)))
    else none
  else none
def X9_copy_b121 (x1 : Int32) (x2 : Int32) (x3 : Int32) (x4 : Int32) (x5 : Int32) (x6 : Int32) (x7 : Int32) (s : mSG) : Option ((Int32 × mSG) ⊕ mSG) :=
  if x5 ≤ x7 then
    some (.inr s)
  else
    if x6 = 0 then
      X9_copy_j145_121 x1 x2 x3 x4 x5 x6 x7 x7 s
    else
      X9_copy_j145_121 x1 x2 x3 x4 x5 x6 x7 ((x5 - 1) - x7) s
def X9_copy_l121 (x1 : Int32) (x2 : Int32) (x3 : Int32) (x4 : Int32) (x5 : Int32) (x6 : Int32) (v : Int32 × mSG) : Option mSG :=
  iter (fun v : Int32 × mSG => X9_copy_b121 x1 x2 x3 x4 x5 x6 v.1 v.2) mFU v
def X9_copy_j116 (x1 : Int32) (x2 : Int32) (x3 : Int32) (x4 : Int32) (x5 : Int32) (p0 : Int32) (s : mSG) : Option (Int32 × mSG) :=
  (X9_copy_l121 x1 x2 x3 x4 x5 p0 (0, s)).bind (fun e121 =>
  some (x5, e121))
def X9_copy_j115 (x1 : Int32) (x2 : Int32) (x3 : Int32) (x4 : Int32) (x5 : Int32) (s : mSG) : Option (Int32 × mSG) :=
  X9_copy_j116 x1 x2 x3 x4 x5 0 s
def X9_copy (x1 : Int32) (x2 : Int32) (x3 : Int32) (x4 : Int32) (x5 : Int32) (s : mSG) : Option (Int32 × mSG) :=
  if X9_isSheet x1 = true then
    if X9_isSheet x3 = true then
      if mInb x1 4 = true then
        if (s.1 80 x1.toNatClampNeg) = 0 then
          some ((-11), s)
        else
          if mInb x3 4 = true then
            if (s.1 80 x3.toNatClampNeg) = 0 then
              some ((-11), s)
            else
              if (s.1 81 x1.toNatClampNeg) = (s.1 81 x3.toNatClampNeg) then
                if x5 < 0 then
                  some ((-12), s)
                else
                  if x2 < 0 then
                    some ((-12), s)
                  else
                    if x4 < 0 then
                      some ((-12), s)
                    else
                      if ((s.1 82 x1.toNatClampNeg) - x5) < x2 then
                        some ((-12), s)
                      else
                        if x4 ≤ ((s.1 82 x3.toNatClampNeg) - x5) then
                          if x1 = x3 then
                            if x4 ≤ x2 then
                              X9_copy_j115 x1 x2 x3 x4 x5 s
                            else
                              X9_copy_j116 x1 x2 x3 x4 x5 1 s
                          else
                            X9_copy_j115 x1 x2 x3 x4 x5 s
                        else
                          some ((-12), s)
              else
                some ((-13), s)
          else none
      else none
    else
      some ((-2), s)
  else
    some ((-2), s)
def X9_muds_j158_75 (x1 : Int32) (x3 : Int32) (x4 : Int32) (x6 : Int32) (p0 : Int32) (p1 : Int32) (s : mSG) : Option ((Int32 × Int32 × mSG) ⊕ (mSG ⊕ Int32 × mSG)) :=
  some (.inl (p0 + p1, x6 + 1, s))
def X9_muds_b75 (x1 : Int32) (x3 : Int32) (x4 : Int32) (x5 : Int32) (x6 : Int32) (s : mSG) : Option ((Int32 × Int32 × mSG) ⊕ (mSG ⊕ Int32 × mSG)) :=
  if x4 ≤ x6 then
    some (.inr (.inr (x5, s)))
  else
    if x3 < 0 then
      some (.inr (.inl s))
    else
      if mInb x1 4 = true then
        if x3 ≤ (((s.1 82 x1.toNatClampNeg) - (3 * x6)) - 3) then
          if mInb (((40 * x1) + x3) + (3 * x6)) 160 = true then
            if mInb ((((40 * x1) + x3) + (3 * x6)) + 1) 160 = true then
              if mInb ((((40 * x1) + x3) + (3 * x6)) + 2) 160 = true then
                (X9_mud (s.1 83 (((40 * x1) + x3) + (3 * x6)).toNatClampNeg) (s.1 83 ((((40 * x1) + x3) + (3 * x6)) + 1).toNatClampNeg) (s.1 83 ((((40 * x1) + x3) + (3 * x6)) + 2).toNatClampNeg) s).bind (fun r13 =>
                if r13.1 < 0 then
                  X9_muds_j158_75 x1 x3 x4 x6 x5 0 r13.2
                else
                  X9_muds_j158_75 x1 x3 x4 x6 x5 1 r13.2)
              else none
            else none
          else none
        else
          some (.inr (.inl s))
      else none
def X9_muds_l75 (x1 : Int32) (x3 : Int32) (x4 : Int32) (v : Int32 × Int32 × mSG) : Option (mSG ⊕ Int32 × mSG) :=
  iter (fun v : Int32 × Int32 × mSG => X9_muds_b75 x1 x3 x4 v.1 v.2.1 v.2.2) mFU v
def X9_muds_j57 (x1 : Int32) (x3 : Int32) (x4 : Int32) (s : mSG) : Option (Int32 × mSG) :=
  if mInb x1 4 = true then
    if (s.1 80 x1.toNatClampNeg) = 0 then
      some ((-11), s)
    else
      (X9_muds_l75 x1 x3 x4 (0, 0, s)).bind (fun e75 =>
      Sum.elim (fun e75_0 =>
        some ((-12), e75_0)) (fun e75_1 =>
        some (e75_1.1, e75_1.2)) e75)
  else none
def X9_muds (x1 : Int32) (x2 : Int32) (x3 : Int32) (x4 : Int32) (s : mSG) : Option (Int32 × mSG) :=
  if X9_isSheet x1 = true then
    if X9_in x2.toInt64 0 2 = true then
      if X9_in x4.toInt64 0 13 = true then
        if mInb x1 4 = true then
          if (s.1 80 x1.toNatClampNeg) = 0 then
            X9_muds_j57 x1 x3 x4 s
          else
            if (s.1 81 x1.toNatClampNeg) = x2 then
              X9_muds_j57 x1 x3 x4 s
            else
              some ((-13), s)
        else none
      else
        some ((-2), s)
    else
      some ((-2), s)
  else
    some ((-2), s)
def X9_over (x0 : Int32) : Int32 :=
  if x0 = 0 then
    (-1)
  else
    if x0 = 4 then
      2
    else
      if x0 = 3 then
        1
      else
        if x0 = 5 then
          1
        else
          0
def X9_taken_b33 (x1 : Int32) (x2 : Int32) (x3 : Int32) (s : mSG) : Option (Int32 ⊕ Int32) :=
  if x3 = (-1) then
    some (.inr x3)
  else
    if x3 = x2 then
      some (.inr x3)
    else
      some (.inl (X9_over x3))
def X9_taken_l33 (x1 : Int32) (x2 : Int32) (s : mSG) (v : Int32) : Option Int32 :=
  iter (fun v : Int32 => X9_taken_b33 x1 x2 v s) mFU v
def X9_taken_j51 (x1 : Int32) (x2 : Int32) (x3 : Int32) (s : mSG) : Option Int32 :=
  if x3 = x2 then
    if mInb x1 5 = true then
      some (s.1 62 x1.toNatClampNeg)
    else none
  else
    some (-13)
def X9_taken (x1 : Int32) (x2 : Int32) (s : mSG) : Option Int32 :=
  if X9_in x2.toInt64 0 5 = true then
    if X9_isOne x1 s = true then
      if mInb x1 5 = true then
        (X9_taken_l33 x1 x2 s (s.1 61 x1.toNatClampNeg)).bind (fun e33 =>
        X9_taken_j51 x1 x2 e33 s)
      else none
    else
      some (-11)
  else
    some (-2)
