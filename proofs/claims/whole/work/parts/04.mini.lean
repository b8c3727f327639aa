/-! THE MINI MACHINE: virtual addresses (0 .. 5 stand for what was there before: the script, Rug.ABOVE, two texts, their bytes; from 6 on what the run makes, in order), ints, longs and references apart. -/
abbrev mHI : Type := Nat → Nat → Int32
abbrev mHR : Type := Nat → Nat → Option Nat
abbrev mHJ : Type := Nat → Nat → Int64
abbrev mSG : Type := mHI × mHR × mHJ
/-- how many cells, how many slots, kind and length of each, the final references -/
abbrev mLY : Type := Nat × Nat × (Nat → Nat × Nat) × (Nat → Nat → Option Nat)
abbrev mLV : Type := List (Option Value)
abbrev mRT : Type := Option Value × mSG × mLY
abbrev mCT : Type := Nat → List Value → mSG → mLY → mRT → Prop
abbrev mKT : Type := Nat → mLV → List Value → mSG → mLY → Prop
abbrev mSem : Type := mCT → mRT → mKT → mLV → List Value → mSG → mLY → Prop
def mUp {α : Type} (f : Nat → Nat → α) (a i : Nat) (v : α) : Nat → Nat → α := fun b j => if b = a then (if j = i then v else f b j) else f b j
def mUr {α : Type} (f : Nat → Nat → α) (a : Nat) (g : Nat → α) : Nat → Nat → α := fun b => if b = a then g else f b
def mInb (i : Int32) (n : Nat) : Bool := !(decide (i < 0) || decide (n ≤ i.toNatClampNeg))
theorem mInb_in {i : Int32} {n : Nat} (h : mInb i n = true) : vp_in i n := by
  simp only [mInb, Bool.not_eq_true', Bool.or_eq_false_iff, decide_eq_false_iff_not] at h
  exact fun q => q.elim h.1 h.2
def mGet : mLV → Nat → Option Value
  | [], _ => none
  | x :: _, 0 => x
  | _ :: l, n + 1 => mGet l n
def mSet : mLV → Nat → Option Value → mLV
  | [], _, _ => []
  | _ :: l, 0, v => v :: l
  | x :: l, n + 1, v => x :: mSet l n v
def mLong : Option Value → Bool
  | some (.long _) => true
  | some (.double _) => true
  | _ => false
/-- a store in a method with longs: a long one place before is lost -/
def mPut (L : mLV) (i : Nat) (v : Value) : mLV := match i with
  | 0 => mSet L 0 (some v)
  | k + 1 => if mLong (mGet L k) = true then mSet (mSet L k none) (k + 1) (some v) else mSet L (k + 1) (some v)
def mNew (s : mSG) (n : Nat) : mSG := (mUr s.1 n (fun _ => 0), mUr s.2.1 n (fun _ => none), mUr s.2.2 n (fun _ => 0))
def mKl (Y : mLY) (a : Nat) : Nat × Nat := Y.2.2.1 a
def mRf (Y : mLY) (a k : Nat) : Option Nat := Y.2.2.2 a k
def mAdd (Y : mLY) (kd len sl : Nat) : mLY := (Y.1 + 1, Y.2.1 + sl, (fun a => if a = Y.1 then (kd, len) else Y.2.2.1 a), mUr Y.2.2.2 Y.1 (fun _ => none))
def mSetF (Y : mLY) (a k b : Nat) : mLY := (Y.1, Y.2.1, Y.2.2.1, mUp Y.2.2.2 a k (some b))
def mLe (Y Z : mLY) : Prop := Y.1 ≤ Z.1 ∧ Y.2.1 ≤ Z.2.1
theorem mLe_refl (Y : mLY) : mLe Y Y := ⟨Nat.le_refl _, Nat.le_refl _⟩
def mSw : List (Int32 × Nat) → Nat → Int32 → (Nat → Prop) → Prop
  | [], d, _, K => K d
  | q :: l, d, x, K => (x = q.1 → K q.2) ∧ (¬ x = q.1 → mSw l d x K)
-- the instructions
def mcBad : mSem := fun _ _ _ _ _ _ _ => False
def mcPush (v : Value) (nx : Nat) : mSem := fun _ _ K L S s Y => K nx L (v :: S) s Y
def mcLoadI (i nx : Nat) : mSem := fun _ _ K L S s Y => match mGet L i with
  | some (.int x) => K nx L (.int x :: S) s Y
  | _ => False
def mcLoadA (i nx : Nat) : mSem := fun _ _ K L S s Y => match mGet L i with
  | some (.ref x) => K nx L (.ref x :: S) s Y
  | _ => False
def mcLoadJ (i nx : Nat) : mSem := fun _ _ K L S s Y => match mGet L i with
  | some (.long x) => K nx L (.long x :: S) s Y
  | _ => False
def mcStoreI (i nx : Nat) : mSem := fun _ _ K L S s Y => match S with
  | .int x :: S => K nx (mSet L i (some (.int x))) S s Y
  | _ => False
def mcStoreA (i nx : Nat) : mSem := fun _ _ K L S s Y => match S with
  | .ref x :: S => K nx (mSet L i (some (.ref x))) S s Y
  | _ => False
def mcStoreIH (i nx : Nat) : mSem := fun _ _ K L S s Y => match S with
  | .int x :: S => K nx (mPut L i (.int x)) S s Y
  | _ => False
def mcStoreJH (i nx : Nat) : mSem := fun _ _ K L S s Y => match S with
  | .long x :: S => K nx (mSet (mPut L i (.long x)) (i + 1) none) S s Y
  | _ => False
def mcIinc (i : Nat) (n : Int32) (nx : Nat) : mSem := fun _ _ K L S s Y => match mGet L i with
  | some (.int x) => K nx (mSet L i (some (.int (x + n)))) S s Y
  | _ => False
def mcIincH (i : Nat) (n : Int32) (nx : Nat) : mSem := fun _ _ K L S s Y => match mGet L i with
  | some (.int x) => K nx (mPut L i (.int (x + n))) S s Y
  | _ => False
def mcDup (nx : Nat) : mSem := fun _ _ K L S s Y => match S with
  | .int x :: S => K nx L (.int x :: .int x :: S) s Y
  | .ref x :: S => K nx L (.ref x :: .ref x :: S) s Y
  | _ => False
def mcDup2 (nx : Nat) : mSem := fun _ _ K L S s Y => match S with
  | .int x :: .ref a :: S => K nx L (.int x :: .ref a :: .int x :: .ref a :: S) s Y
  | _ => False
def mcPop (nx : Nat) : mSem := fun _ _ K L S s Y => match S with
  | .int _ :: S => K nx L S s Y
  | _ => False
def mcBin (g : Int32 → Int32 → Int32) (nx : Nat) : mSem := fun _ _ K L S s Y => match S with
  | .int y :: .int x :: S => K nx L (.int (g x y) :: S) s Y
  | _ => False
/-- a division, a remainder -/
def mcDiv (g : Int32 → Int32 → Int32) (nx : Nat) : mSem := fun _ _ K L S s Y => match S with
  | .int y :: .int x :: S => ¬ y = 0 ∧ K nx L (.int (g x y) :: S) s Y
  | _ => False
def mcUn (g : Int32 → Int32) (nx : Nat) : mSem := fun _ _ K L S s Y => match S with
  | .int x :: S => K nx L (.int (g x) :: S) s Y
  | _ => False
def mcI2l (nx : Nat) : mSem := fun _ _ K L S s Y => match S with
  | .int x :: S => K nx L (.long x.toInt64 :: S) s Y
  | _ => False
def mcL2i (nx : Nat) : mSem := fun _ _ K L S s Y => match S with
  | .long x :: S => K nx L (.int x.toInt32 :: S) s Y
  | _ => False
def mcBinJ (g : Int64 → Int64 → Int64) (nx : Nat) : mSem := fun _ _ K L S s Y => match S with
  | .long y :: .long x :: S => K nx L (.long (g x y) :: S) s Y
  | _ => False
def mcDivJ (g : Int64 → Int64 → Int64) (nx : Nat) : mSem := fun _ _ K L S s Y => match S with
  | .long y :: .long x :: S => ¬ y = 0 ∧ K nx L (.long (g x y) :: S) s Y
  | _ => False
def mcLcmp (nx : Nat) : mSem := fun _ _ K L S s Y => match S with
  | .long y :: .long x :: S => K nx L (.int (lg_cmp x y) :: S) s Y
  | _ => False
def mcGoto (t : Nat) : mSem := fun _ _ K L S s Y => K t L S s Y
/-- with one int: to t where c, else to f -/
def mcIf1 (c : Int32 → Prop) (t f : Nat) : mSem := fun _ _ K L S s Y => match S with
  | .int x :: S => (c x → K t L S s Y) ∧ (¬ c x → K f L S s Y)
  | _ => False
def mcIf2 (c : Int32 → Int32 → Prop) (t f : Nat) : mSem := fun _ _ K L S s Y => match S with
  | .int y :: .int x :: S => (c x y → K t L S s Y) ∧ (¬ c x y → K f L S s Y)
  | _ => False
def mcIfNN (t nx : Nat) : mSem := fun _ _ K L S s Y => match S with
  | .ref _ :: S => K t L S s Y
  | .null :: S => K nx L S s Y
  | _ => False
def mcSw (l : List (Int32 × Nat)) (d : Nat) : mSem := fun _ _ K L S s Y => match S with
  | .int x :: S => mSw l d x (fun t => K t L S s Y)
  | _ => False
-- fields: ints (and booleans), longs, final references, other references
def mcGetI (ci k nx : Nat) : mSem := fun _ _ K L S s Y => match S with
  | .ref a :: S => if (mKl Y a).1 = ci then K nx L (.int (s.1 a k) :: S) s Y else False
  | _ => False
def mcGetJ (ci k nx : Nat) : mSem := fun _ _ K L S s Y => match S with
  | .ref a :: S => if (mKl Y a).1 = ci then K nx L (.long (s.2.2 a k) :: S) s Y else False
  | _ => False
def mcGetF (ci k nx : Nat) : mSem := fun _ _ K L S s Y => match S with
  | .ref a :: S => if (mKl Y a).1 = ci then (match mRf Y a k with
    | some b => K nx L (.ref b :: S) s Y
    | none => False) else False
  | _ => False
def mcGetQ (ci k nx : Nat) : mSem := fun _ _ K L S s Y => match S with
  | .ref a :: S => if (mKl Y a).1 = ci then (match s.2.1 a k with
    | some b => K nx L (.ref b :: S) s Y
    | none => K nx L (.null :: S) s Y) else False
  | _ => False
def mcPutI (ci k nx : Nat) : mSem := fun _ _ K L S s Y => match S with
  | .int x :: .ref a :: S => if (mKl Y a).1 = ci then K nx L S (mUp s.1 a k x, s.2.1, s.2.2) Y else False
  | _ => False
def mcPutZ (ci k nx : Nat) : mSem := fun _ _ K L S s Y => match S with
  | .int x :: .ref a :: S => if (mKl Y a).1 = ci then ((x = 0 ∨ x = 1) ∧ K nx L S (mUp s.1 a k x, s.2.1, s.2.2) Y) else False
  | _ => False
def mcPutJ (ci k nx : Nat) : mSem := fun _ _ K L S s Y => match S with
  | .long x :: .ref a :: S => if (mKl Y a).1 = ci then K nx L S (s.1, s.2.1, mUp s.2.2 a k x) Y else False
  | _ => False
def mcPutF (ci k nx : Nat) : mSem := fun _ _ K L S s Y => match S with
  | .ref b :: .ref a :: S => if (mKl Y a).1 = ci then K nx L S s (mSetF Y a k b) else False
  | _ => False
def mcPutQ (ci k nx : Nat) : mSem := fun _ _ K L S s Y => match S with
  | .ref b :: .ref a :: S => if (mKl Y a).1 = ci then K nx L S (s.1, mUp s.2.1 a k (some b), s.2.2) Y else False
  | _ => False
-- arrays: 20 int, 21 boolean, 22 Text, 23 Sheet; 30 int that was there before; 32 byte that was there before
def mcIald (nx : Nat) : mSem := fun _ _ K L S s Y => match S with
  | .int i :: .ref a :: S => if (mKl Y a).1 = 20 then (mInb i (mKl Y a).2 = true ∧ K nx L (.int (s.1 a i.toNatClampNeg) :: S) s Y) else if a < 2 then (mInb i (mKl Y a).2 = true ∧ K nx L (.int (s.1 a i.toNatClampNeg) :: S) s Y) else False
  | _ => False
def mcBald (nx : Nat) : mSem := fun _ _ K L S s Y => match S with
  | .int i :: .ref a :: S => if (mKl Y a).1 = 21 then (mInb i (mKl Y a).2 = true ∧ K nx L (.int (s.1 a i.toNatClampNeg) :: S) s Y) else if a = 4 ∨ a = 5 then (mInb i (mKl Y a).2 = true ∧ K nx L (.int (s.1 a i.toNatClampNeg) :: S) s Y) else False
  | _ => False
def mcIast (nx : Nat) : mSem := fun _ _ K L S s Y => match S with
  | .int x :: .int i :: .ref a :: S => if (mKl Y a).1 = 20 then (mInb i (mKl Y a).2 = true ∧ K nx L S (mUp s.1 a i.toNatClampNeg x, s.2.1, s.2.2) Y) else False
  | _ => False
def mcZast (nx : Nat) : mSem := fun _ _ K L S s Y => match S with
  | .int x :: .int i :: .ref a :: S => if (mKl Y a).1 = 21 then (mInb i (mKl Y a).2 = true ∧ (x = 0 ∨ x = 1) ∧ K nx L S (mUp s.1 a i.toNatClampNeg x, s.2.1, s.2.2) Y) else False
  | _ => False
def mcAald (nx : Nat) : mSem := fun _ _ K L S s Y => match S with
  | .int i :: .ref a :: S => if (mKl Y a).1 = 22 then (mInb i (mKl Y a).2 = true ∧ (match s.2.1 a i.toNatClampNeg with
    | some b => K nx L (.ref b :: S) s Y
    | none => False)) else if (mKl Y a).1 = 23 then (mInb i (mKl Y a).2 = true ∧ (match s.2.1 a i.toNatClampNeg with
    | some b => K nx L (.ref b :: S) s Y
    | none => False)) else False
  | _ => False
/-- a Text into a Text[], a Sheet into a Sheet[] -/
def mcAast (nx : Nat) : mSem := fun _ _ K L S s Y => match S with
  | .ref b :: .int i :: .ref a :: S => if (mKl Y a).1 = 22 then (if (mKl Y b).1 = 5 then (mInb i (mKl Y a).2 = true ∧ K nx L S (s.1, mUp s.2.1 a i.toNatClampNeg (some b), s.2.2) Y) else False) else if (mKl Y a).1 = 23 then (if (mKl Y b).1 = 3 then (mInb i (mKl Y a).2 = true ∧ K nx L S (s.1, mUp s.2.1 a i.toNatClampNeg (some b), s.2.2) Y) else False) else False
  | _ => False
def mcAlen (nx : Nat) : mSem := fun _ _ K L S s Y => match S with
  | .ref a :: S => if 20 ≤ (mKl Y a).1 ∧ (mKl Y a).1 < 24 then K nx L (.int (Int32.ofNat (mKl Y a).2) :: S) s Y else if a < 2 then K nx L (.int (Int32.ofNat (mKl Y a).2) :: S) s Y else if a = 4 ∨ a = 5 then K nx L (.int (Int32.ofNat (mKl Y a).2) :: S) s Y else False
  | _ => False
def mcNewA (kd nx : Nat) : mSem := fun _ r K L S s Y => match S with
  | .int n :: S => (¬ n < 0 ∧ n.toNatClampNeg ≤ 100000 ∧ mLe (mAdd Y kd n.toNatClampNeg n.toNatClampNeg) r.2.2) ∧ K nx L (.ref Y.1 :: S) (mNew s Y.1) (mAdd Y kd n.toNatClampNeg n.toNatClampNeg)
  | _ => False
def mcNew (ci N nx : Nat) : mSem := fun _ r K L S s Y => mLe (mAdd Y ci N N) r.2.2 ∧ K nx L (.ref Y.1 :: S) (mNew s Y.1) (mAdd Y ci N N)
/-- a copy of an int array -/
def mcClone (nx : Nat) : mSem := fun _ r K L S s Y => match S with
  | .ref a :: S => if (mKl Y a).1 = 20 then (mLe (mAdd Y 20 (mKl Y a).2 (mKl Y a).2) r.2.2 ∧ (S.map Value.category).sum ≤ 8 ∧ K nx L (.ref Y.1 :: S) (mUr s.1 Y.1 (s.1 a), (mNew s Y.1).2) (mAdd Y 20 (mKl Y a).2 (mKl Y a).2)) else False
  | _ => False
def mcCastA (nx : Nat) : mSem := fun _ _ K L S s Y => match S with
  | .ref a :: S => if (mKl Y a).1 = 20 then K nx L (.ref a :: S) s Y else False
  | _ => False
/-- System.arraycopy over int arrays -/
def mcCopy (nx : Nat) : mSem := fun _ _ K L S s Y => match S with
  | .int n :: .int dp :: .ref b :: .int sp :: .ref a :: S => if (mKl Y a).1 = 20 ∧ (mKl Y b).1 = 20 then ((¬ sp < 0 ∧ ¬ dp < 0 ∧ ¬ n < 0 ∧ sp.toNatClampNeg + n.toNatClampNeg ≤ (mKl Y a).2 ∧ dp.toNatClampNeg + n.toNatClampNeg ≤ (mKl Y b).2) ∧ (S.map Value.category).sum ≤ 8 ∧ K nx L S (mUr s.1 b (va_cpy (s.1 a) (s.1 b) sp.toNatClampNeg dp.toNatClampNeg n.toNatClampNeg), s.2.1, s.2.2) Y) else False
  | _ => False
-- calls
def mcCallS (k nA nx : Nat) : mSem := fun C r K L S s Y => if nA ≤ S.length ∧ ((S.drop nA).map Value.category).sum ≤ 8 then (∃ q : mRT, C k (S.take nA).reverse s Y q ∧ (mLe Y q.2.2 ∧ mLe q.2.2 r.2.2) ∧ K nx L (q.1.toList ++ S.drop nA) q.2.1 q.2.2) else False
def mcCallV (k ci nA nx : Nat) : mSem := fun C r K L S s Y => match S.drop nA with
  | .ref a :: rest => if (mKl Y a).1 = ci ∧ (rest.map Value.category).sum ≤ 8 then (∃ q : mRT, C k (.ref a :: (S.take nA).reverse) s Y q ∧ (mLe Y q.2.2 ∧ mLe q.2.2 r.2.2) ∧ K nx L (q.1.toList ++ rest) q.2.1 q.2.2) else False
  | _ => False
def mcObj (nx : Nat) : mSem := fun _ _ K L S s Y => match S with
  | .ref _ :: S => if (S.map Value.category).sum ≤ 8 then K nx L S s Y else False
  | _ => False
-- ends
def mcRetI : mSem := fun _ r _ _ S s Y => match S with
  | [.int x] => r = (some (.int x), s, Y)
  | _ => False
def mcRetZ : mSem := fun _ r _ _ S s Y => match S with
  | [.int x] => (x = 0 ∨ x = 1) ∧ r = (some (.int x), s, Y)
  | _ => False
def mcRetC : mSem := fun _ r _ _ S s Y => match S with
  | [.int x] => narrow .char (.int x) = .int x ∧ r = (some (.int x), s, Y)
  | _ => False
def mcRetB : mSem := fun _ r _ _ S s Y => match S with
  | [.int x] => narrow .byte (.int x) = .int x ∧ r = (some (.int x), s, Y)
  | _ => False
def mcRetJ : mSem := fun _ r _ _ S s Y => match S with
  | [.long x] => r = (some (.long x), s, Y)
  | _ => False
def mcRetA : mSem := fun _ r _ _ S s Y => match S with
  | [.ref x] => r = (some (.ref x), s, Y)
  | _ => False
def mcRetV : mSem := fun _ r _ _ S s Y => match S with
  | [] => r = (none, s, Y)
  | _ => False
-- texts that were there before: 31 a text, its bytes two places on
def mcStrV (nx : Nat) : mSem := fun _ _ K L S s Y => match S with
  | .ref a :: S => if a = 2 then K nx L (.ref 4 :: S) s Y else if a = 3 then K nx L (.ref 5 :: S) s Y else False
  | _ => False
def mcStrC (nx : Nat) : mSem := fun _ _ K L S s Y => match S with
  | .ref a :: S => if a = 2 ∨ a = 3 then K nx L (.int 0 :: S) s Y else False
  | _ => False
def mcCallStr (k nA nx : Nat) : mSem := fun C r K L S s Y => match S.drop nA with
  | .ref a :: rest => if (a = 2 ∨ a = 3) ∧ (rest.map Value.category).sum ≤ 8 then (∃ q : mRT, C k (.ref a :: (S.take nA).reverse) s Y q ∧ (mLe Y q.2.2 ∧ mLe q.2.2 r.2.2) ∧ K nx L (q.1.toList ++ rest) q.2.1 q.2.2) else False
  | _ => False
def mEx (C : mCT) (cd : Nat → mSem) (r : mRT) : Nat → mKT
  | 0 => fun _ _ _ _ _ => False
  | f + 1 => fun pc L S s Y => cd pc C r (mEx C cd r f) L S s Y
def Ex (C : mCT) (cd : Nat → mSem) (r : mRT) (pc : Nat) (L : mLV) (S : List Value) (s : mSG) (Y : mLY) : Prop := ∃ f, mEx C cd r f pc L S s Y
