/-! what the model's methods do, as functions of the table -/
def mTod (M : TT) : Int32 := M 23 0 - M 23 0 / 100 * 100
def mWhy (M : TT) (b f : Nat) : Int32 :=
  if nI f = 0 then 110 else if M 5 b = 0 then (if M 1 f = -1 then (if M 2 f ≤ mTod M ∧ mTod M ≤ M 3 f - 1 then 110 else 104) else (if M 1 f = M 4 b then 110 else 116)) else 114
def mAb (M : TT) (l : Nat) : Nat → Int32
  | 0 => 0
  | r + 1 => mAb M l r + (if M 13 r = 97 then (if M 10 r = nI l then 1 else 0) else 0)
def mSn (M : TT) (l : Nat) : Nat → Int32
  | 0 => 0
  | r + 1 => mSn M l r + (if M 13 r = 100 then 0 else (if M 10 r = nI l then 1 else 0))
def iabs (x : Int32) : Int32 := if 0 ≤ x then x else 0 - x
def mScore (M : TT) (nR l : Nat) (fl : Int32) : Int32 := iabs (M 18 l - fl) + 2 * mSn M l nR
def oI : Option Nat → Int32
  | none => -1
  | some b => nI b
def mBst (M : TT) (nR : Nat) (fl : Int32) : Nat → Option Nat
  | 0 => none
  | l + 1 => if M 20 l = 115 then (match mBst M nR fl l with
      | none => some l
      | some b => if mScore M nR l fl < mScore M nR b fl then some l else some b) else mBst M nR fl l
def mGives (M : TT) (nR nL r : Nat) : TT := tu M 10 r (oI (mBst M nR (M 8 r) nL))
def mEnds (M : TT) (r : Nat) (f : Int32) : TT :=
  tu (tu (tu (tu (tu (if M 13 r = 119 then tu M 12 r (M 23 0) else M) 13 r 100) 8 r f) 10 r (-1)) 15 0 (M 15 0 + 1)) 16 0 (M 16 0 + 1)
def exB (p : Nat → Bool) : Nat → Bool
  | 0 => false
  | n + 1 => exB p n || p n
theorem exB_iff {p : Nat → Bool} {n : Nat} : exB p n = true ↔ ∃ i, i < n ∧ p i = true := by
  induction n with
  | zero => simp [exB]
  | succ n ih =>
    simp only [exB, Bool.or_eq_true, ih]
    constructor
    · rintro (⟨i, h1, h2⟩ | h)
      · exact ⟨i, by omega, h2⟩
      · exact ⟨n, by omega, h⟩
    · rintro ⟨i, h1, h2⟩
      rcases Nat.lt_or_ge i n with h | h
      · exact Or.inl ⟨i, h, h2⟩
      · have : i = n := by omega
        subst this; exact Or.inr h2
theorem exB_of {p : Nat → Bool} {n i : Nat} (hi : i < n) (h : p i = true) : exB p n = true := exB_iff.mpr ⟨i, hi, h⟩
abbrev bet (x lo hi : Int32) : Prop := lo ≤ x ∧ x ≤ hi
def mF (M : TT) (k : Int32) : Int32 × TT := (0, tu (tu M 0 0 0) 0 0 k)
def mAddLift (M : TT) (nL : Nat) (x : Int32) : Int32 × TT :=
  if bet x 1 4 then (if nI nL = 3 then mF M 2 else (nI nL + 1 - 1, tu (tu (tu (tu (tu M 0 0 0) 17 nL x) 20 nL 115) 21 nL 1) 22 0 (nI nL + 1))) else mF M 1
def mSetTenant (M : TT) (x y : Int32) : Int32 × TT :=
  if bet x 1 9 then (if bet y (-1) 3 then (M 1 x.toNatClampNeg, tu (tu M 0 0 0) 1 x.toNatClampNeg y) else mF M 2) else mF M 1
def mSetHours (M : TT) (x y z : Int32) : Int32 × TT :=
  if bet x 1 9 then (if bet y 0 99 then (if bet z (y + 1) 100 then (z - y, tu (tu (tu M 0 0 0) 2 x.toNatClampNeg y) 3 x.toNatClampNeg z) else mF M 2) else mF M 2) else mF M 1
def mAddBadge (M : TT) (nB : Nat) (x : Int32) : Int32 × TT :=
  if bet x 0 3 then (if nI nB = 8 then mF M 2 else (nI nB + 1 - 1, tu (tu (tu M 0 0 0) 4 nB x) 6 0 (nI nB + 1))) else mF M 1
def mSetRevoked (M : TT) (nB : Nat) (x v : Int32) : Int32 × TT :=
  if bet x 0 (nI nB - 1) then (M 5 x.toNatClampNeg, tu (tu M 0 0 0) 5 x.toNatClampNeg v) else mF M 1
def mReason (M : TT) (nB : Nat) (x y : Int32) : Int32 × TT :=
  if bet x 0 (nI nB - 1) then (if bet y 0 9 then (mWhy M x.toNatClampNeg y.toNatClampNeg, tu M 0 0 0) else mF M 1) else mF M 1
def mIsOut (M : TT) (b nR : Nat) : Bool := exB (fun r => decide (M 7 r = nI b) && !decide (M 13 r = 100)) nR
def mCall0 (M : TT) (nR : Nat) (x y z : Int32) : TT :=
  tu (tu (tu (tu (tu (tu (tu (tu (tu M 0 0 0) 7 nR x) 13 nR 119) 8 nR y) 9 nR z) 10 nR (-1)) 11 nR (M 23 0)) 14 0 (nI nR + 1)) 15 0 (M 15 0 + 1)
def mCall (M : TT) (nB nR nL : Nat) (x y z : Int32) : Int32 × TT :=
  if bet x 0 (nI nB - 1) then (if bet y 0 9 then (if bet z 0 9 then (
    if y = z then mF M 2 else if mWhy M x.toNatClampNeg z.toNatClampNeg = 110 then (
      if mIsOut M x.toNatClampNeg nR = true then mF M 4 else if M 27 0 = 0 then (if nI nR = 30 then mF M 4 else (nI nR, mGives (mCall0 M nR x y z) (nR + 1) nL nR)) else mF M 4) else mF M 3)
    else mF M 1) else mF M 1) else mF M 1
def mNobody (M : TT) (nR : Nat) (x : Int32) : TT := if bet x 0 (nI nR - 1) then tu M 0 0 0 else tu M 0 0 1
def mNoLift (M : TT) (nL : Nat) (x : Int32) : TT := if bet x 0 (nI nL - 1) then tu M 0 0 0 else tu M 0 0 1
def mStateOf (M : TT) (nR : Nat) (x : Int32) : Int32 := if bet x 0 (nI nR - 1) then M 13 x.toNatClampNeg else 0
def mAim (M : TT) (nR : Nat) (x : Int32) : Int32 := if bet x 0 (nI nR - 1) then M 9 x.toNatClampNeg else 0
def mFloorOf (M : TT) (nR : Nat) (x : Int32) : Int32 := if bet x 0 (nI nR - 1) then (if M 13 x.toNatClampNeg = 97 then M 18 (M 10 x.toNatClampNeg).toNatClampNeg else M 8 x.toNatClampNeg) else 0
def mLiftOf (M : TT) (nR : Nat) (x : Int32) : Int32 × TT := if bet x 0 (nI nR - 1) then (if M 10 x.toNatClampNeg < 0 then (0, tu (tu M 0 0 0) 0 0 2) else (M 10 x.toNatClampNeg, tu M 0 0 0)) else (0, tu M 0 0 1)
def mWb (M : TT) (r : Nat) : Int32 := if M 13 r = 119 then M 23 0 - M 11 r else M 12 r - M 11 r
def mWaited (M : TT) (nR : Nat) (x : Int32) : Int32 := if bet x 0 (nI nR - 1) then mWb M x.toNatClampNeg else 0
def mFs (M : TT) (lf : Int32) (r : Nat) (n : Int32) : TT × Int32 :=
  if M 13 r = 119 then (if M 10 r < 0 then (M, n) else if 0 ≤ lf then (if M 10 r = lf then (tu M 10 r (-1), n + 1) else (M, n)) else (tu M 10 r (-1), n + 1)) else (M, n)
def mFrees (M : TT) (lf : Int32) : Nat → TT × Int32
  | 0 => (M, 0)
  | r + 1 => mFs (mFrees M lf r).1 lf r (mFrees M lf r).2
def mCallOff (M : TT) (nR nL : Nat) (x : Int32) : Int32 × TT :=
  if bet x 0 (nI nL - 1) then (if M 20 x.toNatClampNeg = 115 then (if M 27 0 = 0 then ((mFrees (tu (tu M 0 0 0) 20 x.toNatClampNeg 111) x nR).2, (mFrees (tu (tu M 0 0 0) 20 x.toNatClampNeg 111) x nR).1) else mF M 2) else mF M 2) else mF M 1
def mLiftGet (M : TT) (nL k : Nat) (x : Int32) : Int32 := if bet x 0 (nI nL - 1) then M k x.toNatClampNeg else 0
def mAboard (M : TT) (nR nL : Nat) (x : Int32) : Int32 := if bet x 0 (nI nL - 1) then mAb M x.toNatClampNeg nR else 0
def mScoreA (M : TT) (nR nL : Nat) (x y : Int32) : Int32 × TT := if bet x 0 (nI nL - 1) then (if bet y 0 9 then (mScore M nR x.toNatClampNeg y, tu M 0 0 0) else (0, tu M 0 0 1)) else (0, tu M 0 0 1)
def mO1s (M : TT) (l r : Nat) (a : Int32) : TT × Int32 :=
  if M 13 r = 97 then (if M 10 r = nI l then (if M 9 r = M 18 l then (if mWhy M (M 7 r).toNatClampNeg (M 18 l).toNatClampNeg = 110 then (mEnds M r (M 18 l), 1) else (tu (tu M 9 r 0) 25 0 (M 25 0 + 1), a)) else (M, a)) else (M, a)) else (M, a)
def mO1 (M : TT) (l : Nat) : Nat → TT × Int32
  | 0 => (M, 0)
  | r + 1 => mO1s (mO1 M l r).1 l r (mO1 M l r).2
def mO2s (M : TT) (nR l r : Nat) (a : Int32) : TT × Int32 :=
  if M 13 r = 119 then (if M 10 r = nI l then (if M 8 r = M 18 l then (if mAb M l nR = M 17 l then (M, a) else (tu (tu (tu M 13 r 97) 12 r (M 23 0)) 15 0 (M 15 0 + 1), 1)) else (M, a)) else (M, a)) else (M, a)
def mO2 (M : TT) (a : Int32) (nR l : Nat) : Nat → TT × Int32
  | 0 => (M, a)
  | r + 1 => mO2s (mO2 M a nR l r).1 nR l r (mO2 M a nR l r).2
def mOpens (M : TT) (nR l : Nat) : TT × Int32 := if M 20 l = 115 then mO2 (mO1 M l nR).1 (mO1 M l nR).2 nR l nR else mO1 M l nR
def mIsAim (M : TT) (nR l r : Nat) (f : Int32) : Bool :=
  if M 10 r = nI l then (if M 13 r = 100 then false else if M 13 r = 97 then decide (M 9 r = f) else if M 8 r = f then (if M 20 l = 115 then decide (mAb M l nR < M 17 l) else false) else false) else false
def mHasAim (M : TT) (nR l a b : Nat) : Bool := exB (fun j => exB (fun r => mIsAim M nR l r (nI (a + j))) nR) (b - a)
def mGoes (M : TT) (nR l : Nat) : TT :=
  let w := (M 18 l).toNatClampNeg
  let ab := mHasAim M nR l (w + 1) 10
  let be := mHasAim M nR l 0 w
  if ab = false ∧ be = false then (if M 20 l = 111 then tu (tu M 20 l 99) 19 l 20 else M)
  else (let u : Int32 := if M 21 l = 0 then (if be = true then 0 else 1) else (if ab = true then 1 else 0)
    tu (tu M 21 l u) 18 l (M 18 l + (if u = 0 then -1 else 1)))
def mWorks (M : TT) (nR l : Nat) : TT :=
  if M 20 l = 99 then (let M1 := tu M 19 l (M 19 l - 1); if M 19 l - 1 = 0 then tu M1 20 l 115 else M1)
  else if (mOpens M nR l).2 = 0 then mGoes (mOpens M nR l).1 nR l else tu (mOpens M nR l).1 24 0 ((mOpens M nR l).1 24 0 + 1)
def mWaitsOn (M : TT) (nR : Nat) (f : Int32) : Bool := exB (fun r => decide (M 13 r = 119) && decide (M 8 r = f)) nR
def mTn (M : TT) (nR : Nat) : Nat → Nat → Int32
  | 0, _ => -1
  | n + 1, k => if mWaitsOn M nR (M 26 0 + nI k) = true then M 26 0 + nI k else if mWaitsOn M nR (M 26 0 - nI k) = true then M 26 0 - nI k else mTn M nR n (k + 1)
def mOm (M : TT) : Nat → Int32
  | 0 => 0
  | r + 1 => mOm M r + (if M 13 r = 100 then 0 else 1)
def mGs (M : TT) (nR nL : Nat) (t : Int32) (r : Nat) : TT :=
  if M 13 r = 119 then (if M 10 r < 0 then (if M 27 0 = 0 then mGives M nR nL r else if M 8 r = t then mGives M nR nL r else M) else M) else M
def mGall (M : TT) (nR nL : Nat) (t : Int32) : Nat → TT
  | 0 => M
  | r + 1 => mGs (mGall M nR nL t r) nR nL t r
def mWall (M : TT) (nR : Nat) : Nat → TT
  | 0 => M
  | l + 1 => mWorks (mWall M nR l) nR l
def mPt (M : TT) (nR : Nat) : Int32 := if M 27 0 = 0 then -1 else mTn M nR 10 0
def mP1 (M : TT) (nR : Nat) : TT := if M 27 0 = 0 then M else (mFrees M (-1) nR).1
def mPend (M : TT) (nR : Nat) : TT := tu (tu M 23 0 (M 23 0 + 1)) 27 0 (if M 27 0 = 0 then 0 else if 0 < mOm M nR then 1 else 0)
def mPass1 (M : TT) (nR nL : Nat) : TT := mPend (mWall (mGall (mP1 M nR) nR nL (mPt M nR) nR) nR nL) nR
def mPassN (M : TT) (nR nL : Nat) : Nat → TT
  | 0 => M
  | n + 1 => mPass1 (mPassN M nR nL n) nR nL
def mPass (M : TT) (nR nL : Nat) (x : Int32) : Int32 × TT :=
  if bet x 1 100 then ((mPassN (tu M 0 0 0) nR nL x.toNatClampNeg) 16 0 - M 16 0, mPassN (tu M 0 0 0) nR nL x.toNatClampNeg) else mF M 1
def mAls (M : TT) (r : Nat) : TT :=
  if M 13 r = 100 then M else if M 13 r = 119 then (if M 8 r = 0 then mEnds (tu M 9 r 0) r 0 else tu M 9 r 0) else tu M 9 r 0
def mAl (M : TT) : Nat → TT
  | 0 => M
  | r + 1 => mAls (mAl M r) r
def mAlarm (M : TT) (nR : Nat) (x : Int32) : Int32 × TT :=
  if bet x 0 9 then (if M 27 0 = 0 then (if mOm M nR = 0 then mF M 2 else
    (let M1 := mAl (mFrees (tu (tu (tu M 0 0 0) 27 0 1) 26 0 x) (-1) nR).1 nR; (mOm M1 nR, M1))) else mF M 2) else mF M 1
def mTurn (M : TT) (nR : Nat) : Int32 × TT := if mPt M nR < 0 then mF M 1 else (mPt M nR, tu M 0 0 0)
def mWsum (M : TT) : Nat → Int32
  | 0 => 0
  | r + 1 => mWsum M r + mWb M r
/-! numbers -/
theorem I32le {a b : Int32} : a ≤ b ↔ a.toInt ≤ b.toInt := Int32.le_iff_toInt_le
theorem bet_nI {x : Int32} (lo hi : Int32) (a b : Nat) (h : bet x lo hi) (h1 : lo.toInt = a) (h2 : hi.toInt = b) : ∃ j : Nat, x = nI j ∧ a ≤ j ∧ j ≤ b := by
  obtain ⟨q1, q2⟩ := h
  rw [I32le] at q1 q2
  have hx : ¬ x < 0 := by
    rw [Int32.lt_iff_toInt_lt]
    have : (0 : Int32).toInt = 0 := rfl
    omega
  obtain ⟨j, hj, rfl⟩ := nI_of hx
  rw [nI_toInt hj] at q1 q2
  exact ⟨j, rfl, by omega, by omega⟩
theorem pred_toInt {n : Nat} (hn : n < 1000) : (nI n - 1).toInt = (n : Int) - 1 := pk_sub_toInt (b := 1) (by omega) (by omega)
theorem betc_nI {x : Int32} {n : Nat} (h : bet x 0 (nI n - 1)) (hn : n < 1000) : ∃ j : Nat, x = nI j ∧ j < n := by
  obtain ⟨q1, q2⟩ := h
  rw [I32le] at q1 q2
  rw [pred_toInt hn] at q2
  have h0 : (0 : Int32).toInt = 0 := rfl
  have hx : ¬ x < 0 := by
    rw [Int32.lt_iff_toInt_lt]
    omega
  obtain ⟨j, hj, rfl⟩ := nI_of hx
  rw [nI_toInt hj] at q1 q2
  exact ⟨j, rfl, by omega⟩
theorem le_pred {f b : Nat} (hf : f < 1000) (hb : b < 1000) : nI f ≤ nI b - 1 ↔ f < b := by
  rw [I32le, pred_toInt hb, nI_toInt (by omega)]
  omega
