/-! what the model's methods do, as functions of the table -/
def mTod (M : TT) : Int32 := M 23 0 - M 23 0 / 100 * 100
def mWhy (M : TT) (b f : Nat) : Int32 :=
  if nI f = 0 then 110 else if M 5 b = 0 then (if M 1 f = -1 then (if M 2 f ≤ mTod M ∧ mTod M ≤ M 3 f - 1 then 110 else 104) else (if M 1 f = M 4 b then 110 else 116)) else 114
def mAb (M : TT) (l : Nat) : Nat → Int32
  | 0 => 0
  | r + 1 => mAb M l r + (if M 13 r = 97 then (if M 10 r = nI l then 1 else 0) else 0)
def mSn (M : TT) (l : Nat) : Nat → Int32
  | 0 => 0
  | r + 1 => mSn M l r + (if M 13 r = 100 then 0 else (if M 10 r = nI l then 1 else 0))
def iabs (x : Int32) : Int32 := if 0 ≤ x then x else 0 - x
def mScore (M : TT) (nR l : Nat) (fl : Int32) : Int32 := iabs (M 18 l - fl) + 2 * mSn M l nR
def oI : Option Nat → Int32
  | none => -1
  | some b => nI b
def mBst (M : TT) (nR : Nat) (fl : Int32) : Nat → Option Nat
  | 0 => none
  | l + 1 => if M 20 l = 115 then (match mBst M nR fl l with
      | none => some l
      | some b => if mScore M nR b fl ≤ mScore M nR l fl then some b else some l) else mBst M nR fl l
def mGives (M : TT) (nR nL r : Nat) : TT := tu M 10 r (oI (mBst M nR (M 8 r) nL))
def mEnds (M : TT) (r : Nat) (f : Int32) : TT :=
  tu (tu (tu (tu (tu (if M 13 r = 119 then tu M 12 r (M 23 0) else M) 13 r 100) 8 r f) 10 r (-1)) 15 0 (M 15 0 + 1)) 16 0 (M 16 0 + 1)
def exB (p : Nat → Bool) : Nat → Bool
  | 0 => false
  | n + 1 => exB p n || p n
theorem exB_iff {p : Nat → Bool} {n : Nat} : exB p n = true ↔ ∃ i, i < n ∧ p i = true := by
  induction n with
  | zero => simp [exB]
  | succ n ih =>
    simp only [exB, Bool.or_eq_true, ih]
    constructor
    · rintro (⟨i, h1, h2⟩ | h)
      · exact ⟨i, by omega, h2⟩
      · exact ⟨n, by omega, h⟩
    · rintro ⟨i, h1, h2⟩
      rcases Nat.lt_or_ge i n with h | h
      · exact Or.inl ⟨i, h, h2⟩
      · have : i = n := by omega
        subst this; exact Or.inr h2
theorem exB_of {p : Nat → Bool} {n i : Nat} (hi : i < n) (h : p i = true) : exB p n = true := exB_iff.mpr ⟨i, hi, h⟩
abbrev bet (x lo hi : Int32) : Prop := lo ≤ x ∧ x ≤ hi
def mF (M : TT) (k : Int32) : Int32 × TT := (0, tu (tu M 0 0 0) 0 0 k)
def mAddLift (M : TT) (nL : Nat) (x : Int32) : Int32 × TT :=
  if bet x 1 4 then (if nI nL = 3 then mF M 2 else (nI nL + 1 - 1, tu (tu (tu (tu (tu M 0 0 0) 17 nL x) 20 nL 115) 21 nL 1) 22 0 (nI nL + 1))) else mF M 1
def mSetTenant (M : TT) (x y : Int32) : Int32 × TT :=
  if bet x 1 9 then (if bet y (-1) 3 then (M 1 x.toNatClampNeg, tu (tu M 0 0 0) 1 x.toNatClampNeg y) else mF M 2) else mF M 1
def mSetHours (M : TT) (x y z : Int32) : Int32 × TT :=
  if bet x 1 9 then (if bet y 0 99 then (if bet z (y + 1) 100 then (z - y, tu (tu (tu M 0 0 0) 2 x.toNatClampNeg y) 3 x.toNatClampNeg z) else mF M 2) else mF M 2) else mF M 1
def mAddBadge (M : TT) (nB : Nat) (x : Int32) : Int32 × TT :=
  if bet x 0 3 then (if nI nB = 8 then mF M 2 else (nI nB + 1 - 1, tu (tu (tu M 0 0 0) 4 nB x) 6 0 (nI nB + 1))) else mF M 1
def mSetRevoked (M : TT) (nB : Nat) (x v : Int32) : Int32 × TT :=
  if bet x 0 (nI nB - 1) then (M 5 x.toNatClampNeg, tu (tu M 0 0 0) 5 x.toNatClampNeg v) else mF M 1
def mReason (M : TT) (nB : Nat) (x y : Int32) : Int32 × TT :=
  if bet x 0 (nI nB - 1) then (if bet y 0 9 then (mWhy (tu M 0 0 0) x.toNatClampNeg y.toNatClampNeg, tu M 0 0 0) else mF M 1) else mF M 1
def mIsOut (M : TT) (b nR : Nat) : Bool := exB (fun r => decide (M 7 r = nI b) && !decide (M 13 r = 100)) nR
def mCall0 (M : TT) (nR : Nat) (x y z : Int32) : TT :=
  tu (tu (tu (tu (tu (tu (tu (tu (tu M 0 0 0) 7 nR x) 13 nR 119) 8 nR y) 9 nR z) 10 nR (-1)) 11 nR (M 23 0)) 14 0 (nI nR + 1)) 15 0 (M 15 0 + 1)
def mCall (M : TT) (nB nR nL : Nat) (x y z : Int32) : Int32 × TT :=
  if bet x 0 (nI nB - 1) then (if bet y 0 9 then (if bet z 0 9 then (
    if y = z then mF M 2 else if mWhy (tu M 0 0 0) x.toNatClampNeg z.toNatClampNeg = 110 then (
      if mIsOut (tu M 0 0 0) x.toNatClampNeg nR = true then mF M 4 else if M 27 0 = 0 then (if nI nR = 30 then mF M 4 else (nI nR, mGives (mCall0 M nR x y z) (nR + 1) nL nR)) else mF M 4) else mF M 3)
    else mF M 1) else mF M 1) else mF M 1
def mNobody (M : TT) (nR : Nat) (x : Int32) : TT := if bet x 0 (nI nR - 1) then tu M 0 0 0 else tu M 0 0 1
def mNoLift (M : TT) (nL : Nat) (x : Int32) : TT := if bet x 0 (nI nL - 1) then tu M 0 0 0 else tu M 0 0 1
def mStateOf (M : TT) (nR : Nat) (x : Int32) : Int32 := if bet x 0 (nI nR - 1) then M 13 x.toNatClampNeg else 0
def mAim (M : TT) (nR : Nat) (x : Int32) : Int32 := if bet x 0 (nI nR - 1) then M 9 x.toNatClampNeg else 0
def mFloorOf (M : TT) (nR : Nat) (x : Int32) : Int32 := if bet x 0 (nI nR - 1) then (if M 13 x.toNatClampNeg = 97 then M 18 (M 10 x.toNatClampNeg).toNatClampNeg else M 8 x.toNatClampNeg) else 0
def mLiftOf (M : TT) (nR : Nat) (x : Int32) : Int32 × TT := if bet x 0 (nI nR - 1) then (if M 10 x.toNatClampNeg < 0 then (0, tu (tu M 0 0 0) 0 0 2) else (M 10 x.toNatClampNeg, tu M 0 0 0)) else (0, tu M 0 0 1)
def mWb (M : TT) (r : Nat) : Int32 := if M 13 r = 119 then M 23 0 - M 11 r else M 12 r - M 11 r
def mWaited (M : TT) (nR : Nat) (x : Int32) : Int32 := if bet x 0 (nI nR - 1) then mWb M x.toNatClampNeg else 0
def mFs (M : TT) (lf : Int32) (r : Nat) (n : Int32) : TT × Int32 :=
  if M 13 r = 119 then (if M 10 r < 0 then (M, n) else if lf < 0 then (tu M 10 r (-1), n + 1) else if M 10 r = lf then (tu M 10 r (-1), n + 1) else (M, n)) else (M, n)
def mFrees (M : TT) (lf : Int32) : Nat → TT × Int32
  | 0 => (M, 0)
  | r + 1 => mFs (mFrees M lf r).1 lf r (mFrees M lf r).2
def mCallOff (M : TT) (nR nL : Nat) (x : Int32) : Int32 × TT :=
  if bet x 0 (nI nL - 1) then (if M 20 x.toNatClampNeg = 115 then (if M 27 0 = 0 then ((mFrees (tu (tu M 0 0 0) 20 x.toNatClampNeg 111) x nR).2, (mFrees (tu (tu M 0 0 0) 20 x.toNatClampNeg 111) x nR).1) else mF M 2) else mF M 2) else mF M 1
def mLiftGet (M : TT) (nL k : Nat) (x : Int32) : Int32 := if bet x 0 (nI nL - 1) then M k x.toNatClampNeg else 0
def mAboard (M : TT) (nR nL : Nat) (x : Int32) : Int32 := if bet x 0 (nI nL - 1) then mAb M x.toNatClampNeg nR else 0
def mScoreA (M : TT) (nR nL : Nat) (x y : Int32) : Int32 × TT := if bet x 0 (nI nL - 1) then (if bet y 0 9 then (mScore M nR x.toNatClampNeg y, tu M 0 0 0) else (0, tu M 0 0 1)) else (0, tu M 0 0 1)
def mO1s (M : TT) (l r : Nat) (a : Int32) : TT × Int32 :=
  if M 13 r = 97 then (if M 10 r = nI l then (if M 9 r = M 18 l then (if mWhy M (M 7 r).toNatClampNeg (M 18 l).toNatClampNeg = 110 then (mEnds M r (M 18 l), 1) else (tu (tu M 9 r 0) 25 0 (M 25 0 + 1), a)) else (M, a)) else (M, a)) else (M, a)
def mO1 (M : TT) (l : Nat) : Nat → TT × Int32
  | 0 => (M, 0)
  | r + 1 => mO1s (mO1 M l r).1 l r (mO1 M l r).2
def mO2s (M : TT) (nR l r : Nat) (a : Int32) : TT × Int32 :=
  if M 13 r = 119 then (if M 10 r = nI l then (if M 8 r = M 18 l then (if mAb M l nR = M 17 l then (M, a) else (tu (tu (tu M 13 r 97) 12 r (M 23 0)) 15 0 (M 15 0 + 1), 1)) else (M, a)) else (M, a)) else (M, a)
def mO2 (M : TT) (a : Int32) (nR l : Nat) : Nat → TT × Int32
  | 0 => (M, a)
  | r + 1 => mO2s (mO2 M a nR l r).1 nR l r (mO2 M a nR l r).2
def mOpens (M : TT) (nR l : Nat) : TT × Int32 := if M 20 l = 115 then mO2 (mO1 M l nR).1 (mO1 M l nR).2 nR l nR else mO1 M l nR
def mIsAim (M : TT) (nR l r : Nat) (f : Int32) : Bool :=
  if M 10 r = nI l then (if M 13 r = 100 then false else if M 13 r = 97 then decide (M 9 r = f) else if M 8 r = f then (if M 20 l = 115 then !decide (M 17 l ≤ mAb M l nR) else false) else false) else false
def mHasAim (M : TT) (nR l a b : Nat) : Bool := exB (fun j => exB (fun r => mIsAim M nR l r (nI (a + j))) nR) (b - a)
def mGo2 (M : TT) (nR l w : Nat) : TT :=
  if M 21 l = 0 then (if mHasAim M nR l 0 w = true then tu (tu M 21 l 0) 18 l (nI w + (-1)) else tu (tu M 21 l 1) 18 l (nI w + 1))
  else (if mHasAim M nR l (w + 1) 10 = true then tu (tu M 21 l (b2i (mHasAim M nR l (w + 1) 10 = true))) 18 l (nI w + 1) else tu (tu M 21 l (b2i (mHasAim M nR l (w + 1) 10 = true))) 18 l (nI w + (-1)))
def mGoes (M : TT) (nR l w : Nat) : TT :=
  if mHasAim M nR l (w + 1) 10 = true then mGo2 M nR l w else if mHasAim M nR l 0 w = true then mGo2 M nR l w
  else (if M 20 l = 111 then tu (tu M 20 l 99) 19 l 20 else M)
def mWorks (M : TT) (nR l : Nat) : TT :=
  if M 20 l = 99 then (if M 19 l - 1 = 0 then tu (tu M 19 l (M 19 l - 1)) 20 l 115 else tu M 19 l (M 19 l - 1))
  else if (mOpens M nR l).2 = 0 then mGoes (mOpens M nR l).1 nR l (M 18 l).toNatClampNeg else tu (mOpens M nR l).1 24 0 ((mOpens M nR l).1 24 0 + 1)
def mWaitsOn (M : TT) (nR : Nat) (f : Int32) : Bool := exB (fun r => decide (M 13 r = 119) && decide (M 8 r = f)) nR
def mTn (M : TT) (nR : Nat) : Nat → Nat → Int32
  | 0, _ => -1
  | n + 1, k => if mWaitsOn M nR (M 26 0 + nI k) = true then M 26 0 + nI k else if mWaitsOn M nR (M 26 0 - nI k) = true then M 26 0 - nI k else mTn M nR n (k + 1)
def mOm (M : TT) : Nat → Int32
  | 0 => 0
  | r + 1 => mOm M r + (if M 13 r = 100 then 0 else 1)
def mGs (M : TT) (nR nL : Nat) (t : Int32) (r : Nat) : TT :=
  if M 13 r = 119 then (if 0 ≤ M 10 r then M else (if M 27 0 = 0 then mGives M nR nL r else if M 8 r = t then mGives M nR nL r else M)) else M
def mGall (M : TT) (nR nL : Nat) (t : Int32) : Nat → TT
  | 0 => M
  | r + 1 => mGs (mGall M nR nL t r) nR nL t r
def mWall (M : TT) (nR : Nat) : Nat → TT
  | 0 => M
  | l + 1 => mWorks (mWall M nR l) nR l
def mPt (M : TT) (nR : Nat) : Int32 := if M 27 0 = 0 then -1 else mTn M nR 10 0
def mP1 (M : TT) (nR : Nat) : TT := if M 27 0 = 0 then M else (mFrees M (-1) nR).1
def mPend (M : TT) (nR : Nat) : TT := tu (tu M 23 0 (M 23 0 + 1)) 27 0 (if M 27 0 = 0 then 0 else if mOm (tu M 23 0 (M 23 0 + 1)) nR ≤ 0 then 0 else 1)
def mPass1 (M : TT) (nR nL : Nat) : TT := mPend (mWall (mGall (mP1 M nR) nR nL (mPt M nR) nR) nR nL) nR
def mPassN (M : TT) (nR nL : Nat) : Nat → TT
  | 0 => M
  | n + 1 => mPass1 (mPassN M nR nL n) nR nL
def mPass (M : TT) (nR nL : Nat) (x : Int32) : Int32 × TT :=
  if bet x 1 100 then ((mPassN (tu M 0 0 0) nR nL x.toNatClampNeg) 16 0 - M 16 0, mPassN (tu M 0 0 0) nR nL x.toNatClampNeg) else mF M 1
def mAls (M : TT) (r : Nat) : TT :=
  if M 13 r = 100 then M else if M 13 r = 119 then (if M 8 r = 0 then mEnds (tu M 9 r 0) r 0 else tu M 9 r 0) else tu M 9 r 0
def mAl (M : TT) : Nat → TT
  | 0 => M
  | r + 1 => mAls (mAl M r) r
def mAlarm (M : TT) (nR : Nat) (x : Int32) : Int32 × TT :=
  if bet x 0 9 then (if M 27 0 = 0 then (if mOm (tu M 0 0 0) nR = 0 then mF M 2 else
    (let M1 := mAl (mFrees (tu (tu (tu M 0 0 0) 27 0 1) 26 0 x) (-1) nR).1 nR; (mOm M1 nR, M1))) else mF M 2) else mF M 1
def mTurn (M : TT) (nR : Nat) : Int32 × TT := if 0 ≤ mPt (tu M 0 0 0) nR then (mPt (tu M 0 0 0) nR, tu M 0 0 0) else mF M 1
def mIsUp (M : TT) (nL : Nat) (x : Int32) : Int32 := b2i (bet x 0 (nI nL - 1) ∧ ¬ M 21 x.toNatClampNeg = 0)
def mWsum (M : TT) : Nat → Int32
  | 0 => 0
  | r + 1 => mWsum M r + mWb M r
/-! numbers -/
theorem I32le {a b : Int32} : a ≤ b ↔ a.toInt ≤ b.toInt := Int32.le_iff_toInt_le
theorem bet_nI {x : Int32} (lo hi : Int32) (a b : Nat) (h : bet x lo hi) (h1 : lo.toInt = a) (h2 : hi.toInt = b) : ∃ j : Nat, x = nI j ∧ a ≤ j ∧ j ≤ b := by
  obtain ⟨q1, q2⟩ := h
  rw [I32le] at q1 q2
  have hx : ¬ x < 0 := by
    rw [Int32.lt_iff_toInt_lt]
    have : (0 : Int32).toInt = 0 := rfl
    omega
  obtain ⟨j, hj, rfl⟩ := nI_of hx
  rw [nI_toInt hj] at q1 q2
  exact ⟨j, rfl, by omega, by omega⟩
theorem pred_toInt {n : Nat} (hn : n < 1000) : (nI n - 1).toInt = (n : Int) - 1 := pk_sub_toInt (b := 1) (by omega) (by omega)
theorem betc_nI {x : Int32} {n : Nat} (h : bet x 0 (nI n - 1)) (hn : n < 1000) : ∃ j : Nat, x = nI j ∧ j < n := by
  obtain ⟨q1, q2⟩ := h
  rw [I32le] at q1 q2
  rw [pred_toInt hn] at q2
  have h0 : (0 : Int32).toInt = 0 := rfl
  have hx : ¬ x < 0 := by
    rw [Int32.lt_iff_toInt_lt]
    omega
  obtain ⟨j, hj, rfl⟩ := nI_of hx
  rw [nI_toInt hj] at q1 q2
  exact ⟨j, rfl, by omega⟩
theorem le_pred {f b : Nat} (hf : f < 1000) (hb : b < 1000) : nI f ≤ nI b - 1 ↔ f < b := by
  rw [I32le, pred_toInt hb, nI_toInt (by omega)]
  omega
/-! rows that stay -/
def mOk (k : Nat) : Bool := !(k == 8 || k == 9 || k == 10 || k == 12 || k == 13 || k == 15 || k == 16 || k == 25)
def mWk (k : Nat) : Bool := mOk k && !(k == 18 || k == 19 || k == 20 || k == 21 || k == 24)
theorem mEnds_k {M : TT} {r k : Nat} {f : Int32} (h : mOk k = true) : mEnds M r f k = M k := by
  have h8 : k ≠ 8 := by rintro rfl; cases h
  have h10 : k ≠ 10 := by rintro rfl; cases h
  have h12 : k ≠ 12 := by rintro rfl; cases h
  have h13 : k ≠ 13 := by rintro rfl; cases h
  have h15 : k ≠ 15 := by rintro rfl; cases h
  have h16 : k ≠ 16 := by rintro rfl; cases h
  unfold mEnds
  rw [tu_r h16, tu_r h15, tu_r h10, tu_r h8, tu_r h13]
  split
  · rw [tu_r h12]
  · rfl
theorem mGives_k {M : TT} {nR nL r k : Nat} (h : k ≠ 10) : mGives M nR nL r k = M k := tu_r h
theorem mFs_k {M : TT} {lf n : Int32} {r k : Nat} (h : k ≠ 10) : (mFs M lf r n).1 k = M k := by
  unfold mFs
  repeat' split
  all_goals first | rfl | exact tu_r h
theorem mFrees_k {M : TT} {lf : Int32} {k : Nat} (h : k ≠ 10) : ∀ r, (mFrees M lf r).1 k = M k
  | 0 => rfl
  | r + 1 => (mFs_k h).trans (mFrees_k h r)
theorem mO1s_k {M : TT} {l r k : Nat} {a : Int32} (h : mOk k = true) : (mO1s M l r a).1 k = M k := by
  have h9 : k ≠ 9 := by rintro rfl; cases h
  have h25 : k ≠ 25 := by rintro rfl; cases h
  unfold mO1s
  repeat' split
  all_goals first | rfl | exact mEnds_k h | (show tu _ _ _ _ k = _; rw [tu_r h25, tu_r h9])
theorem mO1_k {M : TT} {l k : Nat} (h : mOk k = true) : ∀ r, (mO1 M l r).1 k = M k
  | 0 => rfl
  | r + 1 => (mO1s_k h).trans (mO1_k h r)
theorem mO2s_k {M : TT} {nR l r k : Nat} {a : Int32} (h : mOk k = true) : (mO2s M nR l r a).1 k = M k := by
  have h12 : k ≠ 12 := by rintro rfl; cases h
  have h13 : k ≠ 13 := by rintro rfl; cases h
  have h15 : k ≠ 15 := by rintro rfl; cases h
  unfold mO2s
  repeat' split
  all_goals first | rfl | (show tu _ _ _ _ k = _; rw [tu_r h15, tu_r h12, tu_r h13])
theorem mO2_k {M : TT} {nR l k : Nat} {a : Int32} (h : mOk k = true) : ∀ r, (mO2 M a nR l r).1 k = M k
  | 0 => rfl
  | r + 1 => (mO2s_k h).trans (mO2_k h r)
theorem mOpens_k {M : TT} {nR l k : Nat} (h : mOk k = true) : (mOpens M nR l).1 k = M k := by
  unfold mOpens
  split
  · exact (mO2_k h nR).trans (mO1_k h nR)
  · exact mO1_k h nR
theorem mGo2_k {M : TT} {nR l w k : Nat} (h : k ≠ 21) (h2 : k ≠ 18) : mGo2 M nR l w k = M k := by
  unfold mGo2
  repeat' split
  all_goals rw [tu_r h2, tu_r h]
theorem mGoes_k {M : TT} {nR l w k : Nat} (h : k ≠ 21) (h2 : k ≠ 18) (h3 : k ≠ 20) (h4 : k ≠ 19) : mGoes M nR l w k = M k := by
  unfold mGoes
  repeat' split
  all_goals first | exact mGo2_k h h2 | rfl | rw [tu_r h4, tu_r h3]
theorem mWorks_k {M : TT} {nR l k : Nat} (h : mWk k = true) : mWorks M nR l k = M k := by
  have h0 : mOk k = true := by
    unfold mWk at h
    exact (Bool.and_eq_true_iff.mp h).1
  have h18 : k ≠ 18 := by rintro rfl; cases h
  have h19 : k ≠ 19 := by rintro rfl; cases h
  have h20 : k ≠ 20 := by rintro rfl; cases h
  have h21 : k ≠ 21 := by rintro rfl; cases h
  have h24 : k ≠ 24 := by rintro rfl; cases h
  unfold mWorks
  repeat' split
  · rw [tu_r h20, tu_r h19]
  · rw [tu_r h19]
  · rw [mGoes_k h21 h18 h20 h19, mOpens_k h0]
  · rw [tu_r h24, mOpens_k h0]
/-- every lift is on a floor -/
def mWh (M : TT) (nL : Nat) : Prop := ∀ l, l < nL → ∃ w, w < 10 ∧ M 18 l = nI w
theorem mHasAim_lt {M : TT} {nR l a b : Nat} (h : mHasAim M nR l a b = true) : a < b := by
  obtain ⟨j, hj, -⟩ := exB_iff.mp h
  omega
theorem mGo2_wh {M : TT} {nR l w nL : Nat} (hm : mWh M nL) (hl : l < nL) (hw : M 18 l = nI w) (hw10 : w < 10) (h : mHasAim M nR l (w + 1) 10 = true ∨ mHasAim M nR l 0 w = true) : mWh (mGo2 M nR l w) nL := by
  have key : ∀ (v : Int32) (q : TT) (w2 : Nat), w2 < 10 → v = nI w2 → (∀ l2, l2 ≠ l → q 18 l2 = M 18 l2) → mWh (tu q 18 l v) nL := by
    intro v q w2 h1 h2 h3 l2 hl2
    by_cases e : l2 = l
    · subst e; exact ⟨w2, h1, by rw [tu_s, h2]⟩
    · obtain ⟨w3, h4, h5⟩ := hm l2 hl2
      exact ⟨w3, h4, by rw [tu_i e, h3 l2 e, h5]⟩
  have up : ∀ (q : TT), mHasAim M nR l (w + 1) 10 = true → (∀ l2, l2 ≠ l → q 18 l2 = M 18 l2) → mWh (tu q 18 l (nI w + 1)) nL := by
    intro q h1 h2
    have := mHasAim_lt h1
    exact key _ q (w + 1) (by omega) (nI_1 w) h2
  have dn : ∀ (q : TT), mHasAim M nR l 0 w = true → (∀ l2, l2 ≠ l → q 18 l2 = M 18 l2) → mWh (tu q 18 l (nI w + (-1))) nL := by
    intro q h1 h2
    have := mHasAim_lt h1
    obtain ⟨v, rfl⟩ : ∃ v, w = v + 1 := ⟨w - 1, by omega⟩
    exact key _ q v (by omega) (pk_m1 v) h2
  unfold mGo2
  split
  · split
    · exact dn _ (by assumption) (fun l2 _ => tu_k (by decide))
    · exact up _ (by rcases h with h | h <;> first | assumption | contradiction) (fun l2 _ => tu_k (by decide))
  · split
    · exact up _ (by assumption) (fun l2 _ => tu_k (by decide))
    · exact dn _ (by rcases h with h | h <;> first | assumption | contradiction) (fun l2 _ => tu_k (by decide))
theorem mWh_of {M N : TT} {nL : Nat} (h : mWh M nL) (e : N 18 = M 18) : mWh N nL := fun l hl => by
  obtain ⟨w, h1, h2⟩ := h l hl
  exact ⟨w, h1, by rw [e]; exact h2⟩
theorem mGoes_wh {M : TT} {nR l w nL : Nat} (hm : mWh M nL) (hl : l < nL) (hw : M 18 l = nI w) (hw10 : w < 10) : mWh (mGoes M nR l w) nL := by
  unfold mGoes
  repeat' split
  · exact mGo2_wh hm hl hw hw10 (Or.inl (by assumption))
  · exact mGo2_wh hm hl hw hw10 (Or.inr (by assumption))
  · exact mWh_of hm (by rw [tu_r (by decide), tu_r (by decide)])
  · exact hm
theorem mWorks_wh {M : TT} {nR l nL : Nat} (hm : mWh M nL) (hl : l < nL) : mWh (mWorks M nR l) nL := by
  obtain ⟨w, h1, h2⟩ := hm l hl
  unfold mWorks
  repeat' split
  · exact mWh_of hm (by rw [tu_r (by decide), tu_r (by decide)])
  · exact mWh_of hm (by rw [tu_r (by decide)])
  · rw [h2, nI_clamp (by omega)]
    exact mGoes_wh (mWh_of hm (mOpens_k rfl)) hl (by rw [mOpens_k rfl]; exact h2) h1
  · exact mWh_of hm (by rw [tu_r (by decide), mOpens_k rfl])
theorem mWall_k {M : TT} {nR k : Nat} (h : mWk k = true) : ∀ n, mWall M nR n k = M k
  | 0 => rfl
  | n + 1 => (mWorks_k h).trans (mWall_k h n)
theorem mWall_wh {M : TT} {nR nL : Nat} (hm : mWh M nL) : ∀ n, n ≤ nL → mWh (mWall M nR n) nL
  | 0, _ => hm
  | n + 1, h => mWorks_wh (mWall_wh hm n (by omega)) (by omega)
theorem mGs_k {M : TT} {nR nL r k : Nat} {t : Int32} (h : k ≠ 10) : mGs M nR nL t r k = M k := by
  unfold mGs
  repeat' split
  all_goals first | rfl | exact mGives_k h
theorem mGall_k {M : TT} {nR nL k : Nat} {t : Int32} (h : k ≠ 10) : ∀ n, mGall M nR nL t n k = M k
  | 0 => rfl
  | n + 1 => (mGs_k h).trans (mGall_k h n)
theorem mP1_k {M : TT} {nR k : Nat} (h : k ≠ 10) : mP1 M nR k = M k := by
  unfold mP1
  split
  · rfl
  · exact mFrees_k h nR
theorem mWk_10 {k : Nat} (h : mWk k = true) : k ≠ 10 := by rintro rfl; cases h
theorem mPass1_k {M : TT} {nR nL k : Nat} (h : mWk k = true) (h23 : k ≠ 23) (h27 : k ≠ 27) : mPass1 M nR nL k = M k := by
  unfold mPass1 mPend
  rw [tu_r h27, tu_r h23, mWall_k h, mGall_k (mWk_10 h), mP1_k (mWk_10 h)]
theorem mPass1_wh {M : TT} {nR nL : Nat} (hm : mWh M nL) : mWh (mPass1 M nR nL) nL := by
  unfold mPass1 mPend
  refine mWh_of (mWall_wh (mWh_of hm ?_) nL (Nat.le_refl _)) (by rw [tu_r (by decide), tu_r (by decide)])
  rw [mGall_k (by decide), mP1_k (by decide)]
theorem mPassN_k {M : TT} {nR nL k : Nat} (h : mWk k = true) (h23 : k ≠ 23) (h27 : k ≠ 27) : ∀ n, mPassN M nR nL n k = M k
  | 0 => rfl
  | n + 1 => (mPass1_k h h23 h27).trans (mPassN_k h h23 h27 n)
theorem mPassN_wh {M : TT} {nR nL : Nat} (hm : mWh M nL) : ∀ n, mWh (mPassN M nR nL n) nL
  | 0 => hm
  | n + 1 => mPass1_wh (mPassN_wh hm n)
theorem mAls_k {M : TT} {r k : Nat} (h : mOk k = true) : mAls M r k = M k := by
  have h9 : k ≠ 9 := by rintro rfl; cases h
  unfold mAls
  repeat' split
  all_goals first | rfl | exact tu_r h9 | (rw [mEnds_k h, tu_r h9])
theorem mAl_k {M : TT} {k : Nat} (h : mOk k = true) : ∀ r, mAl M r k = M k
  | 0 => rfl
  | r + 1 => (mAls_k h).trans (mAl_k h r)
theorem mWhy_c {M : TT} {b f : Nat} : narrow .char (.int (mWhy M b f)) = .int (mWhy M b f) := by
  unfold mWhy
  repeat' split
  all_goals rfl
theorem i2c_0 : ((0 : Int32).toUInt32 % 65536).toInt32 = 0 := by decide
theorem mWb_0 {M : TT} {v : Int32} {r : Nat} : mWb (tu M 0 0 v) r = mWb M r := by simp only [mWb, tu_k (show (13 : Nat) ≠ 0 by decide), tu_k (show (23 : Nat) ≠ 0 by decide), tu_k (show (11 : Nat) ≠ 0 by decide), tu_k (show (12 : Nat) ≠ 0 by decide)]
theorem mAb_cg {M N : TT} {l : Nat} (h13 : N 13 = M 13) (h10 : N 10 = M 10) : ∀ n, mAb N l n = mAb M l n
  | 0 => rfl
  | n + 1 => by simp only [mAb, h13, h10, mAb_cg h13 h10 n]
theorem mAb_0 {M : TT} {v : Int32} {l n : Nat} : mAb (tu M 0 0 v) l n = mAb M l n := mAb_cg (tu_r (by decide)) (tu_r (by decide)) n
theorem mSn_cg {M N : TT} {l : Nat} (h13 : N 13 = M 13) (h10 : N 10 = M 10) : ∀ n, mSn N l n = mSn M l n
  | 0 => rfl
  | n + 1 => by simp only [mSn, h13, h10, mSn_cg h13 h10 n]
theorem mScore_cg {M N : TT} {nR l : Nat} {f : Int32} (h13 : N 13 = M 13) (h10 : N 10 = M 10) (h18 : N 18 = M 18) : mScore N nR l f = mScore M nR l f := by
  simp only [mScore, h18, mSn_cg h13 h10]
theorem mScore_0 {M : TT} {v : Int32} {nR l : Nat} {f : Int32} : mScore (tu M 0 0 v) nR l f = mScore M nR l f := mScore_cg (tu_r (by decide)) (tu_r (by decide)) (tu_r (by decide))
theorem al_e {X N : TT} {i n : Nat} (h : N = mAl X i) (e : i = n) : mAl X n = N := by rw [h, e]
theorem gall_e {X N : TT} {nR nL i n : Nat} {t : Int32} (h : N = mGall X nR nL t i) (e : i = n) : mGall X nR nL t n = N := by rw [h, e]
theorem wall_e {X N : TT} {nR i n : Nat} (h : N = mWall X nR i) (e : i = n) : mWall X nR n = N := by rw [h, e]
theorem passN_e {X N : TT} {nR nL i n : Nat} (h : N = mPassN X nR nL i) (e : i = n) : mPassN X nR nL n = N := by rw [h, e]
