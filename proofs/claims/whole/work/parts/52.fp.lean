/-! no NaN -/
theorem fp_share : ∀ a, a < 31 → ∀ b, b < 31 → b ≠ 0 → ((FP.fdiv (FP.i2f (nI a)) (FP.i2f (nI b))) &&& 0x7fffffff ≤ 0x7f800000) ∧ ((FP.f2d (FP.fdiv (FP.i2f (nI a)) (FP.i2f (nI b)))) &&& 0x7fffffffffffffff ≤ 0x7ff0000000000000) := by decide +kernel
theorem fp_s32 {a b : Nat} (ha : a ≤ 30) (hb : b ≤ 30) (h0 : b ≠ 0) : vf_n32 (FP.fdiv (FP.i2f (nI a)) (FP.i2f (nI b))) := (fp_share a (by omega) b (by omega) h0).1
theorem fp_s64 {a b : Nat} (ha : a ≤ 30) (hb : b ≤ 30) (h0 : b ≠ 0) : vf_n64 (FP.f2d (FP.fdiv (FP.i2f (nI a)) (FP.i2f (nI b)))) := (fp_share a (by omega) b (by omega) h0).2
def fpNZ (d : FP.Core.Datum) : Bool := match d with
  | .fin _ c _ => c != 0
  | _ => false
def fpFin (d : FP.Core.Datum) : Bool := match d with
  | .fin _ _ _ => true
  | _ => false
def fpGood (d : FP.Core.Datum) : Prop := match d with
  | .nan => False
  | .inf _ => True
  | .fin _ c q => c < 2 ^ 53 ∧ q ≤ 971
theorem fp_den : ∀ n, n < 31 → n ≠ 0 → fpNZ (FP.Core.decode FP.Core.b64 (FP.i2d (nI n)).toNat) = true := by decide +kernel
theorem vf64 {n : Nat} (h : n % 2 ^ 63 ≤ 0x7ff0000000000000) : vf_n64 (UInt64.ofNat n) := by
  unfold vf_n64
  rw [UInt64.le_iff_toNat_le, UInt64.toNat_and]
  have e1 : (UInt64.ofNat n).toNat = n % 2 ^ 64 := UInt64.toNat_ofNat'
  have e2 : (0x7fffffffffffffff : UInt64).toNat = 2 ^ 63 - 1 := rfl
  have e3 : (0x7ff0000000000000 : UInt64).toNat = 0x7ff0000000000000 := rfl
  rw [e1, e2, e3, Nat.and_two_pow_sub_one_eq_mod]
  omega
theorem fp_bits {d : FP.Core.Datum} (h : fpGood d) : FP.Core.encode FP.Core.b64 d % 2 ^ 63 ≤ 0x7ff0000000000000 := by
  have t1 : FP.Core.b64.tails = 2 ^ 52 := by decide +kernel
  have t2 : FP.Core.b64.exps = 2048 := by decide +kernel
  have t3 : FP.Core.b64.qmin = -1074 := by decide +kernel
  match d, h with
  | .inf s, _ =>
    show FP.Core.assemble FP.Core.b64 s (FP.Core.b64.exps - 1) 0 % 2 ^ 63 ≤ _
    unfold FP.Core.assemble
    rw [t1, t2]
    cases s <;> decide
  | .fin s c q, ⟨h1, h2⟩ =>
    show (if c < FP.Core.b64.tails then FP.Core.assemble FP.Core.b64 s 0 c else FP.Core.assemble FP.Core.b64 s ((q - FP.Core.b64.qmin).toNat + 1) (c - FP.Core.b64.tails)) % 2 ^ 63 ≤ _
    unfold FP.Core.assemble
    rw [t1, t2, t3]
    split
    · cases s
      · simp only [Bool.toNat_false]; omega
      · simp only [Bool.toNat_true]; omega
    · have hq : (q - -1074).toNat ≤ 2045 := by omega
      cases s
      · simp only [Bool.toNat_false]; omega
      · simp only [Bool.toNat_true]; omega
theorem fp_bound {s : Bool} {c : Nat} {q : Int} (h : c < 2 ^ 53) : fpGood (FP.Core.bound FP.Core.b64 s c q) := by
  have t4 : FP.Core.b64.qmax = 971 := by decide +kernel
  unfold FP.Core.bound
  rw [t4]
  split
  · exact ⟨h, by assumption⟩
  · exact trivial
theorem fp_settle {s : Bool} {c : Nat} {q : Int} : fpGood (FP.Core.settle FP.Core.b64 s c q) := by
  unfold FP.Core.settle
  split
  · exact fp_bound (by assumption)
  · exact fp_bound (by decide +kernel)
theorem fp_rr {s : Bool} {a b : Nat} {e : Int} : fpGood (FP.Core.roundRatio FP.Core.b64 s a b e) := by
  unfold FP.Core.roundRatio
  split
  · exact ⟨by decide, by decide +kernel⟩
  · exact fp_settle
theorem fp_finB {s : Bool} {c : Nat} {q : Int} (h : q ≤ 971) : FP.Core.bound FP.Core.b64 s c q = .fin s c q := by
  have t4 : FP.Core.b64.qmax = 971 := by decide +kernel
  unfold FP.Core.bound
  rw [t4, if_pos h]
theorem fp_ofInt {i : Int} (h : i.natAbs ≤ 2 ^ 31) : ∃ s c q, FP.Core.round FP.Core.b64 (FP.Core.ofInt i) = .fin s c q ∧ c < 2 ^ 53 ∧ q ≤ 971 := by
  have hg : fpGood (FP.Core.round FP.Core.b64 (FP.Core.ofInt i)) := fp_rr
  have key : ∃ s c q, FP.Core.round FP.Core.b64 (FP.Core.ofInt i) = .fin s c q := by
    show ∃ s c q, FP.Core.roundRatio FP.Core.b64 (decide (i < 0)) i.natAbs 1 0 = .fin s c q
    unfold FP.Core.roundRatio
    split
    · exact ⟨_, _, _, rfl⟩
    · have hl : FP.Core.leading i.natAbs 1 ≤ 31 := by
        have h9 : i.natAbs.log2 < 32 := (Nat.log2_lt (by assumption)).mpr (by omega)
        unfold FP.Core.leading
        have h1 : Nat.log2 1 = 0 := by decide +kernel
        simp only [h1]
        split <;> omega
      have hq : FP.Core.quantum FP.Core.b64 i.natAbs 1 0 ≤ 900 := by
        unfold FP.Core.quantum
        have t3 : FP.Core.b64.qmin = -1074 := by decide +kernel
        have t5 : FP.Core.b64.p = 53 := rfl
        rw [t3, t5]
        omega
      unfold FP.Core.roundAt FP.Core.settle
      split
      · rw [fp_finB (by omega)]; exact ⟨_, _, _, rfl⟩
      · rw [fp_finB (by omega)]; exact ⟨_, _, _, rfl⟩
  obtain ⟨s, c, q, e⟩ := key
  rw [e] at hg
  exact ⟨s, c, q, e, hg.1, hg.2⟩
theorem fp_num (x : Int32) : fpFin (FP.Core.decode FP.Core.b64 (FP.i2d x).toNat) = true := by
  have t1 : FP.Core.b64.tails = 2 ^ 52 := by decide +kernel
  have t2 : FP.Core.b64.exps = 2048 := by decide +kernel
  have t3 : FP.Core.b64.qmin = -1074 := by decide +kernel
  have h1 := Int32.toInt_lt x
  have h2 := Int32.le_toInt x
  obtain ⟨s, c, q, e, hc, hq⟩ := fp_ofInt (i := x.toInt) (by omega)
  have e0 : (FP.i2d x).toNat = FP.Core.encode FP.Core.b64 (.fin s c q) % 2 ^ 64 := by
    show (UInt64.ofNat (FP.Core.encode FP.Core.b64 (FP.Core.round FP.Core.b64 (FP.Core.ofInt x.toInt)))).toNat = _
    rw [e]
    exact UInt64.toNat_ofNat'
  have hf : FP.Core.fieldE FP.Core.b64 (FP.i2d x).toNat ≠ 2047 := by
    rw [e0]
    unfold FP.Core.fieldE
    rw [t1, t2]
    show (if c < FP.Core.b64.tails then FP.Core.assemble FP.Core.b64 s 0 c else FP.Core.assemble FP.Core.b64 s ((q - FP.Core.b64.qmin).toNat + 1) (c - FP.Core.b64.tails)) % 2 ^ 64 / 2 ^ 52 % 2048 ≠ 2047
    unfold FP.Core.assemble
    rw [t1, t2, t3]
    split
    · cases s
      · simp only [Bool.toNat_false]; omega
      · simp only [Bool.toNat_true]; omega
    · have hq : (q - -1074).toNat ≤ 2045 := by omega
      cases s
      · simp only [Bool.toNat_false]; omega
      · simp only [Bool.toNat_true]; omega
  unfold FP.Core.decode
  rw [t2, if_neg hf]
  split <;> rfl
theorem fp_mean (x : Int32) {n : Nat} (hn : n ≤ 30) (h0 : n ≠ 0) : vf_n64 (FP.ddiv (FP.i2d x) (FP.i2d (nI n))) := by
  have h1 := fp_num x
  have h2 := fp_den n (by omega) h0
  refine vf64 (fp_bits ?_)
  show fpGood (FP.Core.quotient FP.Core.b64 (FP.Core.decode FP.Core.b64 (FP.i2d x).toNat) (FP.Core.decode FP.Core.b64 (FP.i2d (nI n)).toNat))
  generalize FP.Core.decode FP.Core.b64 (FP.i2d x).toNat = d1 at h1 ⊢
  generalize FP.Core.decode FP.Core.b64 (FP.i2d (nI n)).toNat = d2 at h2 ⊢
  match d1, d2, h1, h2 with
  | .fin s c q, .fin t d r, _, h2 =>
    have hd : d ≠ 0 := by
      intro z
      rw [z] at h2
      cases h2
    show fpGood (if d = 0 then _ else FP.Core.roundRatio FP.Core.b64 (s != t) c d (q - r))
    rw [if_neg hd]
    exact fp_rr
