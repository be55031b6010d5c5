/-! call by call: the desk and the model answer alike, and go on alike -/
theorem dcN_b {x : Int32} {n : Nat} (hn : n < 1000) : bet x 0 (nI n - 1) ↔ dcN x n = 0 := by
  unfold dcN
  by_cases c : x < 0
  · rw [if_pos c]
    exact ⟨fun z => absurd c (Int32.not_lt.mpr z.1), fun z => absurd z (by decide)⟩
  · rw [if_neg c]
    have h1 : x ≤ nI n - 1 ↔ x < nI n := by
      rw [I32le, pred_toInt hn, Int32.lt_iff_toInt_lt, nI_toInt (by omega)]
      omega
    by_cases d : x < nI n
    · rw [if_pos d]
      exact ⟨fun _ => rfl, fun _ => ⟨Int32.not_lt.mp c, h1.mpr d⟩⟩
    · rw [if_neg d]
      exact ⟨fun z => absurd (h1.mp z.2) d, fun z => absurd z (by decide)⟩
theorem dcF_b {x : Int32} : bet x 0 9 ↔ dcF x = 0 := by
  unfold dcF
  by_cases c : x < 0
  · rw [if_pos c]
    exact ⟨fun z => absurd c (Int32.not_lt.mpr z.1), fun z => absurd z (by decide)⟩
  · rw [if_neg c]
    have h1 : x ≤ 9 ↔ x < 10 := by
      rw [I32le, Int32.lt_iff_toInt_lt]
      have a : (9 : Int32).toInt = 9 := rfl
      have b : (10 : Int32).toInt = 10 := rfl
      omega
    by_cases d : x < 10
    · rw [if_pos d]
      exact ⟨fun _ => rfl, fun _ => ⟨Int32.not_lt.mp c, h1.mpr d⟩⟩
    · rw [if_neg d]
      exact ⟨fun z => absurd (h1.mp z.2) d, fun z => absurd z (by decide)⟩
theorem dcN_01 {x : Int32} {n : Nat} : dcN x n = 0 ∨ dcN x n = 1 := by
  unfold dcN
  repeat' split
  all_goals simp
theorem dcF_01 {x : Int32} : dcF x = 0 ∨ dcF x = 1 := by
  unfold dcF
  repeat' split
  all_goals simp
theorem bet_lt {x lo hi hi1 : Int32} (h : ∀ z : Int32, z ≤ hi ↔ z < hi1) : bet x lo hi ↔ ¬ x < lo ∧ x < hi1 := by
  unfold bet
  rw [h, Int32.not_lt]
theorem mF_0 {M : TT} {k : Int32} : (mF M k).2 0 0 = k := by
  show tu (tu M 0 0 0) 0 0 k 0 0 = k
  exact tu_s
theorem pr_0 {M : TT} {a v w : Int32} (h : v = w) : ((a, tu M 0 0 v) : Int32 × TT).2 0 0 = w := by
  show tu M 0 0 v 0 0 = w
  rw [tu_s, h]
theorem pr_1 {M : TT} {a v w : Int32} (h : v = w) : ((a, tu (tu M 0 0 0) 0 0 v) : Int32 × TT).2 0 0 = w := pr_0 h
section RY
variable {nb nl nr ne : Nat} {pr : List Nat} {t M : TT}
theorem RR.mf (h : RR nb nl nr ne pr t M) (k : Int32) : RR nb nl nr ne pr t (mF M k).2 := (h.m0 0).m0 k
theorem RR.b8 (h : RR nb nl nr ne pr t M) : nb ≤ 8 ∧ nl ≤ 3 ∧ nr ≤ 30 := ⟨h.2.2.2.1.1, h.2.2.2.1.2.1, h.2.2.2.1.2.2.1⟩
theorem RR.pl (h : RR nb nl nr ne pr t M) : pr.length ≤ nr := by rw [h.2.2.1]; exact prs_len
theorem RR.nePh (h : RR nb nl nr ne pr t M) : ne + dPh (t 13) pr ≤ 90 := by
  have h1 := h.2.2.2.1.2.2.2
  have h2 := h.b8
  omega
/-- rows of the floors -/
theorem RR.sfl (h : RR nb nl nr ne pr t M) {k i : Nat} {v : Int32} (hk : k = 1 ∨ k = 2 ∨ (k = 3 ∧ ∃ e, 1 ≤ e ∧ e ≤ 100 ∧ v = nI e)) : RR nb nl nr ne pr (tu t k i v) (tu M k i v) := by
  obtain ⟨hE, hN, hp, hS, hB, hC, hZ, hA, hW, hL⟩ := h
  have e : ∀ (T : TT) k9, ¬ (k9 = 1 ∨ k9 = 2 ∨ k9 = 3) → tu T k i v k9 = T k9 := fun T k9 h9 => tu_r (fun z => h9 (by rw [z]; omega))
  refine ⟨hE.tu k i v, hN.cg ?_ ?_ ?_ ?_ ?_, hp.trans (prs_cg (e t 13 (by decide)).symm), hS.cg (e t 13 (by decide)), fun j hj => (hB j hj).cg ?_ ?_ ?_ ?_ ?_, fun l hl => (hC l hl).cg ?_ ?_ ?_ ?_ ?_ (cA_cg ?_ ?_ nr), ?_, hA.cg ?_ ?_ ?_, hW.cg ?_ ?_ ?_ ?_ ?_, hL.cg ?_ ?_ ?_ ?_ ?_ ?_⟩
  case refine_18 =>
    obtain ⟨z1, z2, z3, z4⟩ := hZ
    refine ⟨fun l hl => by rw [e t 18 (by decide), e t 19 (by decide)]; exact z1 l hl, by rw [e t 5 (by decide)]; exact z2, by rw [e t 5 (by decide)]; exact z3, fun f hf => ?_⟩
    rcases hk with c | c | ⟨c, d⟩
    · rw [tu_k (by omega)]; exact z4 f hf
    · rw [tu_k (by omega)]; exact z4 f hf
    · subst c
      by_cases g : f = i
      · subst g; rw [tu_s]; exact d
      · rw [tu_i g]; exact z4 f hf
  all_goals rw [e _ _ (by decide)]
theorem op_setTenant (h : RR nb nl nr ne pr t M) (x y : Int32) : (mSetTenant M x y).2 0 0 = nI (if x ≤ 0 then 1 else if x < 10 then (if y < -1 then 2 else if y < 4 then 0 else 2) else 1) ∧
    ((if x ≤ 0 then 1 else if x < 10 then (if y < -1 then 2 else if y < 4 then 0 else 2) else 1) = 0 → t 1 x.toNatClampNeg = (mSetTenant M x y).1 ∧ RR nb nl nr ne pr (tu t 1 x.toNatClampNeg y) (mSetTenant M x y).2) ∧
    (¬ (if x ≤ 0 then 1 else if x < 10 then (if y < -1 then 2 else if y < 4 then 0 else 2) else 1) = 0 → RR nb nl nr ne pr t (mSetTenant M x y).2) := by
  have b1 : bet x 1 9 ↔ ¬ x ≤ 0 ∧ x < 10 := by
    unfold bet
    rw [I32le, I32le, I32le, Int32.lt_iff_toInt_lt, show (1 : Int32).toInt = 1 from rfl, show (9 : Int32).toInt = 9 from rfl, show (0 : Int32).toInt = 0 from rfl, show (10 : Int32).toInt = 10 from rfl]
    omega
  have b2 : bet y (-1) 3 ↔ ¬ y < -1 ∧ y < 4 := by
    unfold bet
    rw [I32le, I32le, Int32.lt_iff_toInt_lt, Int32.lt_iff_toInt_lt, show (-1 : Int32).toInt = -1 from rfl, show (3 : Int32).toInt = 3 from rfl, show (4 : Int32).toInt = 4 from rfl]
    omega
  unfold mSetTenant
  simp only [b1, b2]
  by_cases c1 : x ≤ 0
  · simp only [c1, if_true, not_true_eq_false, false_and, if_false, mF_0]
    exact ⟨rfl, fun z => absurd z (by decide), fun _ => h.mf 1⟩
  · by_cases c2 : x < 10
    · by_cases c3 : y < -1
      · simp only [c1, c2, c3, if_true, if_false, not_true_eq_false, not_false_eq_true, true_and, false_and, mF_0]
        exact ⟨rfl, fun z => absurd z (by decide), fun _ => h.mf 2⟩
      · by_cases c4 : y < 4
        · simp only [c1, c2, c3, c4, if_true, if_false, not_true_eq_false, not_false_eq_true, true_and, and_true]
          refine ⟨?_, fun _ => ⟨by rw [h.1.r 1], (h.m0 0).sfl (Or.inl rfl)⟩, fun z => z.elim⟩
          rw [tu_k (by decide), tu_s]; rfl
        · simp only [c1, c2, c3, c4, if_true, if_false, not_true_eq_false, not_false_eq_true, true_and, and_false, mF_0]
          exact ⟨rfl, fun z => absurd z (by decide), fun _ => h.mf 2⟩
    · simp only [c1, c2, if_true, if_false, not_true_eq_false, not_false_eq_true, true_and, and_false, mF_0]
      exact ⟨rfl, fun z => absurd z (by decide), fun _ => h.mf 1⟩
theorem op_setHours (h : RR nb nl nr ne pr t M) (x y z : Int32) : (mSetHours M x y z).2 0 0 = nI (if x ≤ 0 then 1 else if x < 10 then (if y < 0 then 2 else if y < 100 then (if y < z then (if z ≤ 100 then 0 else 2) else 2) else 2) else 1) ∧
    ((if x ≤ 0 then 1 else if x < 10 then (if y < 0 then 2 else if y < 100 then (if y < z then (if z ≤ 100 then 0 else 2) else 2) else 2) else 1) = 0 → z - y = (mSetHours M x y z).1 ∧ RR nb nl nr ne pr (tu (tu t 2 x.toNatClampNeg y) 3 x.toNatClampNeg z) (mSetHours M x y z).2) ∧
    (¬ (if x ≤ 0 then 1 else if x < 10 then (if y < 0 then 2 else if y < 100 then (if y < z then (if z ≤ 100 then 0 else 2) else 2) else 2) else 1) = 0 → RR nb nl nr ne pr t (mSetHours M x y z).2) := by
  have b1 : bet x 1 9 ↔ ¬ x ≤ 0 ∧ x < 10 := by
    unfold bet
    rw [I32le, I32le, I32le, Int32.lt_iff_toInt_lt, show (1 : Int32).toInt = 1 from rfl, show (9 : Int32).toInt = 9 from rfl, show (0 : Int32).toInt = 0 from rfl, show (10 : Int32).toInt = 10 from rfl]
    omega
  have b2 : bet y 0 99 ↔ ¬ y < 0 ∧ y < 100 := by
    unfold bet
    rw [I32le, I32le, Int32.lt_iff_toInt_lt, Int32.lt_iff_toInt_lt, show (0 : Int32).toInt = 0 from rfl, show (99 : Int32).toInt = 99 from rfl, show (100 : Int32).toInt = 100 from rfl]
    omega
  unfold mSetHours
  simp only [b1, b2]
  by_cases c1 : x ≤ 0
  · simp only [c1, if_true, not_true_eq_false, false_and, if_false, mF_0]
    exact ⟨rfl, fun z => absurd z (by decide), fun _ => h.mf 1⟩
  · by_cases c2 : x < 10
    · by_cases c3 : y < 0
      · simp only [c1, c2, c3, if_true, if_false, not_true_eq_false, not_false_eq_true, true_and, false_and, mF_0]
        exact ⟨rfl, fun z => absurd z (by decide), fun _ => h.mf 2⟩
      · by_cases c4 : y < 100
        · obtain ⟨j, hj, rfl⟩ := nI_of c3
          have j100 : j < 100 := by
            rw [Int32.lt_iff_toInt_lt, nI_toInt hj, show (100 : Int32).toInt = 100 from rfl] at c4
            omega
          have b3 : bet z (nI j + 1) 100 ↔ nI j < z ∧ z ≤ 100 := by
            unfold bet
            rw [nI_1, I32le, I32le, Int32.lt_iff_toInt_lt, nI_toInt (by omega), nI_toInt (by omega)]
            omega
          simp only [b3]
          by_cases c5 : nI j < z
          · by_cases c6 : z ≤ 100
            · simp only [c1, c2, c3, c4, c5, c6, if_true, if_false, not_true_eq_false, not_false_eq_true, true_and, and_true]
              refine ⟨?_, fun _ => ((h.m0 0).sfl (Or.inr (Or.inl rfl))).sfl (Or.inr (Or.inr ⟨rfl, ?_⟩)), fun z => z.elim⟩
              · rw [tu_k (by decide), tu_k (by decide), tu_s]; rfl
              · have hz : ¬ z < 0 := by
                  rw [Int32.lt_iff_toInt_lt] at c5 ⊢
                  rw [nI_toInt hj] at c5
                  rw [show (0 : Int32).toInt = 0 from rfl]
                  omega
                obtain ⟨e, he, rfl⟩ := nI_of hz
                rw [nI_ltI hj he] at c5
                rw [I32le, nI_toInt he, show (100 : Int32).toInt = 100 from rfl] at c6
                exact ⟨e, by omega, by omega, rfl⟩
            · simp only [c1, c2, c3, c4, c5, c6, if_true, if_false, not_true_eq_false, not_false_eq_true, true_and, and_true, and_false, mF_0]
              exact ⟨rfl, fun z => absurd z (by decide), fun _ => h.mf 2⟩
          · simp only [c1, c2, c3, c4, c5, if_true, if_false, not_true_eq_false, not_false_eq_true, true_and, and_true, false_and, mF_0]
            exact ⟨rfl, fun z => absurd z (by decide), fun _ => h.mf 2⟩
        · simp only [c1, c2, c3, c4, if_true, if_false, not_true_eq_false, not_false_eq_true, true_and, and_false, mF_0]
          exact ⟨rfl, fun z => absurd z (by decide), fun _ => h.mf 2⟩
    · simp only [c1, c2, if_true, if_false, not_true_eq_false, not_false_eq_true, true_and, and_false, mF_0]
      exact ⟨rfl, fun z => absurd z (by decide), fun _ => h.mf 1⟩
theorem RR.addL (h : RR nb nl nr ne pr t M) {x : Int32} {c : Nat} (hl : nl < 3) (hx : x = nI c) (hc : c ≤ 4) : RR nb (nl + 1) nr ne pr (tAddL t nl x) (tu (tu (tu (tu M 17 nl x) 20 nl 115) 21 nl 1) 22 0 (nI nl + 1)) := by
  obtain ⟨hE, hN, hp, hS, hB, hC, hZ, hA, hW, hL⟩ := h
  obtain ⟨z1, z2, z3, z4⟩ := hZ
  have et : ∀ k, ¬ (k = 17 ∨ k = 18 ∨ k = 19 ∨ k = 20 ∨ k = 21) → tAddL t nl x k = t k := fun k h9 => by
    unfold tAddL
    rw [tu_r (by omega), tu_r (by omega), tu_r (by omega), tu_r (by omega), tu_r (by omega)]
  have eM : ∀ k, ¬ (k = 17 ∨ k = 20 ∨ k = 21 ∨ k = 22) → tu (tu (tu (tu M 17 nl x) 20 nl 115) 21 nl 1) 22 0 (nI nl + 1) k = M k := fun k h9 => by
    rw [tu_r (by omega), tu_r (by omega), tu_r (by omega), tu_r (by omega)]
  have ei : ∀ k j, j ≠ nl → tAddL t nl x k j = t k j := fun k j hj => by
    unfold tAddL
    rw [tu_i hj, tu_i hj, tu_i hj, tu_i hj, tu_i hj]
  have g17 : tAddL t nl x 17 nl = x := by unfold tAddL; rw [tu_k (by decide), tu_k (by decide), tu_k (by decide), tu_k (by decide), tu_s]
  have g18 : tAddL t nl x 18 nl = 0 := by unfold tAddL; rw [tu_k (by decide), tu_k (by decide), tu_k (by decide), tu_s]
  have g19 : tAddL t nl x 19 nl = 0 := by unfold tAddL; rw [tu_s]
  have g20 : tAddL t nl x 20 nl = 115 := by unfold tAddL; rw [tu_k (by decide), tu_s]
  have g21 : tAddL t nl x 21 nl = 1 := by unfold tAddL; rw [tu_k (by decide), tu_k (by decide), tu_s]
  refine ⟨⟨fun k hk => ?_, ?_, ?_, ?_⟩, ⟨?_, ?_, ?_, ?_, ?_⟩, hp.trans (prs_cg (et 13 (by decide)).symm), ⟨hS.1, hl, hS.2.2.1, by rw [et 13 (by decide)]; exact hS.2.2.2⟩, fun j hj => ?_, fun l hl9 => ?_, ⟨fun l hl9 => ?_, ?_, ?_, ?_⟩, hA.cg ?_ ?_ ?_, hW.cg ?_ ?_ ?_ ?_ ?_, hL.cg ?_ ?_ ?_ ?_ ?_ ?_⟩
  case refine_1 =>
    by_cases a : k = 17 ∨ k = 18 ∨ k = 19 ∨ k = 20 ∨ k = 21
    · funext j
      by_cases d : j = nl
      · subst d
        rcases a with rfl | rfl | rfl | rfl | rfl
        · rw [g17, tu_k (by decide), tu_k (by decide), tu_k (by decide), tu_s]
        · rw [g18, eM 18 (by decide), ← hE.r 18, (z1 j (Nat.le_refl j)).1]
        · rw [g19, eM 19 (by decide), ← hE.r 19, (z1 j (Nat.le_refl j)).2]
        · rw [g20, tu_k (by decide), tu_k (by decide), tu_s]
        · rw [g21, tu_k (by decide), tu_s]
      · have a22 : k ≠ 22 := by rintro rfl; cases hk
        rw [ei k j d, tu_k a22, tu_i d, tu_i d, tu_i d, hE.1 k hk]
    · rw [et k a, eM k (by rintro (rfl | rfl | rfl | rfl) <;> first | exact a (by decide) | cases hk)]
      exact hE.1 k hk
  case refine_2 => rw [et 23 (by decide), eM 23 (by decide)]; exact hE.2.1
  case refine_3 => rw [et 24 (by decide), eM 24 (by decide)]; exact hE.2.2.1
  case refine_4 => rw [et 25 (by decide), eM 25 (by decide)]; exact hE.2.2.2
  case refine_5 => rw [eM 6 (by decide)]; exact hN.1
  case refine_6 => rw [eM 14 (by decide)]; exact hN.2.1
  case refine_7 => rw [tu_s, nI_1]
  case refine_8 => rw [eM 15 (by decide)]; exact hN.2.2.2.1
  case refine_9 => rw [eM 16 (by decide)]; exact hN.2.2.2.2
  case refine_10 =>
    obtain ⟨b1, b2, b3, b4, b5, b6⟩ := hB j hj
    refine ⟨by rw [et 13 (by decide)]; exact b1, by rw [et 7 (by decide)]; exact b2, by rw [et 8 (by decide)]; exact b3, by rw [et 9 (by decide)]; exact b4, ?_, ?_⟩
    · rw [et 10 (by decide)]
      exact b5.imp id (fun ⟨q, q1, q2⟩ => ⟨q, by omega, q2⟩)
    · rw [et 13 (by decide), et 10 (by decide)]
      exact fun z => let ⟨q, q1, q2⟩ := b6 z; ⟨q, by omega, q2⟩
  case refine_11 =>
    by_cases d : l = nl
    · subst d
      refine ⟨⟨0, by decide, by rw [g18]; rfl⟩, ⟨c, hc, by rw [g17]; exact hx, ?_⟩, Or.inl g20, ?_, Or.inr g21⟩
      · have h0 : ∀ n, n ≤ nr → cA (tAddL t l x) l n = 0 := by
          intro n
          induction n with
          | zero => exact fun _ => rfl
          | succ n ih =>
            intro hn
            rw [cA, ih (by omega), if_neg]
            rw [et 13 (by decide), et 10 (by decide)]
            rintro ⟨a, b⟩
            obtain ⟨q, q1, q2⟩ := (hB n (by omega)).2.2.2.2.2 a
            rw [q2] at b
            have := (nI_eq (by omega) (by omega)).mp b
            omega
        rw [h0 nr (Nat.le_refl _)]
        exact Nat.zero_le _
      · rw [g20]; exact fun z => absurd z (by decide)
    · exact (hC l (by omega)).cg (ei 17 l d) (ei 18 l d) (ei 19 l d) (ei 20 l d) (ei 21 l d) (cA_cg (et 13 (by decide)) (et 10 (by decide)) nr)
  case refine_12 =>
    rw [ei 18 l (by omega), ei 19 l (by omega)]
    exact z1 l (by omega)
  case refine_13 => rw [et 5 (by decide)]; exact z2
  case refine_14 => rw [et 5 (by decide)]; exact z3
  case refine_15 => rw [et 3 (by decide)]; exact z4
  all_goals first | rw [et _ (by decide)] | rw [eM _ (by decide)]
theorem op_addLift (h : RR nb nl nr ne pr t M) (x : Int32) : (mAddLift M nl x).2 0 0 = nI (if x < 1 then 1 else if x ≤ 4 then (if nI nl < 3 then 0 else 2) else 1) ∧
    ((if x < 1 then 1 else if x ≤ 4 then (if nI nl < 3 then 0 else 2) else 1) = 0 → nI nl = (mAddLift M nl x).1 ∧ RR nb (nl + 1) nr ne pr (tAddL t nl x) (mAddLift M nl x).2) ∧
    (¬ (if x < 1 then 1 else if x ≤ 4 then (if nI nl < 3 then 0 else 2) else 1) = 0 → RR nb nl nr ne pr t (mAddLift M nl x).2) := by
  have h3 := h.b8
  have b1 : bet x 1 4 ↔ ¬ x < 1 ∧ x ≤ 4 := by unfold bet; rw [Int32.not_lt]
  have b2 : nI nl < 3 ↔ ¬ nI nl = 3 := by
    rw [show (3 : Int32) = nI 3 from rfl, nI_ltI (by omega) (by decide), nI_eq (by omega) (by decide)]
    omega
  unfold mAddLift
  simp only [b1, b2]
  by_cases c1 : x < 1
  · simp only [c1, if_true, not_true_eq_false, false_and, if_false, mF_0]
    exact ⟨rfl, fun z => absurd z (by decide), fun _ => h.mf 1⟩
  · by_cases c2 : x ≤ 4
    · by_cases c3 : nI nl = 3
      · simp only [c1, c2, c3, if_true, not_true_eq_false, not_false_eq_true, true_and, and_true, false_and, if_false, mF_0]
        exact ⟨rfl, fun z => absurd z (by decide), fun _ => h.mf 2⟩
      · simp only [c1, c2, c3, if_true, not_true_eq_false, not_false_eq_true, true_and, and_true, false_and, if_false]
        have h0 : ¬ x < 0 := by
          rw [Int32.lt_iff_toInt_lt] at c1 ⊢
          rw [show (1 : Int32).toInt = 1 from rfl] at c1
          rw [show (0 : Int32).toInt = 0 from rfl]
          omega
        obtain ⟨j, hj, rfl⟩ := nI_of h0
        have j4 : j ≤ 4 := by
          rw [I32le, nI_toInt hj, show (4 : Int32).toInt = 4 from rfl] at c2
          omega
        have hn3 : nl < 3 := by
          rw [show (3 : Int32) = nI 3 from rfl, nI_eq (by omega) (by decide)] at c3
          omega
        refine ⟨?_, fun _ => ⟨(Int32.add_sub_cancel _ _).symm, (h.m0 0).addL hn3 rfl j4⟩, fun z => z.elim⟩
        rw [tu_k (by decide), tu_k (by decide), tu_k (by decide), tu_k (by decide), tu_s]; rfl
    · simp only [c1, c2, if_true, not_true_eq_false, not_false_eq_true, true_and, and_true, false_and, and_false, if_false, mF_0]
      exact ⟨rfl, fun z => absurd z (by decide), fun _ => h.mf 1⟩
theorem RR.addB (h : RR nb nl nr ne pr t M) {x : Int32} (hb : nb < 8) : RR (nb + 1) nl nr ne pr (tAddB t nb x) (tu (tu M 4 nb x) 6 0 (nI nb + 1)) := by
  obtain ⟨hE, hN, hp, hS, hB, hC, hZ, hA, hW, hL⟩ := h
  obtain ⟨z1, z2, z3, z4⟩ := hZ
  have e5 : tAddB t nb x = tu t 4 nb x := by
    unfold tAddB
    exact tu_same (by rw [tu_k (by decide)]; exact z2 nb (Nat.le_refl _))
  rw [e5]
  have et : ∀ k, ¬ (k = 4) → tu t 4 nb x k = t k := fun k h9 => tu_r h9
  have eM : ∀ k, ¬ (k = 4 ∨ k = 6) → tu (tu M 4 nb x) 6 0 (nI nb + 1) k = M k := fun k h9 => by
    rw [tu_r (by omega), tu_r (by omega)]
  refine ⟨⟨fun k hk => ?_, ?_, ?_, ?_⟩, ⟨?_, ?_, ?_, ?_, ?_⟩, hp.trans (prs_cg (et 13 (by decide)).symm), ⟨hb, hS.2.1, hS.2.2.1, by rw [et 13 (by decide)]; exact hS.2.2.2⟩, fun j hj => ?_, fun l hl => (hC l hl).cg ?_ ?_ ?_ ?_ ?_ (cA_cg ?_ ?_ nr), ⟨?_, fun b hb9 => ?_, fun b hb9 => ?_, ?_⟩, hA.cg ?_ ?_ ?_, hW.cg ?_ ?_ ?_ ?_ ?_, hL.cg ?_ ?_ ?_ ?_ ?_ ?_⟩
  case refine_1 =>
    by_cases a : k = 4
    · subst a
      rw [tu_r (show (4 : Nat) ≠ 6 by decide)]
      exact tu_cg (hE.r 4)
    · rw [et k a, eM k (by rintro (rfl | rfl) <;> first | exact a rfl | cases hk)]
      exact hE.1 k hk
  case refine_2 => rw [et 23 (by decide), eM 23 (by decide)]; exact hE.2.1
  case refine_3 => rw [et 24 (by decide), eM 24 (by decide)]; exact hE.2.2.1
  case refine_4 => rw [et 25 (by decide), eM 25 (by decide)]; exact hE.2.2.2
  case refine_5 => rw [tu_s, nI_1]
  case refine_6 => rw [eM 14 (by decide)]; exact hN.2.1
  case refine_7 => rw [eM 22 (by decide)]; exact hN.2.2.1
  case refine_8 => rw [eM 15 (by decide)]; exact hN.2.2.2.1
  case refine_9 => rw [eM 16 (by decide)]; exact hN.2.2.2.2
  case refine_10 =>
    obtain ⟨b1, ⟨b, b21, b22⟩, b3, b4, b5, b6⟩ := hB j hj
    exact ⟨by rw [et 13 (by decide)]; exact b1, ⟨b, by omega, by rw [et 7 (by decide)]; exact b22⟩, by rw [et 8 (by decide)]; exact b3, by rw [et 9 (by decide)]; exact b4, by rw [et 10 (by decide)]; exact b5, by rw [et 13 (by decide), et 10 (by decide)]; exact b6⟩
  case refine_18 => rw [et 18 (by decide), et 19 (by decide)]; exact z1
  case refine_19 => rw [et 5 (by decide)]; exact z2 b (by omega)
  case refine_20 =>
    rw [et 5 (by decide)]
    by_cases c : b = nb
    · exact Or.inl (z2 b (by omega))
    · exact z3 b (by omega)
  case refine_21 => rw [et 3 (by decide)]; exact z4
  all_goals first | rw [et _ (by decide)] | rw [eM _ (by decide)]
theorem op_addBadge (h : RR nb nl nr ne pr t M) (x : Int32) : (mAddBadge M nb x).2 0 0 = nI (if x < 0 then 1 else if x < 4 then (if nI nb < 8 then 0 else 2) else 1) ∧
    ((if x < 0 then 1 else if x < 4 then (if nI nb < 8 then 0 else 2) else 1) = 0 → nI nb = (mAddBadge M nb x).1 ∧ RR (nb + 1) nl nr ne pr (tAddB t nb x) (mAddBadge M nb x).2) ∧
    (¬ (if x < 0 then 1 else if x < 4 then (if nI nb < 8 then 0 else 2) else 1) = 0 → RR nb nl nr ne pr t (mAddBadge M nb x).2) := by
  have h3 := h.b8
  have b1 : bet x 0 3 ↔ ¬ x < 0 ∧ x < 4 := by
    unfold bet
    rw [I32le, I32le, Int32.lt_iff_toInt_lt, Int32.lt_iff_toInt_lt, show (0 : Int32).toInt = 0 from rfl, show (3 : Int32).toInt = 3 from rfl, show (4 : Int32).toInt = 4 from rfl]
    omega
  have b2 : nI nb < 8 ↔ ¬ nI nb = 8 := by
    rw [show (8 : Int32) = nI 8 from rfl, nI_ltI (by omega) (by decide), nI_eq (by omega) (by decide)]
    omega
  unfold mAddBadge
  simp only [b1, b2]
  by_cases c1 : x < 0
  · simp only [c1, if_true, not_true_eq_false, false_and, if_false, mF_0]
    exact ⟨rfl, fun z => absurd z (by decide), fun _ => h.mf 1⟩
  · by_cases c2 : x < 4
    · by_cases c3 : nI nb = 8
      · simp only [c1, c2, c3, if_true, not_true_eq_false, not_false_eq_true, true_and, and_true, false_and, if_false, mF_0]
        exact ⟨rfl, fun z => absurd z (by decide), fun _ => h.mf 2⟩
      · simp only [c1, c2, c3, if_true, not_true_eq_false, not_false_eq_true, true_and, and_true, false_and, if_false]
        have hn3 : nb < 8 := by
          rw [show (8 : Int32) = nI 8 from rfl, nI_eq (by omega) (by decide)] at c3
          omega
        refine ⟨?_, fun _ => ⟨(Int32.add_sub_cancel _ _).symm, (h.m0 0).addB hn3⟩, fun z => z.elim⟩
        rw [tu_k (by decide), tu_k (by decide), tu_s]; rfl
    · simp only [c1, c2, if_true, not_true_eq_false, not_false_eq_true, true_and, and_true, false_and, and_false, if_false, mF_0]
      exact ⟨rfl, fun z => absurd z (by decide), fun _ => h.mf 1⟩
theorem RR.s5 (h : RR nb nl nr ne pr t M) {b : Nat} {v : Int32} (hb : b < nb) (hv : v = 0 ∨ v = 1) : RR nb nl nr ne pr (tu t 5 b v) (tu M 5 b v) := by
  obtain ⟨hE, hN, hp, hS, hB, hC, hZ, hA, hW, hL⟩ := h
  have e : ∀ (T : TT) k9, ¬ (k9 = 5) → tu T 5 b v k9 = T k9 := fun T k9 h9 => tu_r h9
  refine ⟨hE.tu 5 b v, hN.cg ?_ ?_ ?_ ?_ ?_, hp.trans (prs_cg (e t 13 (by decide)).symm), hS.cg (e t 13 (by decide)), fun j hj => (hB j hj).cg ?_ ?_ ?_ ?_ ?_, fun l hl => (hC l hl).cg ?_ ?_ ?_ ?_ ?_ (cA_cg ?_ ?_ nr), ?_, hA.cg ?_ ?_ ?_, hW.cg ?_ ?_ ?_ ?_ ?_, hL.cg ?_ ?_ ?_ ?_ ?_ ?_⟩
  case refine_18 =>
    obtain ⟨z1, z2, z3, z4⟩ := hZ
    refine ⟨fun l hl => by rw [e t 18 (by decide), e t 19 (by decide)]; exact z1 l hl, fun b9 hb9 => ?_, fun b9 hb9 => ?_, by rw [e t 3 (by decide)]; exact z4⟩
    · rw [tu_i (by omega)]; exact z2 b9 hb9
    · by_cases c : b9 = b
      · subst c; rw [tu_s]; exact hv
      · rw [tu_i c]; exact z3 b9 hb9
  all_goals rw [e _ _ (by decide)]
theorem op_setRevoked (h : RR nb nl nr ne pr t M) (x v : Int32) (hv : v = 0 ∨ v = 1) : (mSetRevoked M nb x v).2 0 0 = nI (if dcN x nb = 0 then 0 else 1) ∧
    ((if dcN x nb = 0 then 0 else 1) = 0 → t 5 x.toNatClampNeg = (mSetRevoked M nb x v).1 ∧ RR nb nl nr ne pr (tu t 5 x.toNatClampNeg v) (mSetRevoked M nb x v).2) ∧
    (¬ (if dcN x nb = 0 then 0 else 1) = 0 → RR nb nl nr ne pr t (mSetRevoked M nb x v).2) := by
  have h3 := h.b8
  have b1 := dcN_b (x := x) (n := nb) (by omega)
  unfold mSetRevoked
  by_cases c1 : dcN x nb = 0
  · rw [if_pos (b1.mpr c1), if_pos c1]
    obtain ⟨j, rfl, hj⟩ := betc_nI (b1.mpr c1) (by omega)
    rw [nI_clamp (by omega)]
    refine ⟨?_, fun _ => ⟨by rw [h.1.r 5], (h.m0 0).s5 hj hv⟩, fun z => absurd rfl z⟩
    show tu (tu M 0 0 0) 5 j v 0 0 = _
    rw [tu_k (by decide), tu_s]; rfl
  · rw [if_neg (fun z => c1 (b1.mp z)), if_neg c1]
    exact ⟨rfl, fun z => absurd z (by decide), fun _ => h.mf 1⟩
theorem op_reason (h : RR nb nl nr ne pr t M) (x y : Int32) : (mReason M nb x y).2 0 0 = nI (if dcN x nb = 0 then (if dcF y = 0 then 0 else 1) else 1) ∧
    ((if dcN x nb = 0 then (if dcF y = 0 then 0 else 1) else 1) = 0 → dWhy t x.toNatClampNeg y = (mReason M nb x y).1 ∧ RR nb nl nr ne pr t (mReason M nb x y).2) ∧
    (¬ (if dcN x nb = 0 then (if dcF y = 0 then 0 else 1) else 1) = 0 → RR nb nl nr ne pr t (mReason M nb x y).2) := by
  have h3 := h.b8
  have b1 := dcN_b (x := x) (n := nb) (by omega)
  have b2 := dcF_b (x := y)
  unfold mReason
  by_cases c1 : dcN x nb = 0
  · rw [if_pos (b1.mpr c1), if_pos c1]
    by_cases c2 : dcF y = 0
    · rw [if_pos (b2.mpr c2), if_pos c2]
      obtain ⟨j, rfl, hj0, hj⟩ := bet_nI 0 9 0 9 (b2.mpr c2) rfl rfl
      rw [nI_clamp (show j < 2 ^ 31 by omega)]
      exact ⟨pr_0 rfl, fun _ => ⟨(h.m0 0).whyE (by omega), h.m0 0⟩, fun z => absurd rfl z⟩
    · rw [if_neg (fun z => c2 (b2.mp z)), if_neg c2]
      exact ⟨rfl, fun z => absurd z (by decide), fun _ => h.mf 1⟩
  · rw [if_neg (fun z => c1 (b1.mp z)), if_neg c1]
    exact ⟨rfl, fun z => absurd z (by decide), fun _ => h.mf 1⟩
theorem mNobody_0 {x : Int32} (hn : nr < 1000) : mNobody M nr x 0 0 = nI (if dcN x nr = 0 then 0 else 1) := by
  unfold mNobody
  by_cases c1 : dcN x nr = 0
  · rw [if_pos ((dcN_b hn).mpr c1), if_pos c1, tu_s]; rfl
  · rw [if_neg (fun z => c1 ((dcN_b hn).mp z)), if_neg c1, tu_s]; rfl
theorem RR.nob (h : RR nb nl nr ne pr t M) (x : Int32) : RR nb nl nr ne pr t (mNobody M nr x) := by
  unfold mNobody
  split
  · exact h.m0 0
  · exact h.m0 1
theorem mNoLift_0 {x : Int32} (hn : nl < 1000) : mNoLift M nl x 0 0 = nI (if dcN x nl = 0 then 0 else 1) := by
  unfold mNoLift
  by_cases c1 : dcN x nl = 0
  · rw [if_pos ((dcN_b hn).mpr c1), if_pos c1, tu_s]; rfl
  · rw [if_neg (fun z => c1 ((dcN_b hn).mp z)), if_neg c1, tu_s]; rfl
theorem RR.nol (h : RR nb nl nr ne pr t M) (x : Int32) : RR nb nl nr ne pr t (mNoLift M nl x) := by
  unfold mNoLift
  split
  · exact h.m0 0
  · exact h.m0 1
theorem k01 {c : Prop} [Decidable c] : (if c then 0 else 1) = 0 ↔ c := by
  by_cases h : c
  · rw [if_pos h]; exact ⟨fun _ => h, fun _ => rfl⟩
  · rw [if_neg h]; exact ⟨fun z => absurd z (by decide), fun z => absurd z h⟩
/-- a look at a rider -/
theorem RR.rid (h : RR nb nl nr ne pr t M) {x : Int32} (hk : (if dcN x nr = 0 then 0 else 1) = 0) : ∃ r, r < nr ∧ x = nI r ∧ x.toNatClampNeg = r ∧ bet x 0 (nI nr - 1) := by
  have h3 := h.b8
  have b1 := (dcN_b (x := x) (n := nr) (by omega)).mpr (k01.mp hk)
  obtain ⟨r, rfl, hr⟩ := betc_nI b1 (by omega)
  exact ⟨r, hr, rfl, nI_clamp (by omega), b1⟩
theorem op_rid (h : RR nb nl nr ne pr t M) (x : Int32) {a b : Int32} (hab : ∀ r, r < nr → x.toNatClampNeg = r → bet x 0 (nI nr - 1) → a = b) : mNobody M nr x 0 0 = nI (if dcN x nr = 0 then 0 else 1) ∧
    ((if dcN x nr = 0 then 0 else 1) = 0 → a = b ∧ RR nb nl nr ne pr t (mNobody M nr x)) ∧ (¬ (if dcN x nr = 0 then 0 else 1) = 0 → RR nb nl nr ne pr t (mNobody M nr x)) := by
  have h3 := h.b8
  refine ⟨mNobody_0 (by omega), fun hk => ⟨?_, h.nob x⟩, fun _ => h.nob x⟩
  obtain ⟨r, r1, r2, r3, r4⟩ := h.rid hk
  exact hab r r1 r3 r4
theorem op_state (h : RR nb nl nr ne pr t M) (x : Int32) : mNobody M nr x 0 0 = nI (if dcN x nr = 0 then 0 else 1) ∧
    ((if dcN x nr = 0 then 0 else 1) = 0 → t 13 x.toNatClampNeg = mStateOf M nr x ∧ RR nb nl nr ne pr t (mNobody M nr x)) ∧ (¬ (if dcN x nr = 0 then 0 else 1) = 0 → RR nb nl nr ne pr t (mNobody M nr x)) :=
  op_rid h x (fun r _ _ hb => by unfold mStateOf; rw [if_pos hb, h.1.r 13])
theorem op_aim (h : RR nb nl nr ne pr t M) (x : Int32) : mNobody M nr x 0 0 = nI (if dcN x nr = 0 then 0 else 1) ∧
    ((if dcN x nr = 0 then 0 else 1) = 0 → t 9 x.toNatClampNeg = mAim M nr x ∧ RR nb nl nr ne pr t (mNobody M nr x)) ∧ (¬ (if dcN x nr = 0 then 0 else 1) = 0 → RR nb nl nr ne pr t (mNobody M nr x)) :=
  op_rid h x (fun r _ _ hb => by unfold mAim; rw [if_pos hb, h.1.r 9])
theorem op_floorOf (h : RR nb nl nr ne pr t M) (x : Int32) : mNobody M nr x 0 0 = nI (if dcN x nr = 0 then 0 else 1) ∧
    ((if dcN x nr = 0 then 0 else 1) = 0 → (if t 13 x.toNatClampNeg = 97 then (if t 10 x.toNatClampNeg < 0 then t 8 x.toNatClampNeg else t 18 (t 10 x.toNatClampNeg).toNatClampNeg) else t 8 x.toNatClampNeg) = mFloorOf M nr x ∧ RR nb nl nr ne pr t (mNobody M nr x)) ∧ (¬ (if dcN x nr = 0 then 0 else 1) = 0 → RR nb nl nr ne pr t (mNobody M nr x)) :=
  op_rid h x (fun r hr hx hb => by
    have h3 := h.b8
    unfold mFloorOf
    rw [if_pos hb, hx, ← h.1.r 13, ← h.1.r 10, ← h.1.r 18, ← h.1.r 8]
    by_cases c : t 13 r = 97
    · obtain ⟨q, q1, q2⟩ := (h.2.2.2.2.1 r hr).2.2.2.2.2 c
      rw [if_pos c, if_pos c, if_neg (by rw [q2]; exact nI_pos (by omega))]
    · rw [if_neg c, if_neg c])
theorem op_waited (h : RR nb nl nr ne pr t M) (x : Int32) : mNobody M nr x 0 0 = nI (if dcN x nr = 0 then 0 else 1) ∧
    ((if dcN x nr = 0 then 0 else 1) = 0 → t 40 x.toNatClampNeg = mWaited M nr x ∧ RR nb nl nr ne pr t (mNobody M nr x)) ∧ (¬ (if dcN x nr = 0 then 0 else 1) = 0 → RR nb nl nr ne pr t (mNobody M nr x)) :=
  op_rid h x (fun r hr hx hb => by
    unfold mWaited
    rw [if_pos hb, hx]
    exact h.2.2.2.2.2.2.2.2.1 r hr)
theorem op_waitedByLog (h : RR nb nl nr ne pr t M) (x : Int32) : mNobody M nr x 0 0 = nI (if dcN x nr = 0 then 0 else 1) ∧
    ((if dcN x nr = 0 then 0 else 1) = 0 → dTf t x.toNatClampNeg ne 0 (t 23 0) = mWaited M nr x ∧ RR nb nl nr ne pr t (mNobody M nr x)) ∧ (¬ (if dcN x nr = 0 then 0 else 1) = 0 → RR nb nl nr ne pr t (mNobody M nr x)) :=
  op_rid h x (fun r hr hx hb => by
    have h3 := h.b8
    unfold mWaited
    rw [if_pos hb, hx, dTf_g, h.2.2.2.2.2.2.2.2.2 r (by omega), if_pos hr]
    unfold lgE mWb
    by_cases c : M 13 r = 119
    · rw [if_pos c, if_pos c, if_neg (show ¬ (false = true) by decide), h.1.2.1]
    · rw [if_neg c, if_neg c, if_pos rfl])
theorem op_liftOf (h : RR nb nl nr ne pr t M) (x : Int32) : (mLiftOf M nr x).2 0 0 = nI (if dcN x nr = 0 then (if t 10 x.toNatClampNeg < 0 then 2 else 0) else 1) ∧
    ((if dcN x nr = 0 then (if t 10 x.toNatClampNeg < 0 then 2 else 0) else 1) = 0 → t 10 x.toNatClampNeg = (mLiftOf M nr x).1 ∧ RR nb nl nr ne pr t (mLiftOf M nr x).2) ∧
    (¬ (if dcN x nr = 0 then (if t 10 x.toNatClampNeg < 0 then 2 else 0) else 1) = 0 → RR nb nl nr ne pr t (mLiftOf M nr x).2) := by
  have h3 := h.b8
  have b1 := dcN_b (x := x) (n := nr) (by omega)
  unfold mLiftOf
  rw [h.1.r 10]
  by_cases c1 : dcN x nr = 0
  · rw [if_pos (b1.mpr c1), if_pos c1]
    by_cases c2 : M 10 x.toNatClampNeg < 0
    · rw [if_pos c2, if_pos c2]
      exact ⟨pr_0 rfl, fun z => absurd z (by decide), fun _ => (h.m0 0).m0 2⟩
    · rw [if_neg c2, if_neg c2]
      exact ⟨pr_0 rfl, fun _ => ⟨rfl, h.m0 0⟩, fun z => absurd rfl z⟩
  · rw [if_neg (fun z => c1 (b1.mp z)), if_neg c1]
    exact ⟨pr_0 rfl, fun z => absurd z (by decide), fun _ => h.m0 1⟩
theorem op_lid (h : RR nb nl nr ne pr t M) (x : Int32) {a b : Int32} (hab : ∀ r, r < nl → x.toNatClampNeg = r → bet x 0 (nI nl - 1) → a = b) : mNoLift M nl x 0 0 = nI (if dcN x nl = 0 then 0 else 1) ∧
    ((if dcN x nl = 0 then 0 else 1) = 0 → a = b ∧ RR nb nl nr ne pr t (mNoLift M nl x)) ∧ (¬ (if dcN x nl = 0 then 0 else 1) = 0 → RR nb nl nr ne pr t (mNoLift M nl x)) := by
  have h3 := h.b8
  refine ⟨mNoLift_0 (by omega), fun hk => ⟨?_, h.nol x⟩, fun _ => h.nol x⟩
  have b1 := (dcN_b (x := x) (n := nl) (by omega)).mpr (k01.mp hk)
  obtain ⟨r, rfl, hr⟩ := betc_nI b1 (by omega)
  exact hab r hr (nI_clamp (by omega)) b1
theorem op_service (h : RR nb nl nr ne pr t M) (x : Int32) : mNoLift M nl x 0 0 = nI (if dcN x nl = 0 then 0 else 1) ∧
    ((if dcN x nl = 0 then 0 else 1) = 0 → t 20 x.toNatClampNeg = mLiftGet M nl 20 x ∧ RR nb nl nr ne pr t (mNoLift M nl x)) ∧ (¬ (if dcN x nl = 0 then 0 else 1) = 0 → RR nb nl nr ne pr t (mNoLift M nl x)) :=
  op_lid h x (fun r _ _ hb => by unfold mLiftGet; rw [if_pos hb, h.1.r 20])
theorem op_floorOfLift (h : RR nb nl nr ne pr t M) (x : Int32) : mNoLift M nl x 0 0 = nI (if dcN x nl = 0 then 0 else 1) ∧
    ((if dcN x nl = 0 then 0 else 1) = 0 → t 18 x.toNatClampNeg = mLiftGet M nl 18 x ∧ RR nb nl nr ne pr t (mNoLift M nl x)) ∧ (¬ (if dcN x nl = 0 then 0 else 1) = 0 → RR nb nl nr ne pr t (mNoLift M nl x)) :=
  op_lid h x (fun r _ _ hb => by unfold mLiftGet; rw [if_pos hb, h.1.r 18])
theorem op_isUp (h : RR nb nl nr ne pr t M) (x : Int32) : mNoLift M nl x 0 0 = nI (if dcN x nl = 0 then 0 else 1) ∧
    ((if dcN x nl = 0 then 0 else 1) = 0 → (if t 21 x.toNatClampNeg = 0 then 0 else 1) = mIsUp M nl x ∧ RR nb nl nr ne pr t (mNoLift M nl x)) ∧ (¬ (if dcN x nl = 0 then 0 else 1) = 0 → RR nb nl nr ne pr t (mNoLift M nl x)) :=
  op_lid h x (fun r _ _ hb => by
    unfold mIsUp
    rw [h.1.r 21]
    by_cases c : M 21 x.toNatClampNeg = 0
    · rw [if_pos c, b2i_f (fun z => z.2 c)]
    · rw [if_neg c, b2i_t ⟨hb, c⟩])
theorem op_aboard (h : RR nb nl nr ne pr t M) (x : Int32) : mNoLift M nl x 0 0 = nI (if dcN x nl = 0 then 0 else 1) ∧
    ((if dcN x nl = 0 then 0 else 1) = 0 → dAb t pr x.toNatClampNeg pr.length = mAboard M nr nl x ∧ RR nb nl nr ne pr t (mNoLift M nl x)) ∧ (¬ (if dcN x nl = 0 then 0 else 1) = 0 → RR nb nl nr ne pr t (mNoLift M nl x)) :=
  op_lid h x (fun r _ _ hb => by unfold mAboard; rw [if_pos hb]; exact ab_eq (h.1.r 13) (h.1.r 10) h.2.2.1)
theorem op_score (h : RR nb nl nr ne pr t M) (x y : Int32) : (mScoreA M nr nl x y).2 0 0 = nI (if dcN x nl = 0 then (if dcF y = 0 then 0 else 1) else 1) ∧
    ((if dcN x nl = 0 then (if dcF y = 0 then 0 else 1) else 1) = 0 → dScore t pr x.toNatClampNeg y = (mScoreA M nr nl x y).1 ∧ RR nb nl nr ne pr t (mScoreA M nr nl x y).2) ∧
    (¬ (if dcN x nl = 0 then (if dcF y = 0 then 0 else 1) else 1) = 0 → RR nb nl nr ne pr t (mScoreA M nr nl x y).2) := by
  have h3 := h.b8
  have b1 := dcN_b (x := x) (n := nl) (by omega)
  have b2 := dcF_b (x := y)
  unfold mScoreA
  by_cases c1 : dcN x nl = 0
  · rw [if_pos (b1.mpr c1), if_pos c1]
    by_cases c2 : dcF y = 0
    · rw [if_pos (b2.mpr c2), if_pos c2]
      exact ⟨pr_0 rfl, fun _ => ⟨h.score, h.m0 0⟩, fun z => absurd rfl z⟩
    · rw [if_neg (fun z => c2 (b2.mp z)), if_neg c2]
      exact ⟨pr_0 rfl, fun z => absurd z (by decide), fun _ => h.m0 1⟩
  · rw [if_neg (fun z => c1 (b1.mp z)), if_neg c1]
    exact ⟨pr_0 rfl, fun z => absurd z (by decide), fun _ => h.m0 1⟩
end RY
