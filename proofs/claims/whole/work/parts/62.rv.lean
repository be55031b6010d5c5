/-! steps that both sides take: a lift moves, is cleaned; the end of a tick -/
theorem exB_mem {pr : List Nat} {p : Nat → Bool} : exB (fun i => p (pg pr i)) pr.length = true ↔ ∃ r, r ∈ pr ∧ p r = true := by
  rw [exB_iff]
  constructor
  · rintro ⟨i, hi, h⟩
    exact ⟨pg pr i, pg_mem hi, h⟩
  · rintro ⟨r, hr, h⟩
    obtain ⟨i, hi, e⟩ := List.getElem_of_mem hr
    refine ⟨i, hi, ?_⟩
    show p (pg pr i) = true
    rw [pg_of (List.getElem?_eq_getElem hi), e]; exact h
theorem mHas_iff {M : TT} {n l a b : Nat} : mHasAim M n l a b = true ↔ ∃ f r, a ≤ f ∧ f < b ∧ r < n ∧ mIsAim M n l r (nI f) = true := by
  unfold mHasAim
  rw [exB_iff]
  constructor
  · rintro ⟨j, hj, h⟩
    obtain ⟨r, hr, h⟩ := exB_iff.mp h
    exact ⟨a + j, r, by omega, by omega, hr, h⟩
  · rintro ⟨f, r, h1, h2, h3, h4⟩
    refine ⟨f - a, by omega, exB_iff.mpr ⟨r, h3, ?_⟩⟩
    rw [show a + (f - a) = f by omega]; exact h4
theorem st_up : ∀ f, f < 10 → ∀ w, w < 10 → (0 < (nI f - nI w) * 1 ↔ w + 1 ≤ f ∧ f < 10) := by decide +kernel
theorem st_dn : ∀ f, f < 10 → ∀ w, w < 10 → (0 < (nI f - nI w) * (-1) ↔ 0 ≤ f ∧ f < w) := by decide +kernel
section RV
variable {nb nl nr ne : Nat} {pr : List Nat} {t M t2 M2 : TT}
theorem RR.cnt (h : RR nb nl nr ne pr t M) (q : Nat) : dAb t pr q pr.length = nI (cA t q nr) ∧ mAb M q nr = nI (cA t q nr) := by
  have h1 := ab_eq (q := q) (h.1.r 13) (h.1.r 10) h.2.2.1
  have h2 : mAb M q nr = nI (cA t q nr) := by
    rw [mAb_n]
    exact congrArg nI (Nat.le_antisymm (cA_cg (h.1.r 13).symm (h.1.r 10).symm nr) (cA_cg (h.1.r 13) (h.1.r 10) nr))
  exact ⟨h1.trans h2, h2⟩
theorem RR.aimE (h : RR nb nl nr ne pr t M) {q w : Nat} (hw : t 18 q = nI w) {st : Int32} {a b : Nat} (hst : ∀ f, f < 10 → (0 < (nI f - nI w) * st ↔ a ≤ f ∧ f < b)) (hb : b ≤ 10) : dAim t pr q st (b2i (dRoom t pr q)) = mHasAim M nr q a b := by
  rw [Bool.eq_iff_iff, mHas_iff]
  unfold dAim
  rw [exB_mem (p := fun r => (decide (t 13 r = 97 ∧ t 10 r = nI q) && decide (0 < (t 9 r - t 18 q) * st)) || (!decide (b2i (dRoom t pr q) = 0) && decide (t 13 r = 119 ∧ t 10 r = nI q) && decide (0 < (t 8 r - t 18 q) * st)))]
  obtain ⟨k1, k2⟩ := h.cnt q
  have hroom : (¬ b2i (dRoom t pr q) = 0) ↔ (M 20 q = 115 ∧ ¬ M 17 q ≤ mAb M q nr) := by
    rw [b2i_0, Classical.not_not]
    unfold dRoom
    rw [k1, k2, h.1.r 20, h.1.r 17, Int32.not_le]
  constructor
  · rintro ⟨r, hr, hp⟩
    have hn := h.lt hr
    obtain ⟨b1, b2, ⟨f8, f81, f82⟩, ⟨f9, f91, f92⟩, b5, b6⟩ := h.2.2.2.2.1 r hn
    simp only [Bool.or_eq_true, Bool.and_eq_true, decide_eq_true_eq, Bool.not_eq_true', decide_eq_false_iff_not] at hp
    rcases hp with ⟨⟨p1, p2⟩, p3⟩ | ⟨⟨p0, p1, p2⟩, p3⟩
    · rw [f92, hw, hst f9 f91] at p3
      refine ⟨f9, r, p3.1, p3.2, hn, ?_⟩
      unfold mIsAim
      rw [← h.1.r 13, ← h.1.r 10, ← h.1.r 9, if_pos p2, p1, if_neg (by decide), if_pos rfl, f92]
      simp
    · rw [f82, hw, hst f8 f81] at p3
      obtain ⟨r1, r2⟩ := hroom.mp p0
      refine ⟨f8, r, p3.1, p3.2, hn, ?_⟩
      unfold mIsAim
      rw [← h.1.r 13, ← h.1.r 10, ← h.1.r 8, if_pos p2, p1, if_neg (by decide), if_neg (by decide), if_pos f82, if_pos r1]
      simp [r2]
  · rintro ⟨f, r, g1, g2, hn, hp⟩
    obtain ⟨b1, b2, ⟨f8, f81, f82⟩, ⟨f9, f91, f92⟩, b5, b6⟩ := h.2.2.2.2.1 r hn
    unfold mIsAim at hp
    rw [← h.1.r 13, ← h.1.r 10, ← h.1.r 8, ← h.1.r 9] at hp
    by_cases p2 : t 10 r = nI q
    · rw [if_pos p2] at hp
      rcases b1 with b1 | b1 | b1
      · rw [b1, if_neg (by decide), if_neg (by decide)] at hp
        by_cases p3 : t 8 r = nI f
        · rw [if_pos p3] at hp
          by_cases p4 : M 20 q = 115
          · rw [if_pos p4] at hp
            have p5 : ¬ M 17 q ≤ mAb M q nr := by simpa using hp
            refine ⟨r, h.mem hn (by rw [b1]; decide), ?_⟩
            have := hroom.mpr ⟨p4, p5⟩
            simp only [Bool.or_eq_true, Bool.and_eq_true, decide_eq_true_eq, Bool.not_eq_true', decide_eq_false_iff_not]
            exact Or.inr ⟨⟨this, b1, p2⟩, by rw [p3, hw, hst f (by omega)]; exact ⟨g1, g2⟩⟩
          · rw [if_neg p4] at hp; cases hp
        · rw [if_neg p3] at hp; cases hp
      · rw [b1, if_neg (by decide), if_pos rfl] at hp
        have p3 : t 9 r = nI f := by simpa using hp
        refine ⟨r, h.mem hn (by rw [b1]; decide), ?_⟩
        simp only [Bool.or_eq_true, Bool.and_eq_true, decide_eq_true_eq, Bool.not_eq_true', decide_eq_false_iff_not]
        exact Or.inl ⟨⟨b1, p2⟩, by rw [p3, hw, hst f (by omega)]; exact ⟨g1, g2⟩⟩
      · rw [b1, if_pos rfl] at hp; cases hp
    · rw [if_neg p2] at hp; cases hp
theorem RR.l18 (h : RR nb nl nr ne pr t M) {q w : Nat} {v : Int32} (hq : q < nl) (hw : w < 10) (hv : v = 0 ∨ v = 1) : RR nb nl nr ne pr (tu (tu t 21 q v) 18 q (nI w)) (tu (tu M 21 q v) 18 q (nI w)) := by
  obtain ⟨c1, c2, c3, c4, c5⟩ := h.2.2.2.2.2.1 q hq
  refine h.lift hq (fun k h1 h2 h3 h4 => by rw [tu_r h1, tu_r h4]) (fun k h1 h2 h3 h4 => by rw [tu_r h1, tu_r h4]) (tu_cg (tu_cg (h.1.r 18))) (tu_cg (tu_cg (h.1.r 19))) (tu_cg (tu_cg (h.1.r 20))) (tu_cg (tu_cg (h.1.r 21)))
    (fun l hl => ⟨by rw [tu_i hl, tu_i hl], by rw [tu_i hl, tu_i hl], by rw [tu_i hl, tu_i hl], by rw [tu_i hl, tu_i hl]⟩) ⟨w, hw, tu_s⟩ ?_ ?_ ?_
  · rw [tu_k (by decide), tu_k (by decide)]; exact c3
  · rw [tu_k (by decide), tu_k (by decide), tu_k (by decide), tu_k (by decide)]; exact c4
  · rw [tu_k (by decide), tu_s]; exact hv
theorem RR.move (h : RR nb nl nr ne pr t M) {q w : Nat} (hq : q < nl) (hw : M 18 q = nI w) (hw10 : w < 10) : RR nb nl nr ne pr (dMove t pr q) (mGoes M nr q w) := by
  have hw2 : t 18 q = nI w := by rw [h.1.r 18]; exact hw
  obtain ⟨c1, c2, c3, c4, c5⟩ := h.2.2.2.2.2.1 q hq
  have hup := h.aimE hw2 (st := 1) (a := w + 1) (b := 10) (fun f hf => st_up f hf w hw10) (Nat.le_refl _)
  have hdn := h.aimE hw2 (st := -1) (a := 0) (b := w) (fun f hf => st_dn f hf w hw10) (by omega)
  have e21 : t 21 q = M 21 q := by rw [h.1.r 21]
  have none : mHasAim M nr q (w + 1) 10 = false → mHasAim M nr q 0 w = false → RR nb nl nr ne pr (if t 20 q = 111 then tu (tu t 20 q 99) 19 q 20 else t) (if M 20 q = 111 then tu (tu M 20 q 99) 19 q 20 else M) := by
    intro _ _
    rw [← h.1.r 20]
    by_cases c : t 20 q = 111
    · rw [if_pos c, if_pos c]
      refine h.lift hq (fun k h1 h2 h3 h4 => by rw [tu_r h2, tu_r h3]) (fun k h1 h2 h3 h4 => by rw [tu_r h2, tu_r h3]) (tu_cg (tu_cg (h.1.r 18))) (tu_cg (tu_cg (h.1.r 19))) (tu_cg (tu_cg (h.1.r 20))) (tu_cg (tu_cg (h.1.r 21)))
        (fun l hl => ⟨by rw [tu_i hl, tu_i hl], by rw [tu_i hl, tu_i hl], by rw [tu_i hl, tu_i hl], by rw [tu_i hl, tu_i hl]⟩) ?_ ?_ ?_ ?_
      · rw [tu_k (by decide), tu_k (by decide)]; exact c1
      · rw [tu_k (by decide), tu_s]; exact Or.inr (Or.inr rfl)
      · exact fun _ => ⟨20, by decide, by decide, tu_s⟩
      · rw [tu_k (by decide), tu_k (by decide)]; exact c5
    · rw [if_neg c, if_neg c]; exact h
  have goUp : ∀ v : Int32, v = 0 ∨ v = 1 → mHasAim M nr q (w + 1) 10 = true → RR nb nl nr ne pr (tu (tu t 21 q v) 18 q (nI w + 1)) (tu (tu M 21 q v) 18 q (nI w + 1)) := fun v hv hh => by
    have := mHasAim_lt hh
    rw [nI_1]
    exact h.l18 hq (by omega) hv
  have goDn : ∀ v : Int32, v = 0 ∨ v = 1 → mHasAim M nr q 0 w = true → RR nb nl nr ne pr (tu (tu t 21 q v) 18 q (nI w + (-1))) (tu (tu M 21 q v) 18 q (nI w + (-1))) := fun v hv hh => by
    have := mHasAim_lt hh
    obtain ⟨w2, rfl⟩ : ∃ w2, w = w2 + 1 := ⟨w - 1, by omega⟩
    rw [pk_m1]
    exact h.l18 hq (by omega) hv
  have em : nI w - 1 = nI w + (-1) := Int32.sub_eq_add_neg _ _
  have ep : nI w - (-1) = nI w + 1 := by rw [Int32.sub_eq_add_neg]; rfl
  unfold dMove mGoes mGo2 dStep
  rcases c5 with c5 | c5
  · rw [if_pos c5, if_pos (show M 21 q = 0 by rw [← e21]; exact c5), hdn, show -(-1 : Int32) = 1 by decide, hup, hw2, c5, if_pos rfl, ep]
    cases cu : mHasAim M nr q (w + 1) 10 with
    | true =>
      cases cd : mHasAim M nr q 0 w with
      | true =>
        rw [if_pos rfl, if_pos rfl, if_pos rfl]
        have := goDn 0 (Or.inl rfl) cd
        rw [tu_same c5] at this
        exact this
      | false =>
        rw [if_neg (by decide), if_pos rfl, if_pos rfl, if_neg (by decide)]
        exact goUp 1 (Or.inr rfl) cu
    | false =>
      cases cd : mHasAim M nr q 0 w with
      | true =>
        rw [if_pos rfl, if_neg (by decide), if_pos rfl, if_pos rfl]
        have := goDn 0 (Or.inl rfl) cd
        rw [tu_same c5] at this
        exact this
      | false =>
        simp only [Bool.false_eq_true, if_false]
        exact none cu cd
  · have c50 : ¬ t 21 q = 0 := by rw [c5]; decide
    have c51 : ¬ M 21 q = 0 := by rw [← e21]; exact c50
    rw [if_neg c50, if_neg c50, if_neg c51, hup, hdn, hw2, em]
    cases cu : mHasAim M nr q (w + 1) 10 with
    | true =>
      rw [if_pos rfl, if_pos rfl, if_pos rfl]
      have := goUp 1 (Or.inr rfl) cu
      rw [tu_same c5] at this
      exact this
    | false =>
      cases cd : mHasAim M nr q 0 w with
      | true =>
        rw [if_neg (by decide), if_pos rfl, if_neg (by decide), if_pos rfl, if_neg (by decide)]
        exact goDn 0 (Or.inl rfl) cd
      | false =>
        simp only [Bool.false_eq_true, if_false]
        exact none cu cd
theorem RR.clean (h : RR nb nl nr ne pr t M) {q : Nat} (hq : q < nl) (hc : t 20 q = 99) : RR nb nl nr ne pr (dClean t q) (if M 19 q - 1 = 0 then tu (tu M 19 q (M 19 q - 1)) 20 q 115 else tu M 19 q (M 19 q - 1)) := by
  obtain ⟨c1, c2, c3, c4, c5⟩ := h.2.2.2.2.2.1 q hq
  obtain ⟨k, k1, k2, k3⟩ := c4 hc
  obtain ⟨j, rfl⟩ : ∃ j, k = j + 1 := ⟨k - 1, by omega⟩
  unfold dClean
  rw [← h.1.r 19, k3, nI_pred]
  rcases Nat.eq_zero_or_pos j with h0 | h0
  · subst h0
    rw [if_neg (by decide), if_pos (by decide)]
    refine h.lift hq (fun k h1 h2 h3 h4 => by rw [tu_r h3, tu_r h2]) (fun k h1 h2 h3 h4 => by rw [tu_r h3, tu_r h2]) (tu_cg (tu_cg (h.1.r 18))) (tu_cg (tu_cg (h.1.r 19))) (tu_cg (tu_cg (h.1.r 20))) (tu_cg (tu_cg (h.1.r 21)))
      (fun l hl => ⟨by rw [tu_i hl, tu_i hl], by rw [tu_i hl, tu_i hl], by rw [tu_i hl, tu_i hl], by rw [tu_i hl, tu_i hl]⟩) ?_ ?_ ?_ ?_
    · rw [tu_k (by decide), tu_k (by decide)]; exact c1
    · rw [tu_s]; exact Or.inl rfl
    · rw [tu_s]; exact fun z => absurd z (by decide)
    · rw [tu_k (by decide), tu_k (by decide)]; exact c5
  · rw [if_pos (show 0 < nI j from nI_lt (a := 0) h0 (by omega)), if_neg (nI_ne0 h0 (by omega)), tu_same (show tu t 19 q (nI j) 20 q = t 20 q from tu_k (by decide))]
    refine h.lift hq (fun k h1 h2 h3 h4 => tu_r h2) (fun k h1 h2 h3 h4 => tu_r h2) (tu_cg (h.1.r 18)) (tu_cg (h.1.r 19)) (tu_cg (h.1.r 20)) (tu_cg (h.1.r 21))
      (fun l hl => ⟨tu_i hl, tu_i hl, tu_i hl, tu_i hl⟩) ?_ ?_ ?_ ?_
    · rw [tu_k (by decide)]; exact c1
    · rw [tu_k (by decide)]; exact c3
    · exact fun _ => ⟨j, h0, by omega, tu_s⟩
    · rw [tu_k (by decide)]; exact c5
theorem mOm_eq {n : Nat} (h13 : t 13 = M 13) (hpr : pr = prs t n) : mOm M n = nI pr.length :=
  (sim2 (α := Int32) (β := Int32) hpr (fun a _ => a + 1) (fun i => nI i) (fun i => (nI_1 i).symm) (fun b r => b + (if M 13 r = 100 then 0 else 1)) (mOm M) (fun _ => rfl) (fun _ a b => b = a) rfl
    (fun r a b _ hc e => by
      have h1 := isP_t.mp hc
      rw [h13] at h1
      show b + _ = a + 1
      rw [if_neg h1, e])
    (fun r a b _ hc e => by
      have h1 := isP_f hc
      rw [h13] at h1
      show b + _ = a
      rw [if_pos h1, e, Int32.add_zero]))
theorem dCw_cf {n : Nat} (hpr : pr = prs t n) : ∀ j, dCw t pr pr.length 40 j = if j < n ∧ t 13 j = 119 then t 40 j + 1 else t 40 j := by
  have := sim2 (α := TT) (β := Unit) hpr dCs (dCw t pr) (fun _ => rfl) (fun b _ => b) (fun _ => ()) (fun _ => rfl) (fun r a _ => a 13 = t 13 ∧ ∀ j, a 40 j = if j < r ∧ t 13 j = 119 then t 40 j + 1 else t 40 j)
    ⟨rfl, fun j => by rw [if_neg (fun z => absurd z.1 (by omega))]; rfl⟩
    (fun r a b _ hc e => by
      obtain ⟨e1, e2⟩ := e
      unfold dCs
      rw [e1]
      by_cases c : t 13 r = 119
      · rw [if_pos c]
        refine ⟨(tu_r (by decide)).trans e1, fun j => ?_⟩
        by_cases d : j = r
        · subst d
          rw [tu_s, e2, if_neg (fun z => absurd z.1 (by omega)), if_pos ⟨Nat.lt_succ_self j, c⟩]
        · rw [tu_i d, e2]
          by_cases f : j < r ∧ t 13 j = 119
          · rw [if_pos f, if_pos ⟨by omega, f.2⟩]
          · rw [if_neg f, if_neg (fun z => f ⟨by omega, z.2⟩)]
      · rw [if_neg c]
        refine ⟨e1, fun j => ?_⟩
        rw [e2]
        by_cases f : j < r ∧ t 13 j = 119
        · rw [if_pos f, if_pos ⟨by omega, f.2⟩]
        · rw [if_neg f, if_neg (fun z => f ⟨by
            have : j ≠ r := by rintro rfl; exact c z.2
            omega, z.2⟩)])
    (fun r a b _ hc e => by
      obtain ⟨e1, e2⟩ := e
      refine ⟨e1, fun j => ?_⟩
      rw [e2]
      by_cases f : j < r ∧ t 13 j = 119
      · rw [if_pos f, if_pos ⟨by omega, f.2⟩]
      · rw [if_neg f, if_neg (fun z => f ⟨by
          have : j ≠ r := by
            rintro rfl
            have h1 := isP_f hc
            rw [z.2] at h1
            exact absurd h1 (by decide)
          omega, z.2⟩)])
  exact this.2
theorem RR.pend (h : RR nb nl nr ne pr t M) : RR nb nl nr ne pr (dPend (t, pr, ne)).1 (mPend M nr) := by
  have hO : mOm (tu M 23 0 (M 23 0 + 1)) nr = nI pr.length := mOm_eq (t := t) (by rw [tu_r (by decide)]; exact h.1.r 13) h.2.2.1
  have h40 := dCw_cf h.2.2.1
  have hk : ∀ k, k ≠ 40 → dCw t pr pr.length k = t k := fun k hk => dCw_k hk _
  have hlen : pr.length ≤ 30 := by
    have h1 : pr.length ≤ nr := by rw [h.2.2.1]; exact prs_len
    exact Nat.le_trans h1 h.2.2.2.1.2.2.1
  obtain ⟨hE, hN, hp, hS, hB, hC, hZ, hA, hW, hL⟩ := h
  unfold dPend mPend
  rw [hO]
  show RR nb nl nr ne pr (if pr.length = 0 then tu (tu (dCw t pr pr.length) 23 0 (dCw t pr pr.length 23 0 + 1)) 60 0 (-1) else tu (dCw t pr pr.length) 23 0 (dCw t pr pr.length 23 0 + 1)) _
  obtain ⟨t2, ht2⟩ : ∃ t2, t2 = (if pr.length = 0 then tu (tu (dCw t pr pr.length) 23 0 (dCw t pr pr.length 23 0 + 1)) 60 0 (-1) else tu (dCw t pr pr.length) 23 0 (dCw t pr pr.length 23 0 + 1)) := ⟨_, rfl⟩
  rw [← ht2]
  have et : ∀ k, ¬ (k = 40 ∨ k = 23 ∨ k = 60) → t2 k = t k := fun k hk9 => by
    rw [ht2]
    have a1 : k ≠ 40 := fun z => hk9 (Or.inl z)
    have a2 : k ≠ 23 := fun z => hk9 (Or.inr (Or.inl z))
    have a3 : k ≠ 60 := fun z => hk9 (Or.inr (Or.inr z))
    split
    · rw [tu_r a3, tu_r a2, hk k a1]
    · rw [tu_r a2, hk k a1]
  have e23 : t2 23 0 = t 23 0 + 1 := by
    rw [ht2]
    split
    · rw [tu_k (by decide), tu_s, hk 23 (by decide)]
    · rw [tu_s, hk 23 (by decide)]
  have e40 : ∀ j, t2 40 j = if j < nr ∧ t 13 j = 119 then t 40 j + 1 else t 40 j := fun j => by
    rw [← h40, ht2]
    split
    · rw [tu_k (by decide), tu_k (by decide)]
    · rw [tu_k (by decide)]
  have e60 : t2 60 0 = if pr.length = 0 then -1 else t 60 0 := by
    rw [ht2]
    split
    · rw [tu_s]
    · rw [tu_k (by decide), hk 60 (by decide)]
  obtain ⟨M2, hM2⟩ : ∃ M2, M2 = tu (tu M 23 0 (M 23 0 + 1)) 27 0 (if M 27 0 = 0 then 0 else if nI pr.length ≤ 0 then 0 else 1) := ⟨_, rfl⟩
  rw [← hM2]
  have eM : ∀ k, ¬ (k = 23 ∨ k = 27) → M2 k = M k := fun k hk9 => by
    rw [hM2, tu_r (fun z => hk9 (Or.inr z)), tu_r (fun z => hk9 (Or.inl z))]
  have eM23 : M2 23 0 = M 23 0 + 1 := by rw [hM2, tu_k (by decide), tu_s]
  have eM27 : M2 27 0 = if M 27 0 = 0 then 0 else if nI pr.length ≤ 0 then 0 else 1 := by rw [hM2, tu_s]
  clear ht2 hM2
  refine ⟨⟨fun k hk => ?_, ?_, ?_, ?_⟩, hN.cg ?_ ?_ ?_ ?_ ?_, hp.trans (prs_cg (et 13 (by decide)).symm), hS.cg (et 13 (by decide)), fun j hj => (hB j hj).cg ?_ ?_ ?_ ?_ ?_, fun l hl => (hC l hl).cg ?_ ?_ ?_ ?_ ?_ (cA_cg ?_ ?_ nr), hZ.cg ?_ ?_ ?_ ?_, ?_, fun j hj => ?_, hL.cg ?_ ?_ ?_ ?_ ?_ ?_⟩
  case refine_1 =>
    rw [et k (by rintro (rfl | rfl | rfl) <;> cases hk), eM k (by rintro (rfl | rfl) <;> cases hk)]
    exact hE.1 k hk
  case refine_2 => rw [e23, eM23, hE.2.1]
  case refine_3 => rw [et _ (by decide), eM _ (by decide)]; exact hE.2.2.1
  case refine_4 => rw [et _ (by decide), eM _ (by decide)]; exact hE.2.2.2
  case refine_26 =>
    unfold RA
    rw [e60, eM27, eM 26 (by decide)]
    by_cases c : pr.length = 0
    · rw [if_pos c, c, if_pos (show nI 0 ≤ 0 by decide)]
      exact Or.inl ⟨rfl, by split <;> rfl⟩
    · rw [if_neg c, if_neg (nI_nle (show 0 < pr.length by omega) (by omega))]
      rcases hA with ⟨a, b⟩ | ⟨f, f1, a, b, d⟩
      · exact Or.inl ⟨a, by rw [if_pos b]⟩
      · exact Or.inr ⟨f, f1, a, by rw [if_neg (by rw [b]; decide)], d⟩
  case refine_27 =>
    have hw9 := hW j hj
    unfold mWb at hw9 ⊢
    rw [e40, eM 13 (by decide), eM 12 (by decide), eM 11 (by decide), eM23, ← hE.r 13]
    rw [← hE.r 13] at hw9
    by_cases c : t 13 j = 119
    · rw [if_pos ⟨hj, c⟩, if_pos c, hw9, if_pos c, Int32.sub_eq_add_neg, Int32.sub_eq_add_neg, Int32.add_assoc, Int32.add_comm (-(M 11 j)) 1, ← Int32.add_assoc]
    · rw [if_neg (fun z => c z.2), if_neg c, hw9, if_neg c]
  all_goals first | (intro l9 _; rw [et _ (by decide)]) | rw [et _ (by decide)] | rw [eM _ (by decide)]
end RV
