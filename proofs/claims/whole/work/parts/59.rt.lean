/-! steps that both sides take -/
section RT
variable {nb nl nr ne : Nat} {pr : List Nat} {t M t2 M2 : TT}
/-- row 10 alone, of those who wait -/
theorem RR.row10 (h : RR nb nl nr ne pr t M) (et : ∀ k, k ≠ 10 → t2 k = t k) (eM : ∀ k, k ≠ 10 → M2 k = M k) (e10 : t2 10 = M2 10) (hv : ∀ j, j < nr → t2 10 j = t 10 j ∨ (t 13 j = 119 ∧ t2 10 j = -1)) : RR nb nl nr ne pr t2 M2 := by
  obtain ⟨hE, hN, hp, hS, hB, hC, hZ, hA, hW, hL⟩ := h
  refine ⟨⟨fun k hk => ?_, ?_, ?_, ?_⟩, hN.cg ?_ ?_ ?_ ?_ ?_, hp.trans (prs_cg (et 13 (by decide)).symm), hS.cg (et 13 (by decide)), fun j hj => ?_, fun l hl => (hC l hl).cg ?_ ?_ ?_ ?_ ?_ ?_, hZ.cg ?_ ?_ ?_ ?_, hA.cg ?_ ?_ ?_, hW.cg ?_ ?_ ?_ ?_ ?_, hL.cg ?_ ?_ ?_ ?_ ?_ ?_⟩
  case refine_1 =>
    by_cases c : k = 10
    · subst c; exact e10
    · rw [et k c, eM k c]; exact hE.1 k hk
  case refine_2 => rw [et 23 (by decide), eM 23 (by decide)]; exact hE.2.1
  case refine_3 => rw [et 24 (by decide), eM 24 (by decide)]; exact hE.2.2.1
  case refine_4 => rw [et 25 (by decide), eM 25 (by decide)]; exact hE.2.2.2
  case refine_10 =>
    obtain ⟨b1, b2, b3, b4, b5, b6⟩ := hB j hj
    refine ⟨by rw [et 13 (by decide)]; exact b1, by rw [et 7 (by decide)]; exact b2, by rw [et 8 (by decide)]; exact b3, by rw [et 9 (by decide)]; exact b4, ?_, ?_⟩
    · rcases hv j hj with c | ⟨-, c⟩
      · rw [c]; exact b5
      · exact Or.inl c
    · rw [et 13 (by decide)]
      intro z
      rcases hv j hj with c | ⟨c, -⟩
      · rw [c]; exact b6 z
      · rw [c] at z; exact absurd z (by decide)
  case refine_16 =>
    refine cA_mono nr (fun j hj a b => ?_)
    rw [et 13 (by decide)] at a
    rcases hv j hj with c | ⟨c, -⟩
    · rw [c] at b; exact ⟨a, b⟩
    · rw [c] at a; exact absurd a (by decide)
  all_goals first | (intro l9 _; rw [et _ (by decide)]) | rw [et _ (by decide)] | rw [eM _ (by decide)]
/-- lifts are given to all who have none -/
theorem RR.gall (h : RR nb nl nr ne pr t M) (h27 : M 27 0 = 0) (x : Int32) : RR nb nl nr ne pr (dGall t pr nl pr.length) (mGall M nr nl x nr) := by
  have := sim2 (α := TT) (β := TT) h.2.2.1 (dGs pr nl) (dGall t pr nl) (fun _ => rfl) (fun b r => mGs b nr nl x r) (mGall M nr nl x) (fun _ => rfl) (fun _ a b => RR nb nl nr ne pr a b ∧ b 13 = M 13 ∧ b 27 0 = 0) ⟨h, rfl, h27⟩
    (fun r a b hr hc hR => by
      obtain ⟨h1, h2, h3⟩ := hR
      unfold dGs mGs
      rw [← h1.1.r 13, ← h1.1.r 10]
      by_cases c : a 13 r = 119
      · by_cases d : a 10 r < 0
        · rw [if_pos c, if_pos d, if_pos c, if_neg (fun z => Int32.not_lt.mpr z d), if_pos h3]
          exact ⟨h1.give hr c, (mGives_k (by decide)).trans h2, by rw [mGives_k (by decide)]; exact h3⟩
        · rw [if_pos c, if_neg d, if_pos c, if_pos (Int32.not_lt.mp d)]
          exact ⟨h1, h2, h3⟩
      · rw [if_neg c, if_neg c]
        exact ⟨h1, h2, h3⟩)
    (fun r a b hr hc hR => by
      obtain ⟨h1, h2, h3⟩ := hR
      have := isP_f hc
      rw [h.1.r 13, ← h2] at this
      unfold mGs
      rw [if_neg (by rw [this]; decide)]
      exact ⟨h1, h2, h3⟩)
  exact this.1
/-- one lift is lost -/
theorem RR.lose (h : RR nb nl nr ne pr t M) {q : Nat} (hq : q < 100) : RR nb nl nr ne pr (dLose t pr q pr.length).1 (mFrees M (nI q) nr).1 ∧ (dLose t pr q pr.length).2 = (mFrees M (nI q) nr).2 := by
  have := sim2 (α := TT × Int32) (β := TT × Int32) h.2.2.1 (fun a r => dLs q a.1 a.2 r) (dLose t pr q) (fun _ => rfl) (fun b r => mFs b.1 (nI q) r b.2) (mFrees M (nI q)) (fun _ => rfl) (fun _ a b => RR nb nl nr ne pr a.1 b.1 ∧ b.1 13 = M 13 ∧ a.2 = b.2) ⟨h, rfl, rfl⟩
    (fun r a b hr hc hR => by
      obtain ⟨h1, h2, h3⟩ := hR
      show RR _ _ _ _ _ (dLs q a.1 a.2 r).1 (mFs b.1 (nI q) r b.2).1 ∧ _ ∧ _
      unfold dLs mFs
      rw [← h1.1.r 13, ← h1.1.r 10]
      by_cases c : a.1 13 r = 119
      · by_cases d : a.1 10 r = nI q
        · rw [if_pos ⟨c, d⟩, if_pos c, if_neg (by rw [d]; exact nI_pos (by omega)), if_neg (nI_pos (by omega)), if_pos d]
          exact ⟨h1.s10 hr c (Or.inl rfl), (tu_r (M := b.1) (k := 10) (i := r) (v := -1) (k9 := 13) (by decide)).trans h2, by rw [h3]⟩
        · rw [if_neg (fun z => d z.2), if_pos c, if_neg (nI_pos (show q < 2 ^ 31 by omega)), if_neg d]
          split <;> exact ⟨h1, h2, h3⟩
      · rw [if_neg (fun z => c z.1), if_neg c]
        exact ⟨h1, h2, h3⟩)
    (fun r a b hr hc hR => by
      obtain ⟨h1, h2, h3⟩ := hR
      have := isP_f hc
      rw [h.1.r 13, ← h2] at this
      show RR _ _ _ _ _ a.1 (mFs b.1 (nI q) r b.2).1 ∧ _ ∧ _
      unfold mFs
      rw [if_neg (by rw [this]; decide)]
      exact ⟨h1, h2, h3⟩)
  exact ⟨this.1, this.2.2⟩
theorem dLose_cf {q : Nat} : ∀ i, i ≤ pr.length → ∀ k j, (dLose t pr q i).1 k j = if k = 10 ∧ j ∈ pr.take i ∧ t 13 j = 119 ∧ t 10 j = nI q then -1 else t k j
  | 0, _, k, j => by simp [dLose]
  | i + 1, hi, k, j => by
    have ih := dLose_cf (q := q) i (by omega)
    have hb : ∀ r, r = pg pr i → (dLose t pr q i).1 13 r = t 13 r := fun r _ => by rw [ih, if_neg (fun z => absurd z.1 (by decide))]
    rw [dLose, tk_succ pr i (by omega)]
    unfold dLs
    have h13 := hb _ rfl
    by_cases c : (dLose t pr q i).1 13 (pg pr i) = 119 ∧ (dLose t pr q i).1 10 (pg pr i) = nI q
    · rw [if_pos c]
      obtain ⟨c1, c2⟩ := c
      rw [h13] at c1
      show tu (dLose t pr q i).1 10 (pg pr i) (-1) k j = _
      by_cases e : k = 10 ∧ j = pg pr i
      · obtain ⟨rfl, rfl⟩ := e
        rw [tu_s]
        by_cases f : (10 : Nat) = 10 ∧ pg pr i ∈ pr.take i ++ [pg pr i] ∧ t 13 (pg pr i) = 119 ∧ t 10 (pg pr i) = nI q
        · rw [if_pos f]
        · rw [ih] at c2
          by_cases f2 : (10 : Nat) = 10 ∧ pg pr i ∈ pr.take i ∧ t 13 (pg pr i) = 119 ∧ t 10 (pg pr i) = nI q
          · exact absurd ⟨rfl, List.mem_append_left _ f2.2.1, f2.2.2⟩ f
          · rw [if_neg f2] at c2
            exact absurd ⟨rfl, by simp, c1, c2⟩ f
      · have : tu (dLose t pr q i).1 10 (pg pr i) (-1) k j = (dLose t pr q i).1 k j := by unfold tu; rw [if_neg e]
        rw [this, ih]
        by_cases f : k = 10 ∧ j ∈ pr.take i ∧ t 13 j = 119 ∧ t 10 j = nI q
        · rw [if_pos f, if_pos ⟨f.1, List.mem_append_left _ f.2.1, f.2.2⟩]
        · rw [if_neg f, if_neg (fun z => f ⟨z.1, by
            rcases List.mem_append.mp z.2.1 with g | g
            · exact g
            · exact absurd ⟨z.1, List.mem_singleton.mp g⟩ e, z.2.2⟩)]
    · rw [if_neg c]
      show (dLose t pr q i).1 k j = _
      rw [ih]
      by_cases f : k = 10 ∧ j ∈ pr.take i ∧ t 13 j = 119 ∧ t 10 j = nI q
      · rw [if_pos f, if_pos ⟨f.1, List.mem_append_left _ f.2.1, f.2.2⟩]
      · rw [if_neg f, if_neg (fun z => f ⟨z.1, by
          rcases List.mem_append.mp z.2.1 with g | g
          · exact g
          · refine absurd ?_ c
            have e := List.mem_singleton.mp g
            obtain ⟨z1, -, z3, z4⟩ := z
            subst z1
            rw [e] at z3 z4 f
            rw [h13, ih, if_neg f]
            exact ⟨z3, z4⟩, z.2.2⟩)]
theorem dLall_cf : ∀ n, ∀ k j, dLall t pr n k j = if k = 10 ∧ j ∈ pr ∧ t 13 j = 119 ∧ (∃ q, q < n ∧ t 10 j = nI q) then -1 else t k j
  | 0, k, j => by
    rw [if_neg (by rintro ⟨-, -, -, q, hq, -⟩; omega)]
    rfl
  | n + 1, k, j => by
    have ih := dLall_cf n
    rw [dLall, dLose_cf _ (Nat.le_refl _), List.take_length]
    have h13 : dLall t pr n 13 j = t 13 j := by rw [ih, if_neg (fun z => absurd z.1 (by decide))]
    rw [h13, ih k j, ih 10 j]
    by_cases a1 : k = 10
    · by_cases a2 : j ∈ pr
      · by_cases a3 : t 13 j = 119
        · by_cases a4 : ∃ q, q < n ∧ t 10 j = nI q
          · obtain ⟨q, q1, q2⟩ := a4
            rw [if_pos (show k = 10 ∧ j ∈ pr ∧ t 13 j = 119 ∧ (∃ q, q < n ∧ t 10 j = nI q) from ⟨a1, a2, a3, q, q1, q2⟩), if_pos (show k = 10 ∧ j ∈ pr ∧ t 13 j = 119 ∧ (∃ q, q < n + 1 ∧ t 10 j = nI q) from ⟨a1, a2, a3, q, by omega, q2⟩)]
            repeat' split
            all_goals rfl
          · rw [if_neg (show ¬ (10 = 10 ∧ j ∈ pr ∧ t 13 j = 119 ∧ (∃ q, q < n ∧ t 10 j = nI q)) from fun z => a4 z.2.2.2), if_neg (show ¬ (k = 10 ∧ j ∈ pr ∧ t 13 j = 119 ∧ (∃ q, q < n ∧ t 10 j = nI q)) from fun z => a4 z.2.2.2)]
            by_cases a5 : t 10 j = nI n
            · rw [if_pos ⟨a1, a2, a3, a5⟩, if_pos ⟨a1, a2, a3, n, Nat.lt_succ_self n, a5⟩]
            · rw [if_neg (fun z => a5 z.2.2.2), if_neg]
              rintro ⟨-, -, -, q, q1, q2⟩
              by_cases e : q = n
              · subst e; exact a5 q2
              · exact a4 ⟨q, by omega, q2⟩
        · rw [if_neg (fun z => a3 z.2.2.1), if_neg (fun z => a3 z.2.2.1), if_neg (fun z => a3 z.2.2.1)]
      · rw [if_neg (fun z => a2 z.2.1), if_neg (fun z => a2 z.2.1), if_neg (fun z => a2 z.2.1)]
    · rw [if_neg (fun z => a1 z.1), if_neg (fun z => a1 z.1), if_neg (fun z => a1 z.1)]
theorem mFrees_cf : ∀ n, ∀ k j, (mFrees M (-1) n).1 k j = if k = 10 ∧ j < n ∧ M 13 j = 119 ∧ ¬ M 10 j < 0 then -1 else M k j
  | 0, k, j => by
    rw [if_neg (fun z => absurd z.2.1 (by omega))]
    rfl
  | n + 1, k, j => by
    have ih := mFrees_cf n
    have h13 : (mFrees M (-1) n).1 13 n = M 13 n := by rw [ih, if_neg (fun z => absurd z.1 (by decide))]
    have h10 : (mFrees M (-1) n).1 10 n = M 10 n := by rw [ih, if_neg (fun z => absurd z.2.1 (by omega))]
    rw [mFrees, mFs, h13, h10]
    have key : ∀ X : TT, (∀ j2, j2 ≠ n ∨ k ≠ 10 → X k j2 = (mFrees M (-1) n).1 k j2) → (k = 10 → X 10 n = if M 13 n = 119 ∧ ¬ M 10 n < 0 then -1 else M 10 n) → X k j = if k = 10 ∧ j < n + 1 ∧ M 13 j = 119 ∧ ¬ M 10 j < 0 then -1 else M k j := by
      intro X h1 h2
      by_cases a1 : k = 10
      · subst a1
        by_cases a2 : j = n
        · subst a2
          rw [h2 rfl]
          by_cases a3 : M 13 j = 119 ∧ ¬ M 10 j < 0
          · rw [if_pos a3, if_pos ⟨rfl, Nat.lt_succ_self j, a3⟩]
          · rw [if_neg a3, if_neg (fun z => a3 z.2.2)]
        · rw [h1 j (Or.inl a2), ih]
          by_cases a3 : (10 : Nat) = 10 ∧ j < n ∧ M 13 j = 119 ∧ ¬ M 10 j < 0
          · rw [if_pos a3, if_pos ⟨rfl, by omega, a3.2.2⟩]
          · rw [if_neg a3, if_neg (fun z => a3 ⟨rfl, by omega, z.2.2⟩)]
      · rw [h1 j (Or.inr a1), ih, if_neg (fun z => a1 z.1), if_neg (fun z => a1 z.1)]
    have same : (M 13 n = 119 ∧ ¬ M 10 n < 0) = False → (mFrees M (-1) n).1 k j = if k = 10 ∧ j < n + 1 ∧ M 13 j = 119 ∧ ¬ M 10 j < 0 then -1 else M k j := fun z => key _ (fun _ _ => rfl) (fun _ => by rw [if_neg (by rw [z]; exact id), h10])
    by_cases c : M 13 n = 119
    · by_cases d : M 10 n < 0
      · rw [if_pos c, if_pos d]
        exact same (eq_false (fun z => z.2 d))
      · rw [if_pos c, if_neg d, if_pos (by decide)]
        refine key _ (fun j2 h2 => ?_) (fun _ => by rw [if_pos ⟨c, d⟩]; exact tu_s)
        rcases h2 with h2 | h2
        · exact tu_i h2
        · exact tu_k h2
    · rw [if_neg c]
      exact same (eq_false (fun z => c z.1))
/-- all lose their lifts -/
theorem RR.lall (h : RR nb nl nr ne pr t M) : RR nb nl nr ne pr (dLall t pr nl) (mFrees M (-1) nr).1 ∧ ∀ j, j < nr → M 13 j = 119 → (mFrees M (-1) nr).1 10 j = -1 := by
  have hk : ∀ j, j < nr → (t 13 j = 119 → dLall t pr nl 10 j = -1) ∧ (¬ t 13 j = 119 → dLall t pr nl 10 j = t 10 j) := fun j hj => by
    rw [dLall_cf]
    refine ⟨fun c => ?_, fun c => by rw [if_neg (fun z => c z.2.2.1)]⟩
    have hm : j ∈ pr := by rw [h.2.2.1, prs_mem, c]; exact ⟨hj, by decide⟩
    rcases (h.2.2.2.2.1 j hj).2.2.2.2.1 with d | d
    · split
      · rfl
      · exact d
    · rw [if_pos ⟨rfl, hm, c, d⟩]
  have hm : ∀ j, j < nr → (M 13 j = 119 → (mFrees M (-1) nr).1 10 j = -1) ∧ (¬ M 13 j = 119 → (mFrees M (-1) nr).1 10 j = M 10 j) := fun j hj => by
    rw [mFrees_cf]
    refine ⟨fun c => ?_, fun c => by rw [if_neg (fun z => c z.2.2.1)]⟩
    rcases (h.2.2.2.2.1 j hj).2.2.2.2.1 with d | ⟨q, q1, q2⟩
    · rw [h.1.r 10] at d
      split
      · rfl
      · exact d
    · rw [h.1.r 10] at q2
      have := h.2.2.2.1.2.1
      rw [if_pos ⟨rfl, hj, c, by rw [q2]; exact nI_pos (by omega)⟩]
  have hge : ∀ j, ¬ j < nr → dLall t pr nl 10 j = t 10 j ∧ (mFrees M (-1) nr).1 10 j = M 10 j := fun j hj => by
    rw [dLall_cf, mFrees_cf, if_neg (fun z => hj (h.lt z.2.1)), if_neg (fun z => hj z.2.1)]
    exact ⟨rfl, rfl⟩
  refine ⟨h.row10 (fun k hk => ?_) (fun k hk => mFrees_k hk nr) ?_ (fun j hj => ?_), fun j hj c => (hm j hj).1 c⟩
  · exact dLall_k hk nl
  · funext j
    by_cases c : j < nr
    · have e13 : t 13 j = M 13 j := by rw [h.1.r 13]
      by_cases d : t 13 j = 119
      · rw [(hk j c).1 d, (hm j c).1 (by rw [← e13]; exact d)]
      · rw [(hk j c).2 d, (hm j c).2 (by rw [← e13]; exact d), h.1.r 10]
    · rw [(hge j c).1, (hge j c).2, h.1.r 10]
  · by_cases d : t 13 j = 119
    · exact Or.inr ⟨d, (hk j hj).1 d⟩
    · exact Or.inl ((hk j hj).2 d)
theorem RR.turn (h : RR nb nl nr ne pr t M) : dTurn t pr = mPt M nr := by
  unfold dTurn mPt
  rcases h.2.2.2.2.2.2.2.1 with ⟨a, b⟩ | ⟨f, f1, a, b, c⟩
  · rw [if_pos a, if_pos b]
  · rw [if_neg (by rw [a]; intro z; exact absurd (show nI f < 0 by rw [z]; decide) (nI_pos (by omega))), if_neg (by rw [b]; decide)]
    exact tn_eq (h.1.r 13) (h.1.r 8) (by rw [a, c]) h.2.2.1 10 0
/-- lifts in turn -/
theorem RR.tall (h : RR nb nl nr ne pr t M) (h27 : M 27 0 = 1) (hm : ∀ j, j < nr → M 13 j = 119 → M 10 j = -1) (x : Int32) : RR nb nl nr ne pr (dTall t pr nl x pr.length) (mGall M nr nl x nr) := by
  have := sim2 (α := TT) (β := TT) h.2.2.1 (dTs pr nl x) (dTall t pr nl x) (fun _ => rfl) (fun b r => mGs b nr nl x r) (mGall M nr nl x) (fun _ => rfl) (fun r a b => RR nb nl nr ne pr a b ∧ b 13 = M 13 ∧ b 27 0 = 1 ∧ ∀ j, r ≤ j → b 10 j = M 10 j) ⟨h, rfl, h27, fun _ _ => rfl⟩
    (fun r a b hr hc hR => by
      obtain ⟨h1, h2, h3, h4⟩ := hR
      have hk : ∀ j, r + 1 ≤ j → b 10 j = M 10 j := fun j hj => h4 j (by omega)
      unfold dTs mGs
      rw [h1.1.r 13, h1.1.r 8]
      by_cases c : b 13 r = 119
      · rw [if_pos c, if_pos c, h4 r (Nat.le_refl _), hm r hr (by rw [← h2]; exact c), if_neg (show ¬ (0 : Int32) ≤ -1 by decide), h3, if_neg (show ¬ (1 : Int32) = 0 by decide)]
        by_cases d : b 8 r = x
        · rw [if_pos d, if_pos d]
          exact ⟨h1.give hr (by rw [h1.1.r 13]; exact c), (mGives_k (by decide)).trans h2, by rw [mGives_k (by decide)]; exact h3, fun j hj => (tu_i (by omega)).trans (hk j hj)⟩
        · rw [if_neg d, if_neg d]
          exact ⟨h1, h2, h3, hk⟩
      · rw [if_neg c, if_neg c]
        exact ⟨h1, h2, h3, hk⟩)
    (fun r a b hr hc hR => by
      obtain ⟨h1, h2, h3, h4⟩ := hR
      have := isP_f hc
      rw [h.1.r 13, ← h2] at this
      unfold mGs
      rw [if_neg (by rw [this]; decide)]
      exact ⟨h1, h2, h3, fun j hj => h4 j (by omega)⟩)
  exact this.1
theorem RR.p1 (h : RR nb nl nr ne pr t M) : RR nb nl nr ne pr (dP1 t pr nl) (mGall (mP1 M nr) nr nl (mPt M nr) nr) := by
  have hA := h.2.2.2.2.2.2.2.1
  have hT := h.turn
  unfold dP1 mP1 dInT
  rcases hA with ⟨a, b⟩ | ⟨f, f1, a, b, c⟩
  · rw [if_pos a, if_pos b]
    exact h.gall b _
  · rw [if_neg (by rw [a]; intro z; exact absurd (show nI f < 0 by rw [z]; decide) (nI_pos (by omega))), if_neg (by rw [b]; decide), hT]
    obtain ⟨h1, h2⟩ := h.lall
    exact h1.tall (by rw [mFrees_k (by decide)]; exact b) (fun j hj c => h2 j hj (by rw [mFrees_k (by decide)] at c; exact c)) _
end RT
