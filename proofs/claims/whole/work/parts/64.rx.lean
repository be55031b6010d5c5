/-! letting out, a tick, an alarm: both sides -/
section RX9
variable {nb nl nr ne : Nat} {pr : List Nat} {t M M0 Me : TT} {F G : Nat → Bool} {N8 N9 N10 : Nat → Int32} {s : DS}
theorem RR.done (h : RR nb nl nr ne pr t M) (e0 : ∀ k, k ≠ 10 → M0 k = M k) (hD : DInv F G N8 N9 N10 t pr ne 0 s) (hM : MInv F G N8 N9 N10 M0 nr Me) (hF : ∀ j, j < nr → F j = true → ¬ t 13 j = 100) (hG : ∀ j, j < nr → G j = true → ¬ t 13 j = 100)
    (hout : ∀ j, j < nr → t 13 j = 100 → N8 j = t 8 j ∧ N9 j = t 9 j ∧ N10 j = t 10 j) (h8 : ∀ j, j < nr → ∃ f, f < 10 ∧ N8 j = nI f) (h9 : ∀ j, j < nr → ∃ f, f < 10 ∧ N9 j = nI f)
    (h10 : ∀ j, j < nr → N10 j = -1 ∨ N10 j = t 10 j) (h10b : ∀ j, j < nr → F j = false → t 13 j = 97 → N10 j = t 10 j) (h10c : ∀ j, nr ≤ j → M0 10 j = t 10 j) (hok : dOkS (t, pr, ne) s) :
    RR nb nl nr s.2.2 s.2.1 s.1 Me ∧ s.2.1.length + cB F nr = pr.length ∧ s.1 20 = t 20 := by
  have hmem := fun (j : Nat) (hj : j < nr) (hd : ¬ t 13 j = 100) => h.mem hj hd
  have hlt := fun (j : Nat) (hj : j ∈ pr) => h.lt hj
  have hpres : ∀ j, j ∈ pr → ¬ t 13 j = 100 := fun j hj => by rw [h.2.2.1] at hj; exact (prs_mem.mp hj).2
  obtain ⟨hE, hN, hp, hS, hB, hC, hZ, hA, hW, hL⟩ := h
  obtain ⟨d1, d2, d3, d4, d5, d6, d7, d8, d9⟩ := hD
  rw [List.drop_zero] at d1 d2 d3 d4 d5 d6 d7 d8
  rw [List.take_zero, List.nil_append] at d1
  obtain ⟨m1, m2, m3, m4, m5, m6, m7, m8, m9⟩ := hM
  have cF : pr.countP F = cB F nr := by rw [hp]; exact cB_pr nr (fun r hr hf => isP_t.mpr (hF r hr hf))
  have cG : pr.countP G = cB G nr := by rw [hp]; exact cB_pr nr (fun r hr hf => isP_t.mpr (hG r hr hf))
  have hlen : s.2.1.length + cB F nr = pr.length := by rw [d1, ← cF]; exact len_cnt F pr
  have hple : pr.length ≤ nr := by rw [hp]; exact prs_len
  have c13 : ∀ j, j < nr → s.1 13 j = if F j = true then 100 else t 13 j := fun j hj => by
    rw [d3]
    by_cases c : F j = true
    · rw [if_pos ⟨hmem j hj (hF j hj c), c⟩, if_pos c]
    · rw [if_neg (fun z => c z.2), if_neg c]
  have c8 : ∀ j, j < nr → s.1 8 j = N8 j := fun j hj => by
    rw [d4]
    by_cases c : j ∈ pr
    · rw [if_pos c]
    · rw [if_neg c]
      exact ((hout j hj (Classical.not_not.mp (fun z => c (hmem j hj z)))).1).symm
  have c9 : ∀ j, j < nr → s.1 9 j = N9 j := fun j hj => by
    rw [d5]
    by_cases c : j ∈ pr
    · rw [if_pos c]
    · rw [if_neg c]
      exact ((hout j hj (Classical.not_not.mp (fun z => c (hmem j hj z)))).2.1).symm
  have c10 : ∀ j, j < nr → s.1 10 j = N10 j := fun j hj => by
    rw [d6]
    by_cases c : j ∈ pr
    · rw [if_pos c]
    · rw [if_neg c]
      exact ((hout j hj (Classical.not_not.mp (fun z => c (hmem j hj z)))).2.2).symm
  have out : ∀ j, ¬ j < nr → s.1 13 j = t 13 j ∧ s.1 8 j = t 8 j ∧ s.1 9 j = t 9 j ∧ s.1 10 j = t 10 j := fun j hj => by
    have c : ¬ j ∈ pr := fun z => hj (hlt j z)
    exact ⟨by rw [d3, if_neg (fun z => c z.1)], by rw [d4, if_neg c], by rw [d5, if_neg c], by rw [d6, if_neg c]⟩
  have m13 : ∀ j, j < nr → Me 13 j = if F j = true then 100 else t 13 j := fun j hj => by
    rw [m1, e0 13 (by decide), ← hE.r 13]
    by_cases c : F j = true
    · rw [if_pos ⟨hj, c⟩, if_pos c]
    · rw [if_neg (fun z => c z.2), if_neg c]
  have e20 : s.1 20 = t 20 := d9 20 rfl
  refine ⟨⟨⟨fun k hk => ?_, ?_, ?_, ?_⟩, ⟨?_, ?_, ?_, ?_, ?_⟩, ?_, ⟨hS.1, hS.2.1, hS.2.2.1, ?_⟩, fun j hj => ?_, fun l hl => ?_, hZ.cg ?_ ?_ ?_ ?_, hA.cg ?_ ?_ ?_, fun j hj => ?_, fun j hj c9 => ?_⟩, hlen, e20⟩
  case refine_1 =>
    have go : loK k = true → mOk k = true → k ≠ 10 → s.1 k = Me k := fun a b c => by rw [d9 k a, m9 k b, e0 k c]; exact hE.1 k hk
    by_cases a13 : k = 13
    · subst a13
      funext j
      by_cases c : j < nr
      · rw [c13 j c, m13 j c]
      · rw [(out j c).1, m1, if_neg (fun z => c z.1), e0 13 (by decide), hE.r 13]
    by_cases a8 : k = 8
    · subst a8
      funext j
      by_cases c : j < nr
      · rw [c8 j c, m2, if_pos c]
      · rw [(out j c).2.1, m2, if_neg c, e0 8 (by decide), hE.r 8]
    by_cases a9 : k = 9
    · subst a9
      funext j
      by_cases c : j < nr
      · rw [c9 j c, m3, if_pos c]
      · rw [(out j c).2.2.1, m3, if_neg c, e0 9 (by decide), hE.r 9]
    by_cases a10 : k = 10
    · subst a10
      funext j
      by_cases c : j < nr
      · rw [c10 j c, m4, if_pos c]
      · rw [(out j c).2.2.2, m4, if_neg c, h10c j (by omega)]
    refine go ?_ ?_ a10
    · unfold loK
      have b1 : k ≠ 25 := by rintro rfl; cases hk
      have b2 : k ≠ 50 := by rintro rfl; cases hk
      have b3 : k ≠ 51 := by rintro rfl; cases hk
      have b4 : k ≠ 52 := by rintro rfl; cases hk
      simp [a8, a9, a10, a13, b1, b2, b3, b4]
    · unfold mOk
      have b1 : k ≠ 25 := by rintro rfl; cases hk
      have b2 : k ≠ 12 := by rintro rfl; cases hk
      have b3 : k ≠ 15 := by rintro rfl; cases hk
      have b4 : k ≠ 16 := by rintro rfl; cases hk
      simp [a8, a9, a10, a13, b1, b2, b3, b4]
  case refine_2 => rw [d9 23 rfl, m9 23 rfl, e0 23 (by decide)]; exact hE.2.1
  case refine_3 => rw [d9 24 rfl, m9 24 rfl, e0 24 (by decide)]; exact hE.2.2.1
  case refine_4 => rw [d7, m8, e0 25 (by decide), cG, hE.2.2.2]
  case refine_5 => rw [m9 6 rfl, e0 6 (by decide)]; exact hN.1
  case refine_6 => rw [m9 14 rfl, e0 14 (by decide)]; exact hN.2.1
  case refine_7 => rw [m9 22 rfl, e0 22 (by decide)]; exact hN.2.2.1
  case refine_8 => rw [m6, e0 15 (by decide), hN.2.2.2.1, d2, cF, nI_add]
  case refine_9 =>
    rw [m7, e0 16 (by decide), hN.2.2.2.2, nI_add]
    congr 1
    omega
  case refine_10 =>
    rw [d1, hp]
    unfold prs
    rw [List.filter_filter]
    refine List.filter_congr (fun j hj => ?_)
    have hj2 := List.mem_range.mp hj
    unfold isP
    rw [c13 j hj2]
    by_cases c : F j = true
    · rw [if_pos c, c]; rfl
    · rw [if_neg c]
      have : F j = false := by simpa using c
      rw [this]; simp
  case refine_11 =>
    have h1 := hok.2.1
    have h2 := hS.2.2.2
    have h3 : s.2.2 + dPh (s.1 13) s.2.1 ≤ ne + dPh (t 13) pr := h1
    omega
  case refine_12 =>
    obtain ⟨b1, b2, b3, b4, b5, b6⟩ := hB j hj
    refine ⟨?_, by rw [d9 7 rfl]; exact b2, by rw [c8 j hj]; exact h8 j hj, by rw [c9 j hj]; exact h9 j hj, ?_, ?_⟩
    · rw [c13 j hj]
      split
      · exact Or.inr (Or.inr rfl)
      · exact b1
    · rw [c10 j hj]
      rcases h10 j hj with c | c
      · exact Or.inl c
      · rw [c]; exact b5
    · rw [c13 j hj, c10 j hj]
      by_cases c : F j = true
      · rw [if_pos c]; exact fun z => absurd z (by decide)
      · rw [if_neg c]
        intro z
        rw [h10b j hj (by simpa using c) z]
        exact b6 z
  case refine_13 =>
    refine (hC l hl).cg (by rw [d9 17 rfl]) (by rw [d9 18 rfl]) (by rw [d9 19 rfl]) (by rw [d9 20 rfl]) (by rw [d9 21 rfl]) (cA_mono nr (fun j hj a b => ?_))
    rw [c13 j hj] at a
    rw [c10 j hj] at b
    have hl3 := hS.2.1
    by_cases c : F j = true
    · rw [if_pos c] at a; exact absurd a (by decide)
    · rw [if_neg c] at a
      rcases h10 j hj with d | d
      · rw [d] at b
        exact absurd (show nI l < 0 by rw [← b]; decide) (nI_pos (by omega))
      · rw [d] at b
        exact ⟨a, b⟩
  case refine_14 => rw [d9 3 rfl]
  case refine_15 => rw [d9 5 rfl]
  case refine_16 => exact fun l _ => by rw [d9 18 rfl]
  case refine_17 => exact fun l _ => by rw [d9 19 rfl]
  case refine_18 => rw [d9 60 rfl]
  case refine_19 => rw [m9 27 rfl, e0 27 (by decide)]
  case refine_20 => rw [m9 26 rfl, e0 26 (by decide)]
  case refine_21 =>
    have hw9 := hW j hj
    rw [d9 40 rfl, hw9]
    unfold mWb
    rw [m13 j hj, m5, m9 23 rfl, m9 11 rfl, e0 23 (by decide), e0 11 (by decide), e0 12 (by decide), e0 13 (by decide), ← hE.r 13]
    by_cases c : F j = true
    · rw [if_pos c, if_neg (show ¬ (100 : Int32) = 119 by decide)]
      by_cases d : t 13 j = 119
      · rw [if_pos d, if_pos ⟨⟨hj, c⟩, d⟩]
      · rw [if_neg d, if_neg (fun z => d z.2)]
    · rw [if_neg c, if_neg (show ¬ ((j < nr ∧ F j = true) ∧ t 13 j = 119) from fun z => c z.1.2)]
  case refine_22 =>
    rw [d8 j hj c9, hL j hj c9]
    by_cases a : j < nr
    · rw [if_pos a, if_pos a]
      unfold lgE
      rw [m13 j a, m5, m9 11 rfl, e0 23 (by decide), e0 11 (by decide), e0 12 (by decide), e0 13 (by decide), ← hE.r 13, ← hE.2.1]
      by_cases c : F j = true
      · rw [if_pos ⟨hmem j a (hF j a c), c⟩, if_pos c, if_neg (show ¬ (100 : Int32) = 119 by decide)]
        by_cases d : t 13 j = 119
        · rw [if_pos d, if_pos ⟨⟨a, c⟩, d⟩]
          unfold lgN
          rw [if_neg (show ¬ (false = true) by decide), if_pos trivial, if_neg (by decide)]
        · rw [if_neg d, if_neg (fun z => d z.2)]
          unfold lgN
          rw [if_pos rfl]
      · rw [if_neg (fun z => c z.2), if_neg c, if_neg (show ¬ ((j < nr ∧ F j = true) ∧ t 13 j = 119) from fun z => c z.1.2)]
    · rw [if_neg a, if_neg a, if_neg (fun z => a (hlt j z.1))]
theorem dWhy_cg {t t2 : TT} {b : Nat} {f : Int32} (e1 : t2 1 = t 1) (e2 : t2 2 = t 2) (e3 : t2 3 = t 3) (e4 : t2 4 = t 4) (e5 : t2 5 = t 5) (e23 : t2 23 = t 23) : dWhy t2 b f = dWhy t b f := by
  unfold dWhy mTod
  rw [e1, e2, e3, e4, e5, e23]
theorem mWhy_cg {t t2 : TT} {b f : Nat} (e1 : t2 1 = t 1) (e2 : t2 2 = t 2) (e3 : t2 3 = t 3) (e4 : t2 4 = t 4) (e5 : t2 5 = t 5) (e23 : t2 23 = t 23) : mWhy t2 b f = mWhy t b f := by
  unfold mWhy mTod
  rw [e1, e2, e3, e4, e5, e23]
def lvB (t : TT) (q r : Nat) : Bool := decide (t 13 r = 97 ∧ t 10 r = nI q) && (decide (t 9 r = t 18 q) && decide (dWhy t (t 7 r).toNatClampNeg (t 18 q) = 110))
def rfB (t : TT) (q r : Nat) : Bool := decide (t 13 r = 97 ∧ t 10 r = nI q) && (decide (t 9 r = t 18 q) && !decide (dWhy t (t 7 r).toNatClampNeg (t 18 q) = 110))
theorem RR.letOut (h : RR nb nl nr ne pr t M) {q : Nat} (hq : q < nl) : ∃ t2 pr2 ne2, dLo q pr.length (t, pr, ne) = (t2, pr2, ne2) ∧ RR nb nl nr ne2 pr2 t2 (mO1 M q nr).1 ∧ ((mO1 M q nr).2 = 0 ↔ ¬ pr2.length < pr.length) ∧ t2 20 = t 20 := by
  obtain ⟨⟨w, w10, hw⟩, -⟩ := h.2.2.2.2.2.1 q hq
  have hnr := h.2.2.2.1.2.2.1
  have hnd : pr.Nodup := by rw [h.2.2.1]; exact prs_nodup
  have h1000 : ∀ r, r ∈ pr → r < 1000 := fun r hr => by have := h.lt hr; omega
  obtain ⟨N8, hN8⟩ : ∃ N8 : Nat → Int32, ∀ j, N8 j = if lvB t q j = true then t 18 q else t 8 j := ⟨_, fun _ => rfl⟩
  obtain ⟨N9, hN9⟩ : ∃ N9 : Nat → Int32, ∀ j, N9 j = if rfB t q j = true then 0 else t 9 j := ⟨_, fun _ => rfl⟩
  obtain ⟨N10, hN10⟩ : ∃ N10 : Nat → Int32, ∀ j, N10 j = if lvB t q j = true then -1 else t 10 j := ⟨_, fun _ => rfl⟩
  have hFG : ∀ j, lvB t q j = true → rfB t q j = false := fun j hj => by
    unfold lvB at hj
    unfold rfB
    simp only [Bool.and_eq_true, decide_eq_true_eq] at hj
    simp [hj.2.2]
  have desk : ∀ k (s : DS), k ≤ pr.length → DInv (lvB t q) (rfB t q) N8 N9 N10 t pr ne k s → DInv (lvB t q) (rfB t q) N8 N9 N10 t pr ne 0 (dLo q k s) := by
    intro k
    induction k with
    | zero => exact fun s _ hs => hs
    | succ k ih =>
      intro s hk hs
      refine ih _ (by omega) ?_
      have hk2 : k < pr.length := by omega
      have hpg := hs.pg hk2
      obtain ⟨x1, x2, x3, x4⟩ := hs.col (r := pg pr k) hk2 hnd rfl
      have hrow := hs.2.2.2.2.2.2.2.2
      have hy : dWhy s.1 (s.1 7 (pg pr k)).toNatClampNeg (s.1 18 q) = dWhy t (t 7 (pg pr k)).toNatClampNeg (t 18 q) := by
        rw [hrow 7 rfl, hrow 18 rfl]
        exact dWhy_cg (hrow 1 rfl) (hrow 2 rfl) (hrow 3 rfl) (hrow 4 rfl) (hrow 5 rfl) (hrow 23 rfl)
      unfold dLoS
      rw [hpg, hy, x1, x4, x3, hrow 18 rfl]
      by_cases c1 : t 13 (pg pr k) = 97 ∧ t 10 (pg pr k) = nI q
      · by_cases c2 : t 9 (pg pr k) = t 18 q
        · by_cases c3 : dWhy t (t 7 (pg pr k)).toNatClampNeg (t 18 q) = 110
          · rw [if_pos c1, if_pos c2, if_pos c3]
            have hF : lvB t q (pg pr k) = true := by unfold lvB; simp [c1, c2, c3]
            refine hs.fin hk2 hnd h1000 rfl hF (hFG _ hF) (fun _ _ _ => rfl) (fun _ _ => rfl) (fun _ _ => rfl) ?_ ?_ ?_
            · rw [x3, hN9]
              show _ = if rfB t q _ = true then _ else _
              rw [hFG _ hF, if_neg (by decide)]
            · rw [hN10]; exact if_pos hF
            · rw [hN8]; exact (if_pos hF).symm
          · rw [if_pos c1, if_pos c2, if_neg c3]
            have hF : lvB t q (pg pr k) = false := by unfold lvB; simp [c3]
            have hG : rfB t q (pg pr k) = true := by unfold rfB; simp [c1, c2, c3]
            refine hs.alt hk2 hnd rfl hF (fun k9 a b c => by rw [tu_r c, tu_r a]) (fun j hj => by rw [tu_k (by decide), tu_i hj]) (fun j hj => by rw [tu_k (by decide), tu_k (by decide)]) ?_ ?_ ?_ ?_
            · rw [tu_k (by decide), tu_s, hN9]; exact (if_pos hG).symm
            · rw [tu_k (by decide), tu_k (by decide), x4, hN10]
              show _ = if lvB t q _ = true then _ else _
              rw [hF, if_neg (by decide)]
            · rw [hN8]
              show _ = if lvB t q _ = true then _ else _
              rw [hF, if_neg (by decide)]
            · rw [tu_s, hG, if_pos rfl]
        · rw [if_pos c1, if_neg c2]
          have hF : lvB t q (pg pr k) = false := by unfold lvB; simp [c2]
          have hG : rfB t q (pg pr k) = false := by unfold rfB; simp [c2]
          refine hs.alt (t1 := s.1) hk2 hnd rfl hF (fun _ _ _ _ => rfl) (fun _ _ => rfl) (fun _ _ => rfl) ?_ ?_ ?_ ?_
          · rw [x3, hN9]
            show _ = if rfB t q _ = true then _ else _
            rw [hG, if_neg (by decide)]
          · rw [x4, hN10]
            show _ = if lvB t q _ = true then _ else _
            rw [hF, if_neg (by decide)]
          · rw [hN8]
            show _ = if lvB t q _ = true then _ else _
            rw [hF, if_neg (by decide)]
          · rw [hG, if_neg (by decide), Int32.add_zero]
      · rw [if_neg c1]
        have hF : lvB t q (pg pr k) = false := by unfold lvB; simp [c1]
        have hG : rfB t q (pg pr k) = false := by unfold rfB; simp [c1]
        refine hs.alt (t1 := s.1) hk2 hnd rfl hF (fun _ _ _ _ => rfl) (fun _ _ => rfl) (fun _ _ => rfl) ?_ ?_ ?_ ?_
        · rw [x3, hN9]
          show _ = if rfB t q _ = true then _ else _
          rw [hG, if_neg (by decide)]
        · rw [x4, hN10]
          show _ = if lvB t q _ = true then _ else _
          rw [hF, if_neg (by decide)]
        · rw [hN8]
          show _ = if lvB t q _ = true then _ else _
          rw [hF, if_neg (by decide)]
        · rw [hG, if_neg (by decide), Int32.add_zero]
  have eW : ∀ b, dWhy t b (t 18 q) = mWhy M b (M 18 q).toNatClampNeg := fun b => by
    rw [← h.1.r 18, hw, nI_clamp (by omega)]
    exact h.whyE w10
  have model : ∀ n, n ≤ nr → MInv (lvB t q) (rfB t q) N8 N9 N10 M n (mO1 M q n).1 ∧ ((mO1 M q n).2 = 0 ↔ cB (lvB t q) n = 0) := by
    intro n
    induction n with
    | zero => exact fun _ => ⟨MInv.start, ⟨fun _ => rfl, fun _ => rfl⟩⟩
    | succ n ih =>
      intro hn
      obtain ⟨hs, hf⟩ := ih (by omega)
      obtain ⟨x1, x2, x3, x4⟩ := hs.col
      have hrow := hs.2.2.2.2.2.2.2.2
      have hy : mWhy (mO1 M q n).1 ((mO1 M q n).1 7 n).toNatClampNeg ((mO1 M q n).1 18 q).toNatClampNeg = dWhy t (t 7 n).toNatClampNeg (t 18 q) := by
        rw [hrow 7 rfl, hrow 18 rfl, eW, h.1.r 7]
        exact mWhy_cg (hrow 1 rfl) (hrow 2 rfl) (hrow 3 rfl) (hrow 4 rfl) (hrow 5 rfl) (hrow 23 rfl)
      rw [mO1, mO1s, hy, x1, x4, x3, hrow 18 rfl, ← h.1.r 13, ← h.1.r 10, ← h.1.r 9, ← h.1.r 18]
      have nob : lvB t q n = false → rfB t q n = false → MInv (lvB t q) (rfB t q) N8 N9 N10 M (n + 1) (mO1 M q n).1 ∧ ((mO1 M q n).2 = 0 ↔ cB (lvB t q) (n + 1) = 0) := by
        intro hF hG
        refine ⟨hs.alt hF (fun _ _ _ => rfl) (fun _ _ => rfl) ?_ ?_ ?_ ?_, ?_⟩
        · rw [x3, hN9, ← h.1.r 9]
          show _ = if rfB t q _ = true then _ else _
          rw [hG, if_neg (by decide)]
        · rw [hN10, ← h.1.r 10]
          show _ = if lvB t q _ = true then _ else _
          rw [hF, if_neg (by decide)]
        · rw [hN8, ← h.1.r 8]
          show _ = if lvB t q _ = true then _ else _
          rw [hF, if_neg (by decide)]
        · rw [hG, if_neg (by decide), Int32.add_zero]
        · rw [cB, hF, if_neg (by decide)]; exact hf
      by_cases c1 : t 13 n = 97
      · by_cases c2 : t 10 n = nI q
        · by_cases c3 : t 9 n = t 18 q
          · by_cases c4 : dWhy t (t 7 n).toNatClampNeg (t 18 q) = 110
            · rw [if_pos c1, if_pos c2, if_pos c3, if_pos c4]
              have hF : lvB t q n = true := by unfold lvB; simp [c1, c2, c3, c4]
              refine ⟨hs.fin hF (hFG _ hF) (fun _ _ => rfl) (fun _ _ => rfl) ?_ ?_ ?_, ?_⟩
              · rw [x3, hN9, ← h.1.r 9]
                show _ = if rfB t q _ = true then _ else _
                rw [hFG _ hF, if_neg (by decide)]
              · rw [hN10]; exact if_pos hF
              · rw [hN8]; exact (if_pos hF).symm
              · rw [cB, hF, if_pos rfl]
                exact ⟨fun z => absurd (show (1 : Int32) = 0 from z) (by decide), fun z => by omega⟩
            · rw [if_pos c1, if_pos c2, if_pos c3, if_neg c4]
              have hF : lvB t q n = false := by unfold lvB; simp [c4]
              have hG : rfB t q n = true := by unfold rfB; simp [c1, c2, c3, c4]
              refine ⟨hs.alt (M1 := tu (tu (mO1 M q n).1 9 n 0) 25 0 ((mO1 M q n).1 25 0 + 1)) hF (fun k9 a b => by rw [tu_r b, tu_r a]) (fun j hj => by rw [tu_k (by decide), tu_i hj]) ?_ ?_ ?_ ?_, ?_⟩
              · rw [tu_k (by decide), tu_s, hN9]; exact (if_pos hG).symm
              · rw [hN10, ← h.1.r 10]
                show _ = if lvB t q _ = true then _ else _
                rw [hF, if_neg (by decide)]
              · rw [hN8, ← h.1.r 8]
                show _ = if lvB t q _ = true then _ else _
                rw [hF, if_neg (by decide)]
              · rw [tu_s, hG, if_pos rfl]
              · rw [cB, hF, if_neg (by decide)]; exact hf
          · rw [if_pos c1, if_pos c2, if_neg c3]
            exact nob (by unfold lvB; simp [c3]) (by unfold rfB; simp [c3])
        · rw [if_pos c1, if_neg c2]
          exact nob (by unfold lvB; simp [c2]) (by unfold rfB; simp [c2])
      · rw [if_neg c1]
        exact nob (by unfold lvB; simp [c1]) (by unfold rfB; simp [c1])
  have hD := desk pr.length (t, pr, ne) (Nat.le_refl _) DInv.start
  obtain ⟨hM, hfl⟩ := model nr (Nat.le_refl _)
  have pres : ∀ j, t 13 j = 100 → lvB t q j = false ∧ rfB t q j = false := fun j hj => by
    unfold lvB rfB
    simp [hj]
  have := h.done (M0 := M) (fun _ _ => rfl) hD hM (fun j _ hF z => by rw [(pres j z).1] at hF; cases hF) (fun j _ hF z => by rw [(pres j z).2] at hF; cases hF)
    (fun j _ hd => by
      obtain ⟨a, b⟩ := pres j hd
      rw [hN8, hN9, hN10]
      exact ⟨if_neg (by rw [a]; decide), if_neg (by rw [b]; decide), if_neg (by rw [a]; decide)⟩)
    (fun j hj => by
      rw [hN8]
      split
      · exact ⟨w, w10, hw⟩
      · exact (h.2.2.2.2.1 j hj).2.2.1)
    (fun j hj => by
      rw [hN9]
      split
      · exact ⟨0, by decide, rfl⟩
      · exact (h.2.2.2.2.1 j hj).2.2.2.1)
    (fun j hj => by
      rw [hN10]
      split
      · exact Or.inl rfl
      · exact Or.inr rfl)
    (fun j hj hF _ => by rw [hN10]; exact if_neg (by rw [hF]; decide))
    (fun j _ => by rw [h.1.r 10]) (dLo_ok _ _ (Nat.le_refl _))
  obtain ⟨r1, r2, r3⟩ := this
  clear hD
  generalize dLo q pr.length (t, pr, ne) = X at r1 r2 r3 ⊢
  obtain ⟨t2, pr2, ne2⟩ := X
  refine ⟨t2, pr2, ne2, rfl, r1, ?_, r3⟩
  rw [hfl]
  have r2 : pr2.length + cB (lvB t q) nr = pr.length := r2
  omega
/-- a lift's turn within a tick -/
theorem RR.run (h : RR nb nl nr ne pr t M) {q : Nat} (hq : q < nl) : ∃ t2 pr2 ne2, dRun q (t, pr, ne) = (t2, pr2, ne2) ∧ RR nb nl nr ne2 pr2 t2 (mWorks M nr q) := by
  obtain ⟨⟨w, w10, hw⟩, -⟩ := h.2.2.2.2.2.1 q hq
  have hwM : M 18 q = nI w := by rw [← h.1.r 18]; exact hw
  unfold dRun mWorks
  show ∃ t2 pr2 ne2, (if t 20 q = 99 then _ else _) = _ ∧ _
  rw [← h.1.r 20]
  by_cases c : t 20 q = 99
  · rw [if_pos c, if_pos c]
    exact ⟨_, _, _, rfl, h.clean hq c⟩
  · rw [if_neg c, if_neg c]
    obtain ⟨t2, pr2, ne2, e2, h2, hf, e20⟩ := h.letOut hq
    rw [show dLo q (t, pr, ne).2.1.length (t, pr, ne) = (t2, pr2, ne2) from e2]
    have hop : ∃ t3 ne3 x, dLi q (t2, pr2, ne2) (t2, pr2, ne2).2.1.length = ((t3, pr2, ne3), x) ∧ RR nb nl nr ne3 pr2 t3 (mOpens M nr q).1 ∧ ((mOpens M nr q).2 = 0 ↔ ¬ (pr2.length < pr.length ∨ ¬ x = 0)) := by
      unfold mOpens
      rw [← h.1.r 20]
      by_cases d : t 20 q = 115
      · rw [if_pos d]
        obtain ⟨t3, ne3, x, e3, h3, hf3⟩ := h2.letIn hq (by rw [e20]; exact d) (mO1 M q nr).2
        refine ⟨t3, ne3, x, e3, h3, ?_⟩
        rw [hf3, hf]
        exact ⟨fun z y => y.elim z.1 (fun y => y z.2), fun z => ⟨fun y => z (Or.inl y), Classical.not_not.mp (fun y => z (Or.inr y))⟩⟩
      · rw [if_neg d, dLi_off (by show ¬ t2 20 q = 115; rw [e20]; exact d)]
        refine ⟨t2, ne2, 0, rfl, h2, ?_⟩
        rw [hf]
        exact ⟨fun z y => y.elim z (fun y => y rfl), fun z y => z (Or.inl y)⟩
    obtain ⟨t3, ne3, x, e3, h3, hf3⟩ := hop
    rw [e3]
    by_cases d : pr2.length < pr.length ∨ ¬ x = 0
    · rw [if_neg (fun z => hf3.mp z d)]
      show ∃ t4 pr4 ne4, (if pr2.length < pr.length ∨ ¬ x = 0 then _ else _) = _ ∧ _
      rw [if_pos d]
      exact ⟨_, _, _, rfl, h3.s24⟩
    · rw [if_pos (hf3.mpr d)]
      show ∃ t4 pr4 ne4, (if pr2.length < pr.length ∨ ¬ x = 0 then _ else _) = _ ∧ _
      rw [if_neg d, hwM, nI_clamp (by omega)]
      exact ⟨_, _, _, rfl, h3.move hq (by rw [mOpens_k rfl]; exact hwM) w10⟩
theorem RR.rall (h : RR nb nl nr ne pr t M) : ∀ n, n ≤ nl → ∃ t2 pr2 ne2, dRall (t, pr, ne) n = (t2, pr2, ne2) ∧ RR nb nl nr ne2 pr2 t2 (mWall M nr n)
  | 0, _ => ⟨t, pr, ne, rfl, h⟩
  | n + 1, hn => by
    obtain ⟨t2, pr2, ne2, e, h2⟩ := h.rall n (by omega)
    rw [dRall, e, mWall]
    exact h2.run (by omega)
theorem RR.tick (h : RR nb nl nr ne pr t M) : ∃ t2 pr2 ne2, dTick nl (t, pr, ne) = (t2, pr2, ne2) ∧ RR nb nl nr ne2 pr2 t2 (mPass1 M nr nl) := by
  unfold dTick mPass1
  obtain ⟨t2, pr2, ne2, e, h2⟩ := h.p1.rall nl (Nat.le_refl _)
  rw [show dRall (dP1 (t, pr, ne).1 (t, pr, ne).2.1 nl, (t, pr, ne).2) nl = (t2, pr2, ne2) from e]
  exact ⟨_, _, _, rfl, h2.pend⟩
theorem RR.ticks (h : RR nb nl nr ne pr t M) : ∀ n, ∃ t2 pr2 ne2, dTicks nl (t, pr, ne) n = (t2, pr2, ne2) ∧ RR nb nl nr ne2 pr2 t2 (mPassN M nr nl n)
  | 0 => ⟨t, pr, ne, rfl, h⟩
  | n + 1 => by
    obtain ⟨t2, pr2, ne2, e, h2⟩ := h.ticks n
    rw [dTicks, e, mPassN]
    exact h2.tick
/-- an alarm begins -/
theorem RR.send (h : RR nb nl nr ne pr t M) : ∃ t2 pr2 ne2, dSe pr.length (t, pr, ne) = (t2, pr2, ne2) ∧ RR nb nl nr ne2 pr2 t2 (mAl (mFrees M (-1) nr).1 nr) := by
  have hnr := h.2.2.2.1.2.2.1
  have hnl := h.2.2.2.1.2.1
  have hnd : pr.Nodup := by rw [h.2.2.1]; exact prs_nodup
  have h1000 : ∀ r, r ∈ pr → r < 1000 := fun r hr => by have := h.lt hr; omega
  have hpres : ∀ j, j ∈ pr → ¬ t 13 j = 100 := fun j hj => by rw [h.2.2.1] at hj; exact (prs_mem.mp hj).2
  obtain ⟨F, hF9⟩ : ∃ F : Nat → Bool, F = fun j => decide (t 13 j = 119) && decide (t 8 j = 0) := ⟨_, rfl⟩
  have hFt : ∀ j, F j = true ↔ t 13 j = 119 ∧ t 8 j = 0 := fun j => by rw [hF9]; simp
  have hFf : ∀ j, ¬ (t 13 j = 119 ∧ t 8 j = 0) → F j = false := fun j hj => by
    cases c : F j with
    | true => exact absurd ((hFt j).mp c) hj
    | false => rfl
  obtain ⟨G, hG9⟩ : ∃ G : Nat → Bool, G = fun _ => false := ⟨_, rfl⟩
  have hGf : ∀ j, G j = false := fun j => by rw [hG9]
  obtain ⟨N9, hN9⟩ : ∃ N9 : Nat → Int32, ∀ j, N9 j = if t 13 j = 100 then t 9 j else 0 := ⟨_, fun _ => rfl⟩
  obtain ⟨N10, hN10⟩ : ∃ N10 : Nat → Int32, ∀ j, N10 j = if t 13 j = 119 then -1 else t 10 j := ⟨_, fun _ => rfl⟩
  have desk : ∀ k (s : DS), k ≤ pr.length → DInv F G (t 8) N9 N10 t pr ne k s → DInv F G (t 8) N9 N10 t pr ne 0 (dSe k s) := by
    intro k
    induction k with
    | zero => exact fun s _ hs => hs
    | succ k ih =>
      intro s hk hs
      refine ih _ (by omega) ?_
      have hk2 : k < pr.length := by omega
      have hpg := hs.pg hk2
      obtain ⟨x1, x2, x3, x4⟩ := hs.col (r := pg pr k) hk2 hnd rfl
      have hp9 := hpres _ (pg_mem hk2)
      unfold dSeS
      rw [hpg, x1, x2]
      by_cases c1 : t 13 (pg pr k) = 119
      · by_cases c2 : t 8 (pg pr k) = 0
        · rw [if_pos c1, if_pos c2]
          refine hs.fin hk2 hnd h1000 rfl ((hFt _).mpr ⟨c1, c2⟩) (hGf _) (fun k9 a b => by rw [tu_r b, tu_r a]) (fun j hj => by rw [tu_k (by decide), tu_i hj]) (fun j hj => by rw [tu_i hj, tu_k (by decide)]) ?_ ?_ c2.symm
          · rw [tu_k (by decide), tu_s, hN9, if_neg hp9]
          · rw [hN10, if_pos c1]
        · rw [if_pos c1, if_neg c2]
          refine hs.alt hk2 hnd rfl (hFf _ (fun z => c2 z.2)) (fun k9 a b c => by rw [tu_r b, tu_r a]) (fun j hj => by rw [tu_k (by decide), tu_i hj]) (fun j hj => by rw [tu_i hj, tu_k (by decide)]) ?_ ?_ rfl ?_
          · rw [tu_k (by decide), tu_s, hN9, if_neg hp9]
          · rw [tu_s, hN10, if_pos c1]
          · rw [tu_k (by decide), tu_k (by decide), hGf, if_neg (by decide), Int32.add_zero]
      · rw [if_neg c1]
        refine hs.alt hk2 hnd rfl (hFf _ (fun z => c1 z.1)) (fun k9 a b c => by rw [tu_r a]) (fun j hj => by rw [tu_i hj]) (fun j hj => by rw [tu_k (by decide)]) ?_ ?_ rfl ?_
        · rw [tu_s, hN9, if_neg hp9]
        · rw [tu_k (by decide), x4, hN10, if_neg c1]
        · rw [tu_k (by decide), hGf, if_neg (by decide), Int32.add_zero]
  have e0 : ∀ k, k ≠ 10 → (mFrees M (-1) nr).1 k = M k := fun k hk => mFrees_k hk nr
  have e10 : ∀ j, j < nr → (mFrees M (-1) nr).1 10 j = N10 j := fun j hj => by
    rw [mFrees_cf, hN10, ← h.1.r 13, ← h.1.r 10]
    by_cases c : t 13 j = 119
    · rw [if_pos c]
      rcases (h.2.2.2.2.1 j hj).2.2.2.2.1 with d | ⟨q, q1, q2⟩
      · split
        · rfl
        · exact d
      · rw [if_pos ⟨rfl, hj, c, by rw [q2]; exact nI_pos (by omega)⟩]
    · rw [if_neg c, if_neg (fun z => c z.2.2.1)]
  obtain ⟨M0, hM0⟩ : ∃ M0, M0 = (mFrees M (-1) nr).1 := ⟨_, rfl⟩
  rw [← hM0] at e0 e10 ⊢
  have model : ∀ n, n ≤ nr → MInv F G (t 8) N9 N10 M0 n (mAl M0 n) := by
    intro n
    induction n with
    | zero => exact fun _ => MInv.start
    | succ n ih =>
      intro hn
      have hs := ih (by omega)
      obtain ⟨x1, x2, x3, x4⟩ := hs.col
      rw [mAl, mAls, x1, x2, e0 13 (by decide), e0 8 (by decide), ← h.1.r 13, ← h.1.r 8]
      by_cases c0 : t 13 n = 100
      · rw [if_pos c0]
        refine hs.alt (hFf _ (fun z => by rw [c0] at z; exact absurd z.1 (by decide))) (fun _ _ _ => rfl) (fun _ _ => rfl) ?_ (e10 n (by omega)) ?_ ?_
        · rw [x3, e0 9 (by decide), hN9, if_pos c0, h.1.r 9]
        · rw [e0 8 (by decide), h.1.r 8]
        · rw [hGf, if_neg (by decide), Int32.add_zero]
      · have alt : F n = false → MInv F G (t 8) N9 N10 M0 (n + 1) (tu (mAl M0 n) 9 n 0) := fun hF => by
          refine hs.alt hF (fun k9 a b => tu_r a) (fun j hj => tu_i hj) ?_ (e10 n (by omega)) ?_ ?_
          · rw [tu_s, hN9, if_neg c0]
          · rw [e0 8 (by decide), h.1.r 8]
          · rw [tu_k (by decide), hGf, if_neg (by decide), Int32.add_zero]
        by_cases c1 : t 13 n = 119
        · by_cases c2 : t 8 n = 0
          · rw [if_neg c0, if_pos c1, if_pos c2]
            refine hs.fin ((hFt _).mpr ⟨c1, c2⟩) (hGf _) (fun k9 a => tu_r a) (fun j hj => tu_i hj) ?_ ?_ c2.symm
            · rw [tu_s, hN9, if_neg c0]
            · rw [hN10, if_pos c1]
          · rw [if_neg c0, if_pos c1, if_neg c2]
            exact alt (hFf _ (fun z => c2 z.2))
        · rw [if_neg c0, if_neg c1]
          exact alt (hFf _ (fun z => c1 z.1))
  have hD := desk pr.length (t, pr, ne) (Nat.le_refl _) DInv.start
  have := h.done e0 hD (model nr (Nat.le_refl _)) (fun j _ hF z => by rw [((hFt j).mp hF).1] at z; exact absurd z (by decide)) (fun j _ hF z => by rw [hGf] at hF; cases hF)
    (fun j _ hd => ⟨rfl, by rw [hN9, if_pos hd], by rw [hN10, if_neg (by rw [hd]; decide)]⟩)
    (fun j hj => (h.2.2.2.2.1 j hj).2.2.1)
    (fun j hj => by
      rw [hN9]
      split
      · exact (h.2.2.2.2.1 j hj).2.2.2.1
      · exact ⟨0, by decide, rfl⟩)
    (fun j hj => by
      rw [hN10]
      split
      · exact Or.inl rfl
      · exact Or.inr rfl)
    (fun j hj hF h97 => by rw [hN10, if_neg (by rw [h97]; decide)])
    (fun j hj => by rw [hM0, mFrees_cf, if_neg (fun z => absurd z.2.1 (by omega)), h.1.r 10]) (dSe_ok _ _ (Nat.le_refl _))
  exact ⟨_, _, _, rfl, this.1⟩
end RX9
