/-! steps that both sides take: going aboard, the lifts, the end of a tick -/
section RU
variable {nb nl nr ne : Nat} {pr : List Nat} {t M t2 M2 : TT}
theorem RR.mem (h : RR nb nl nr ne pr t M) {r : Nat} (hr : r < nr) (hd : ¬ t 13 r = 100) : r ∈ pr := by rw [h.2.2.1, prs_mem]; exact ⟨hr, hd⟩
theorem nI_sub1 {a : Nat} : nI a + 1 = nI (a + 1) := nI_1 a
/-- a rider goes aboard -/
theorem RR.abo (h : RR nb nl nr ne pr t M) {r q c : Nat} (hr : r < nr) (hw : t 13 r = 119) (hq : q < nl) (h10 : t 10 r = nI q) (hc : t 17 q = nI c) (hc4 : c ≤ 4) (hcA : cA t q nr < c) : RR nb nl nr (ne + 1) pr (dAbo t ne r) (tu (tu (tu M 13 r 97) 12 r (M 23 0)) 15 0 (M 15 0 + 1)) := by
  have hm : r ∈ pr := h.mem hr (by rw [hw]; decide)
  obtain ⟨hE, hN, hp, hS, hB, hC, hZ, hA, hW, hL⟩ := h
  have et : ∀ k, k ≠ 13 → k ≠ 50 → k ≠ 51 → k ≠ 52 → dAbo t ne r k = t k := fun k h1 h2 h3 h4 => by
    unfold dAbo
    rw [dNote_k h2 h3 h4, tu_r h1]
  have e13 : dAbo t ne r 13 = tu t 13 r 97 13 := dAbo_13
  have eM : ∀ k, k ≠ 13 → k ≠ 12 → k ≠ 15 → tu (tu (tu M 13 r 97) 12 r (M 23 0)) 15 0 (M 15 0 + 1) k = M k := fun k h1 h2 h3 => by rw [tu_r h3, tu_r h2, tu_r h1]
  have eM13 : tu (tu (tu M 13 r 97) 12 r (M 23 0)) 15 0 (M 15 0 + 1) 13 = tu M 13 r 97 13 := by rw [tu_r (by decide), tu_r (by decide)]
  have eM12 : tu (tu (tu M 13 r 97) 12 r (M 23 0)) 15 0 (M 15 0 + 1) 12 = tu M 12 r (M 23 0) 12 := by rw [tu_r (by decide)]; exact tu_cg (tu_r (by decide))
  have hl3 := hS.2.1
  refine ⟨⟨fun k hk => ?_, ?_, ?_, ?_⟩, ⟨?_, ?_, ?_, ?_, ?_⟩, ?_, ⟨hS.1, hS.2.1, hS.2.2.1, ?_⟩, fun j hj => ?_, fun l hl => ?_, hZ.cg ?_ ?_ ?_ ?_, hA.cg ?_ ?_ ?_, fun j hj => ?_, fun j hj c9 => ?_⟩
  case refine_1 =>
    by_cases c : k = 13
    · subst c; rw [e13, eM13]; exact tu_cg (hE.r 13)
    · rw [et k c (by rintro rfl; cases hk) (by rintro rfl; cases hk) (by rintro rfl; cases hk), eM k c (by rintro rfl; cases hk) (by rintro rfl; cases hk)]
      exact hE.1 k hk
  case refine_2 => rw [et _ (by decide) (by decide) (by decide) (by decide), eM _ (by decide) (by decide) (by decide)]; exact hE.2.1
  case refine_3 => rw [et _ (by decide) (by decide) (by decide) (by decide), eM _ (by decide) (by decide) (by decide)]; exact hE.2.2.1
  case refine_4 => rw [et _ (by decide) (by decide) (by decide) (by decide), eM _ (by decide) (by decide) (by decide)]; exact hE.2.2.2
  case refine_5 => rw [eM _ (by decide) (by decide) (by decide)]; exact hN.1
  case refine_6 => rw [eM _ (by decide) (by decide) (by decide)]; exact hN.2.1
  case refine_7 => rw [eM _ (by decide) (by decide) (by decide)]; exact hN.2.2.1
  case refine_8 => rw [tu_s, hN.2.2.2.1, nI_1]
  case refine_9 => rw [eM _ (by decide) (by decide) (by decide)]; exact hN.2.2.2.2
  case refine_10 =>
    rw [hp]
    unfold prs
    congr 1
    funext j
    unfold isP
    rw [e13]
    by_cases c : j = r
    · subst c; rw [tu_s, hw]; decide
    · rw [tu_i c]
  case refine_11 =>
    have := dPh_mem (f := t 13) (h := dAbo t ne r 13) (fun r h => by rw [e13] at h; exact tu13 (by decide) h) hw (by rw [e13, tu_s]; decide) pr hm
    have := hS.2.2.2
    omega
  case refine_12 =>
    obtain ⟨b1, b2, b3, b4, b5, b6⟩ := hB j hj
    refine ⟨?_, by rw [et 7 (by decide) (by decide) (by decide) (by decide)]; exact b2, by rw [et 8 (by decide) (by decide) (by decide) (by decide)]; exact b3, by rw [et 9 (by decide) (by decide) (by decide) (by decide)]; exact b4, by rw [et 10 (by decide) (by decide) (by decide) (by decide)]; exact b5, ?_⟩
    · rw [e13]
      by_cases c : j = r
      · subst c; rw [tu_s]; exact Or.inr (Or.inl rfl)
      · rw [tu_i c]; exact b1
    · rw [e13, et 10 (by decide) (by decide) (by decide) (by decide)]
      by_cases c : j = r
      · subst c; exact fun _ => ⟨q, hq, h10⟩
      · rw [tu_i c]; exact b6
  case refine_13 =>
    obtain ⟨c1, ⟨c0, c2, c3, c4⟩, c5, c6, c7⟩ := hC l hl
    refine ⟨by rw [et 18 (by decide) (by decide) (by decide) (by decide)]; exact c1, ⟨c0, c2, by rw [et 17 (by decide) (by decide) (by decide) (by decide)]; exact c3, ?_⟩, by rw [et 20 (by decide) (by decide) (by decide) (by decide)]; exact c5, by rw [et 20 (by decide) (by decide) (by decide) (by decide), et 19 (by decide) (by decide) (by decide) (by decide)]; exact c6, by rw [et 21 (by decide) (by decide) (by decide) (by decide)]; exact c7⟩
    by_cases e : l = q
    · subst e
      have e0 : c0 = c := (nI_eq (by omega) (by omega)).mp (c3.symm.trans hc)
      subst e0
      have := cA_one (t := dAbo t ne r) (M := t) (l := l) (r0 := r) nr (fun j _ hj a b => by
        rw [e13, tu_i hj] at a
        rw [et 10 (by decide) (by decide) (by decide) (by decide)] at b
        exact ⟨a, b⟩)
      rw [if_pos hr] at this
      omega
    · refine Nat.le_trans (cA_mono nr (fun j _ a b => ?_)) c4
      rw [et 10 (by decide) (by decide) (by decide) (by decide)] at b
      by_cases f : j = r
      · subst f
        rw [h10] at b
        exact absurd ((nI_eq (by omega) (by omega)).mp b).symm e
      · rw [e13, tu_i f] at a
        exact ⟨a, b⟩
  case refine_21 =>
    have hw9 := hW j hj
    rw [et 40 (by decide) (by decide) (by decide) (by decide), hw9]
    unfold mWb
    rw [eM13, eM12, eM 23 (by decide) (by decide) (by decide), eM 11 (by decide) (by decide) (by decide)]
    by_cases c : j = r
    · subst c
      rw [tu_s, tu_s, ← hE.r 13, hw, if_pos rfl, if_neg (by decide)]
    · rw [tu_i c, tu_i c]
  case refine_22 =>
    have hn := hS.2.2.1
    have h1 := dTg_note (t := tu t 13 r 97) (ne := ne) (c := c9) hj (show r < 1000 by omega)
    unfold dAbo
    rw [h1, tu_s, tu_k (show (23 : Nat) ≠ 13 by decide), dTg_cg (t := t) ne 0 c9 (fun j2 _ _ => ⟨by rw [tu_r (by decide)], by rw [tu_r (by decide)], by rw [tu_r (by decide)]⟩), hL j hj c9]
    by_cases c : j = r
    · subst c
      rw [if_pos hr, if_pos hr]
      unfold lgE
      rw [eM13, eM12, eM 11 (by decide) (by decide) (by decide), ← hE.r 13, hw, if_pos rfl, tu_s, tu_s, if_neg (by decide), lgN, if_neg (show ¬ (false = true) by decide), if_pos rfl, if_neg (by decide), hE.2.1]
    · have : ∀ s : Bool × Int32, lgN s (r = j) 97 (t 23 0) = s := fun s => by
        unfold lgN
        split
        · rfl
        · rw [if_neg (fun z => c z.symm)]
      rw [this]
      unfold lgE
      rw [eM13, eM12, eM 11 (by decide) (by decide) (by decide), tu_i c, tu_i c]
  all_goals first | (intro l9 _; rw [et _ (by decide) (by decide) (by decide) (by decide)]) | rw [et _ (by decide) (by decide) (by decide) (by decide)] | rw [eM _ (by decide) (by decide) (by decide)]
/-- those who wait go aboard -/
theorem dLi_off {q : Nat} {s : DS} (h : ¬ s.1 20 q = 115) : ∀ i, dLi q s i = (s, 0)
  | 0 => rfl
  | i + 1 => by
    rw [dLi, dLi_off h i]
    unfold dLiS
    by_cases c1 : s.1 13 (pg s.2.1 i) = 119 ∧ s.1 10 (pg s.2.1 i) = nI q
    · by_cases c2 : s.1 8 (pg s.2.1 i) = s.1 18 q
      · rw [if_pos c1, if_pos c2, if_neg (fun z => h z.1)]
      · rw [if_pos c1, if_neg c2]
    · rw [if_neg c1]
theorem RR.letIn (h : RR nb nl nr ne pr t M) {q : Nat} (hq : q < nl) (hs : t 20 q = 115) (a0 : Int32) : ∃ t2 ne2 x, dLi q (t, pr, ne) pr.length = ((t2, pr, ne2), x) ∧ RR nb nl nr ne2 pr t2 (mO2 M a0 nr q nr).1 ∧ ((mO2 M a0 nr q nr).2 = 0 ↔ a0 = 0 ∧ x = 0) := by
  have := sim2 (α := DS × Int32) (β := TT × Int32) h.2.2.1 (fun a r => dLiS q r a.1 a.2) (dLi q (t, pr, ne)) (fun _ => rfl) (fun b r => mO2s b.1 nr q r b.2) (mO2 M a0 nr q) (fun _ => rfl)
    (fun r a b => ∃ t2 ne2 x, a = ((t2, pr, ne2), x) ∧ RR nb nl nr ne2 pr t2 b.1 ∧ (b.2 = 0 ↔ a0 = 0 ∧ x = 0) ∧ (∀ j, r ≤ j → b.1 13 j = M 13 j) ∧ t2 20 q = 115) ⟨t, ne, 0, rfl, h, ⟨fun z => ⟨z, rfl⟩, fun z => z.1⟩, fun _ _ => rfl, hs⟩
    (fun r a b hr hc hR => by
      obtain ⟨t2, ne2, x, rfl, h1, h2, h3, h4⟩ := hR
      have hn : ∀ j, r + 1 ≤ j → b.1 13 j = M 13 j := fun j hj => h3 j (by omega)
      obtain ⟨c1, ⟨c0, c2, c3, c4⟩, c5, c6, c7⟩ := h1.2.2.2.2.2.1 q hq
      have hab : dAb t2 pr q pr.length = nI (cA t2 q nr) := by
        rw [ab_eq (h1.1.r 13) (h1.1.r 10) h1.2.2.1, mAb_n]
        exact congrArg nI (Nat.le_antisymm (cA_cg (h1.1.r 13).symm (h1.1.r 10).symm nr) (cA_cg (h1.1.r 13) (h1.1.r 10) nr))
      have hmb : mAb b.1 q nr = nI (cA t2 q nr) := by rw [← ab_eq (h1.1.r 13) (h1.1.r 10) h1.2.2.1, hab]
      show ∃ t3 ne3 x3, dLiS q r (t2, pr, ne2) x = _ ∧ _
      unfold dLiS mO2s
      rw [← h1.1.r 13, ← h1.1.r 10, ← h1.1.r 8, ← h1.1.r 18, ← h1.1.r 17, hmb, c3]
      by_cases d1 : t2 13 r = 119
      · by_cases d2 : t2 10 r = nI q
        · by_cases d3 : t2 8 r = t2 18 q
          · have hroom : dRoom t2 pr q ↔ ¬ nI (cA t2 q nr) = nI c0 := by
              unfold dRoom
              rw [hab, c3, nI_ltI (by omega) (by omega), nI_eq (by omega) (by omega)]
              exact ⟨fun z => by omega, fun z => ⟨h4, by omega⟩⟩
            by_cases d4 : nI (cA t2 q nr) = nI c0
            · rw [if_pos ⟨d1, d2⟩, if_pos d3, if_neg (fun z => hroom.mp z d4), if_pos d1, if_pos d2, if_pos d3, if_pos d4]
              exact ⟨t2, ne2, x, rfl, h1, h2, hn, h4⟩
            · rw [if_pos ⟨d1, d2⟩, if_pos d3, if_pos (hroom.mpr d4), if_pos d1, if_pos d2, if_pos d3, if_neg d4]
              refine ⟨_, _, _, rfl, ?_, ?_, fun j hj => ?_, ?_⟩
              · have hlt : cA t2 q nr < c0 := by
                  have : ¬ cA t2 q nr = c0 := fun z => d4 (by rw [z])
                  omega
                exact h1.abo hr d1 hq d2 c3 c2 hlt
              · exact ⟨fun z => absurd (show (1 : Int32) = 0 from z) (by decide), fun z => absurd (show (1 : Int32) = 0 from z.2) (by decide)⟩
              · show tu (tu (tu b.1 13 r 97) 12 r (b.1 23 0)) 15 0 (b.1 15 0 + 1) 13 j = _
                rw [tu_k (by decide), tu_k (by decide), tu_i (by omega)]
                exact hn j hj
              · show dAbo t2 ne2 r 20 q = 115
                unfold dAbo
                rw [dNote_k (by decide) (by decide) (by decide), tu_k (by decide)]
                exact h4
          · rw [if_pos ⟨d1, d2⟩, if_neg d3, if_pos d1, if_pos d2, if_neg d3]
            exact ⟨t2, ne2, x, rfl, h1, h2, hn, h4⟩
        · rw [if_neg (fun z => d2 z.2), if_pos d1, if_neg d2]
          exact ⟨t2, ne2, x, rfl, h1, h2, hn, h4⟩
      · rw [if_neg (fun z => d1 z.1), if_neg d1]
        exact ⟨t2, ne2, x, rfl, h1, h2, hn, h4⟩)
    (fun r a b hr hc hR => by
      obtain ⟨t2, ne2, x, rfl, h1, h2, h3, h4⟩ := hR
      have := isP_f hc
      rw [h.1.r 13, ← h3 r (Nat.le_refl _)] at this
      unfold mO2s
      rw [if_neg (by rw [this]; decide)]
      exact ⟨t2, ne2, x, rfl, h1, h2, fun j hj => h3 j (by omega), h4⟩)
  obtain ⟨t2, ne2, x, e, h1, h2, -⟩ := this
  exact ⟨t2, ne2, x, e, h1, h2⟩
theorem RR.s24 (h : RR nb nl nr ne pr t M) : RR nb nl nr ne pr (tu t 24 0 (t 24 0 + 1)) (tu M 24 0 (M 24 0 + 1)) := by
  obtain ⟨hE, hN, hp, hS, hB, hC, hZ, hA, hW, hL⟩ := h
  have e : ∀ (T : TT) (v : Int32) k, k ≠ 24 → tu T 24 0 v k = T k := fun T v k hk => tu_r hk
  refine ⟨⟨fun k hk => ?_, ?_, ?_, ?_⟩, hN.cg ?_ ?_ ?_ ?_ ?_, hp.trans (prs_cg (e t _ 13 (by decide)).symm), hS.cg (e t _ 13 (by decide)), fun j hj => (hB j hj).cg ?_ ?_ ?_ ?_ ?_, fun l hl => (hC l hl).cg ?_ ?_ ?_ ?_ ?_ (cA_cg ?_ ?_ nr), hZ.cg ?_ ?_ ?_ ?_, hA.cg ?_ ?_ ?_, hW.cg ?_ ?_ ?_ ?_ ?_, hL.cg ?_ ?_ ?_ ?_ ?_ ?_⟩
  case refine_1 => rw [e t _ k (by rintro rfl; cases hk), e M _ k (by rintro rfl; cases hk)]; exact hE.1 k hk
  case refine_2 => rw [e t _ _ (by decide), e M _ _ (by decide)]; exact hE.2.1
  case refine_3 => rw [tu_s, tu_s, hE.2.2.1]
  case refine_4 => rw [e t _ _ (by decide), e M _ _ (by decide)]; exact hE.2.2.2
  all_goals first | (intro l9 _; rw [e _ _ _ (by decide)]) | rw [e _ _ _ (by decide)]
/-- a lift's own rows -/
theorem RR.lift (h : RR nb nl nr ne pr t M) {q : Nat} (hq : q < nl) (et : ∀ k, k ≠ 18 → k ≠ 19 → k ≠ 20 → k ≠ 21 → t2 k = t k) (eM : ∀ k, k ≠ 18 → k ≠ 19 → k ≠ 20 → k ≠ 21 → M2 k = M k) (e18 : t2 18 = M2 18) (e19 : t2 19 = M2 19) (e20 : t2 20 = M2 20) (e21 : t2 21 = M2 21)
    (hl : ∀ l, l ≠ q → t2 18 l = t 18 l ∧ t2 19 l = t 19 l ∧ t2 20 l = t 20 l ∧ t2 21 l = t 21 l) (h18 : ∃ w, w < 10 ∧ t2 18 q = nI w) (h20 : t2 20 q = 115 ∨ t2 20 q = 111 ∨ t2 20 q = 99) (h19 : t2 20 q = 99 → ∃ k, 1 ≤ k ∧ k ≤ 20 ∧ t2 19 q = nI k) (h21 : t2 21 q = 0 ∨ t2 21 q = 1) : RR nb nl nr ne pr t2 M2 := by
  obtain ⟨hE, hN, hp, hS, hB, hC, hZ, hA, hW, hL⟩ := h
  have et := fun k (h : ¬ (k = 18 ∨ k = 19 ∨ k = 20 ∨ k = 21)) => et k (fun z => h (Or.inl z)) (fun z => h (Or.inr (Or.inl z))) (fun z => h (Or.inr (Or.inr (Or.inl z)))) (fun z => h (Or.inr (Or.inr (Or.inr z))))
  have eM := fun k (h : ¬ (k = 18 ∨ k = 19 ∨ k = 20 ∨ k = 21)) => eM k (fun z => h (Or.inl z)) (fun z => h (Or.inr (Or.inl z))) (fun z => h (Or.inr (Or.inr (Or.inl z)))) (fun z => h (Or.inr (Or.inr (Or.inr z))))
  refine ⟨⟨fun k hk => ?_, ?_, ?_, ?_⟩, hN.cg ?_ ?_ ?_ ?_ ?_, hp.trans (prs_cg (et 13 (by decide)).symm), hS.cg (et 13 (by decide)), fun j hj => (hB j hj).cg ?_ ?_ ?_ ?_ ?_, fun l hl9 => ?_, hZ.cg ?_ ?_ ?_ ?_, hA.cg ?_ ?_ ?_, hW.cg ?_ ?_ ?_ ?_ ?_, hL.cg ?_ ?_ ?_ ?_ ?_ ?_⟩
  case refine_1 =>
    by_cases c : k = 18 ∨ k = 19 ∨ k = 20 ∨ k = 21
    · rcases c with rfl | rfl | rfl | rfl <;> assumption
    · rw [et k c, eM k c]; exact hE.1 k hk
  case refine_2 => rw [et _ (by decide), eM _ (by decide)]; exact hE.2.1
  case refine_3 => rw [et _ (by decide), eM _ (by decide)]; exact hE.2.2.1
  case refine_4 => rw [et _ (by decide), eM _ (by decide)]; exact hE.2.2.2
  case refine_15 =>
    by_cases c : l = q
    · subst c
      obtain ⟨c1, ⟨c0, c2, c3, c4⟩, c5⟩ := hC l hl9
      exact ⟨h18, ⟨c0, c2, by rw [et 17 (by decide)]; exact c3, Nat.le_trans (cA_cg (et 13 (by decide)) (et 10 (by decide)) nr) c4⟩, h20, h19, h21⟩
    · obtain ⟨x1, x2, x3, x4⟩ := hl l c
      exact (hC l hl9).cg (by rw [et 17 (by decide)]) x1 x2 x3 x4 (cA_cg (et 13 (by decide)) (et 10 (by decide)) nr)
  case refine_18 => exact fun l hl9 => (hl l (by omega)).1
  case refine_19 => exact fun l hl9 => (hl l (by omega)).2.1
  all_goals first | rw [et _ (by decide)] | rw [eM _ (by decide)]
end RU
