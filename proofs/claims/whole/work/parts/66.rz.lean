/-! call by call, the rest: a call, callOff, pass, alarm, turn, the figures; the beginning -/
theorem dPh_cg {f g : Nat → Int32} : ∀ l : List Nat, (∀ r, r ∈ l → f r = g r) → dPh f l = dPh g l
  | [], _ => rfl
  | r :: l, h => by
    rw [dPh, dPh, h r List.mem_cons_self, dPh_cg l (fun x hx => h x (List.mem_cons_of_mem _ hx))]
theorem dPh_app {f : Nat → Int32} {x : Nat} : ∀ l : List Nat, dPh f (l ++ [x]) = dPh f l + (if f x = 119 then 2 else 1)
  | [] => by
    show (if f x = 119 then 2 else 1) + 0 = 0 + _
    omega
  | r :: l => by
    show (if f r = 119 then 2 else 1) + dPh f (l ++ [x]) = (if f r = 119 then 2 else 1) + dPh f l + _
    rw [dPh_app l]
    omega
section RZ9
variable {nb nl nr ne : Nat} {pr : List Nat} {t M : TT}
theorem RR.addR (h : RR nb nl nr ne pr t M) {b fy fz : Nat} (hnr : nr < 30) (hb : b < nb) (hy : fy < 10) (hz : fz < 10) : RR nb nl (nr + 1) (ne + 1) (pr ++ [nr]) (dNote (tAddR t nr b (nI fy) (nI fz)) ne nr) (mCall0 M nr (nI b) (nI fy) (nI fz)) := by
  have hlt := fun (j : Nat) (hj : j ∈ pr) => h.lt hj
  have hpl := h.pl
  obtain ⟨hE, hN, hp, hS, hB, hC, hZ, hA, hW, hL⟩ := h
  obtain ⟨T, hT⟩ : ∃ T, T = dNote (tAddR t nr b (nI fy) (nI fz)) ne nr := ⟨_, rfl⟩
  obtain ⟨N, hN9⟩ : ∃ N, N = mCall0 M nr (nI b) (nI fy) (nI fz) := ⟨_, rfl⟩
  have et : ∀ k, ¬ (k = 7 ∨ k = 8 ∨ k = 9 ∨ k = 10 ∨ k = 13 ∨ k = 40 ∨ k = 50 ∨ k = 51 ∨ k = 52) → T k = t k := fun k h9 => by
    rw [hT, dNote_k (by omega) (by omega) (by omega)]
    unfold tAddR
    rw [tu_r (by omega), tu_r (by omega), tu_r (by omega), tu_r (by omega), tu_r (by omega), tu_r (by omega)]
  have ei : ∀ k j, ¬ (k = 50 ∨ k = 51 ∨ k = 52) → j ≠ nr → T k j = t k j := fun k j h9 hj => by
    rw [hT, dNote_k (by omega) (by omega) (by omega)]
    unfold tAddR
    rw [tu_i hj, tu_i hj, tu_i hj, tu_i hj, tu_i hj, tu_i hj]
  have eM : ∀ k, ¬ (k = 0 ∨ k = 7 ∨ k = 8 ∨ k = 9 ∨ k = 10 ∨ k = 11 ∨ k = 13 ∨ k = 14 ∨ k = 15) → N k = M k := fun k h9 => by
    rw [hN9]
    unfold mCall0
    rw [tu_r (by omega), tu_r (by omega), tu_r (by omega), tu_r (by omega), tu_r (by omega), tu_r (by omega), tu_r (by omega), tu_r (by omega), tu_r (by omega)]
  have eN : ∀ k j, ¬ (k = 0 ∨ k = 14 ∨ k = 15) → j ≠ nr → N k j = M k j := fun k j h9 hj => by
    rw [hN9]
    unfold mCall0
    rw [tu_k (by omega), tu_k (by omega), tu_i hj, tu_i hj, tu_i hj, tu_i hj, tu_i hj, tu_i hj, tu_k (by omega)]
  have t7 : T 7 nr = nI b := by rw [hT, dNote_k (by decide) (by decide) (by decide)]; unfold tAddR; simp [tu]
  have t8 : T 8 nr = nI fy := by rw [hT, dNote_k (by decide) (by decide) (by decide)]; unfold tAddR; simp [tu]
  have t9 : T 9 nr = nI fz := by rw [hT, dNote_k (by decide) (by decide) (by decide)]; unfold tAddR; simp [tu]
  have t10 : T 10 nr = -1 := by rw [hT, dNote_k (by decide) (by decide) (by decide)]; unfold tAddR; simp [tu]
  have t13 : T 13 nr = 119 := by rw [hT, dNote_k (by decide) (by decide) (by decide)]; unfold tAddR; simp [tu]
  have t40 : T 40 nr = 0 := by rw [hT, dNote_k (by decide) (by decide) (by decide)]; unfold tAddR; simp [tu]
  have n7 : N 7 nr = nI b := by rw [hN9]; unfold mCall0; simp [tu]
  have n8 : N 8 nr = nI fy := by rw [hN9]; unfold mCall0; simp [tu]
  have n9 : N 9 nr = nI fz := by rw [hN9]; unfold mCall0; simp [tu]
  have n10 : N 10 nr = -1 := by rw [hN9]; unfold mCall0; simp [tu]
  have n11 : N 11 nr = M 23 0 := by rw [hN9]; unfold mCall0; simp [tu]
  have n13 : N 13 nr = 119 := by rw [hN9]; unfold mCall0; simp [tu]
  have n14 : N 14 0 = nI nr + 1 := by rw [hN9]; unfold mCall0; simp [tu]
  have n15 : N 15 0 = M 15 0 + 1 := by rw [hN9]; unfold mCall0; simp [tu]
  have hlog : ∀ r, r < 1000 → ∀ c, dTg T r (ne + 1) 0 c = lgN (dTg t r ne 0 c) (nr = r) 119 (t 23 0) := fun r hr c => by
    have x13 : tAddR t nr b (nI fy) (nI fz) 13 nr = 119 := by unfold tAddR; simp [tu]
    have x23 : tAddR t nr b (nI fy) (nI fz) 23 0 = t 23 0 := by unfold tAddR; simp [tu]
    have xr : ∀ k, k = 50 ∨ k = 51 ∨ k = 52 → tAddR t nr b (nI fy) (nI fz) k = t k := fun k hk => by
      unfold tAddR
      rw [tu_r (by omega), tu_r (by omega), tu_r (by omega), tu_r (by omega), tu_r (by omega), tu_r (by omega)]
    rw [hT, dTg_note hr (by omega), x13, x23, dTg_cg (t := t) ne 0 c (fun j _ _ => ⟨by rw [xr 50 (by decide)], by rw [xr 51 (by decide)], by rw [xr 52 (by decide)]⟩)]
  rw [← hT, ← hN9]
  clear hT hN9
  refine ⟨⟨fun k hk => ?_, ?_, ?_, ?_⟩, ⟨?_, ?_, ?_, ?_, ?_⟩, ?_, ⟨hS.1, hS.2.1, hnr, ?_⟩, fun j hj => ?_, fun l hl => ?_, hZ.cg ?_ ?_ ?_ ?_, hA.cg ?_ ?_ ?_, fun j hj => ?_, fun r hr c => ?_⟩
  case refine_1 =>
    by_cases a : k = 7 ∨ k = 8 ∨ k = 9 ∨ k = 10 ∨ k = 13
    · funext j
      by_cases d : j = nr
      · subst d
        rcases a with rfl | rfl | rfl | rfl | rfl
        · rw [t7, n7]
        · rw [t8, n8]
        · rw [t9, n9]
        · rw [t10, n10]
        · rw [t13, n13]
      · rw [ei k j (by omega) d, eN k j (by omega) d, hE.1 k hk]
    · have b0 : k ≠ 0 := by rintro rfl; cases hk
      have b1 : k ≠ 40 := by rintro rfl; cases hk
      have b2 : k ≠ 50 := by rintro rfl; cases hk
      have b3 : k ≠ 51 := by rintro rfl; cases hk
      have b4 : k ≠ 52 := by rintro rfl; cases hk
      have b5 : k ≠ 11 := by rintro rfl; cases hk
      have b6 : k ≠ 14 := by rintro rfl; cases hk
      have b7 : k ≠ 15 := by rintro rfl; cases hk
      rw [et k (by omega), eM k (by omega)]
      exact hE.1 k hk
  case refine_2 => rw [et 23 (by decide), eM 23 (by decide)]; exact hE.2.1
  case refine_3 => rw [et 24 (by decide), eM 24 (by decide)]; exact hE.2.2.1
  case refine_4 => rw [et 25 (by decide), eM 25 (by decide)]; exact hE.2.2.2
  case refine_5 => rw [eM 6 (by decide)]; exact hN.1
  case refine_6 => rw [n14, nI_1]
  case refine_7 => rw [eM 22 (by decide)]; exact hN.2.2.1
  case refine_8 => rw [n15, hN.2.2.2.1, nI_1]
  case refine_9 =>
    rw [eM 16 (by decide), hN.2.2.2.2, List.length_append]
    congr 1
    show _ = nr + 1 - (pr.length + 1)
    omega
  case refine_10 =>
    unfold prs
    rw [List.range_succ, List.filter_append]
    have h1 : [nr].filter (isP T) = [nr] := by
      have : isP T nr = true := isP_t.mpr (by rw [t13]; decide)
      simp [this]
    have h2 : (List.range nr).filter (isP T) = (List.range nr).filter (isP t) := List.filter_congr (fun j hj => by
      have := List.mem_range.mp hj
      unfold isP
      rw [ei 13 j (by decide) (by omega)])
    rw [h1, h2]
    exact congrArg (· ++ [nr]) hp
  case refine_11 =>
    rw [dPh_app, t13, if_pos rfl, dPh_cg (g := t 13) pr (fun r hr => ei 13 r (by decide) (by have := hlt r hr; omega))]
    have := hS.2.2.2
    omega
  case refine_12 =>
    by_cases d : j = nr
    · subst d
      exact ⟨Or.inl t13, ⟨b, hb, t7⟩, ⟨fy, hy, t8⟩, ⟨fz, hz, t9⟩, Or.inl t10, by rw [t13]; exact fun z => absurd z (by decide)⟩
    · exact (hB j (by omega)).cg (ei 7 j (by decide) d) (ei 8 j (by decide) d) (ei 9 j (by decide) d) (ei 10 j (by decide) d) (ei 13 j (by decide) d)
  case refine_13 =>
    obtain ⟨c1, ⟨c0, c2, c3, c4⟩, c5, c6, c7⟩ := hC l hl
    refine ⟨by rw [et 18 (by decide)]; exact c1, ⟨c0, c2, by rw [et 17 (by decide)]; exact c3, ?_⟩, by rw [et 20 (by decide)]; exact c5, by rw [et 20 (by decide), et 19 (by decide)]; exact c6, by rw [et 21 (by decide)]; exact c7⟩
    rw [cA, if_neg (by rw [t13]; rintro ⟨a, -⟩; exact absurd a (by decide)), Nat.add_zero]
    refine Nat.le_trans (cA_mono nr (fun j hj a b => ?_)) c4
    rw [ei 13 j (by decide) (by omega)] at a
    rw [ei 10 j (by decide) (by omega)] at b
    exact ⟨a, b⟩
  case refine_21 =>
    unfold mWb
    by_cases d : j = nr
    · subst d
      rw [t40, n13, if_pos rfl, n11, eM 23 (by decide), Int32.sub_self]
    · rw [ei 40 j (by decide) d, eN 13 j (by decide) d, eN 11 j (by decide) d, eN 12 j (by decide) d, eM 23 (by decide)]
      exact hW j (by omega)
  case refine_22 =>
    rw [hlog r hr c, hL r hr c]
    by_cases d : nr = r
    · subst d
      rw [if_neg (Nat.lt_irrefl nr), if_pos (Nat.lt_succ_self nr)]
      unfold lgN lgE
      rw [n13, n11, if_pos rfl, hE.2.1]
      simp
    · have : ∀ s : Bool × Int32, lgN s (nr = r) 119 (t 23 0) = s := fun s => by
        unfold lgN
        split
        · rfl
        · first | rfl | rw [if_neg d]
      rw [this]
      by_cases e : r < nr
      · rw [if_pos e, if_pos (by omega)]
        unfold lgE
        rw [eN 13 r (by decide) (by omega), eN 11 r (by decide) (by omega), eN 12 r (by decide) (by omega)]
      · rw [if_neg e, if_neg (by omega)]
  all_goals first | (intro l9 _; rw [et _ (by decide)]) | rw [et _ (by decide)] | rw [eM _ (by decide)]
theorem RR.al (h : RR nb nl nr ne pr t M) : t 60 0 = -1 ↔ M 27 0 = 0 := by
  rcases h.2.2.2.2.2.2.2.1 with ⟨a, b⟩ | ⟨f, f1, a, b, c⟩
  · exact ⟨fun _ => b, fun _ => a⟩
  · refine ⟨fun z => ?_, fun z => ?_⟩
    · rw [a] at z
      exact absurd (show nI f < 0 by rw [z]; decide) (nI_pos (by omega))
    · rw [b] at z; exact absurd z (by decide)
def kcCall (nb nr : Nat) (pr : List Nat) (t : TT) (x y z : Int32) : Nat := if dcN x nb = 0 then (if dcF y = 0 then (if dcF z = 0 then (if y = z then 2 else if dWhy t x.toNatClampNeg z = 110 then (if dHas t pr x.toNatClampNeg pr.length = true then 4 else if t 60 0 = -1 then (if nI nr < 30 then 0 else 4) else 4) else 3) else 1) else 1) else 1
theorem op_call (h : RR nb nl nr ne pr t M) (x y z : Int32) : (mCall M nb nr nl x y z).2 0 0 = nI (kcCall nb nr pr t x y z) ∧
    (kcCall nb nr pr t x y z = 0 → nI nr = (mCall M nb nr nl x y z).1 ∧ RR nb nl (nr + 1) (ne + 1) (pr ++ [nr]) (dGive (dNote (tAddR t nr x.toNatClampNeg y z) ne nr) (pr ++ [nr]) nl nr) (mCall M nb nr nl x y z).2) ∧
    (¬ kcCall nb nr pr t x y z = 0 → RR nb nl nr ne pr t (mCall M nb nr nl x y z).2) := by
  have h3 := h.b8
  have b1 := dcN_b (x := x) (n := nb) (by omega)
  have b2 := dcF_b (x := y)
  have b3 := dcF_b (x := z)
  have b4 : nI nr < 30 ↔ ¬ nI nr = 30 := by
    rw [show (30 : Int32) = nI 30 from rfl, nI_ltI (by omega) (by decide), nI_eq (by omega) (by decide)]
    omega
  have fail : ∀ k : Nat, 0 < k → k < 5 → (mF M (nI k)).2 0 0 = nI k ∧ (k = 0 → nI nr = (mF M (nI k)).1 ∧ RR nb nl (nr + 1) (ne + 1) (pr ++ [nr]) (dGive (dNote (tAddR t nr x.toNatClampNeg y z) ne nr) (pr ++ [nr]) nl nr) (mF M (nI k)).2) ∧ (¬ k = 0 → RR nb nl nr ne pr t (mF M (nI k)).2) := fun k k0 k5 =>
    ⟨mF_0, fun z => absurd z (by omega), fun _ => h.mf _⟩
  unfold mCall kcCall
  by_cases c1 : dcN x nb = 0
  · rw [if_pos (b1.mpr c1), if_pos c1]
    obtain ⟨b, rfl, hb⟩ := betc_nI (b1.mpr c1) (by omega)
    by_cases c2 : dcF y = 0
    · rw [if_pos (b2.mpr c2), if_pos c2]
      by_cases c3 : dcF z = 0
      · rw [if_pos (b3.mpr c3), if_pos c3]
        by_cases c4 : y = z
        · rw [if_pos c4, if_pos c4]; exact fail 2 (by decide) (by decide)
        · rw [if_neg c4, if_neg c4]
          obtain ⟨fy, rfl, -, hfy⟩ := bet_nI 0 9 0 9 (b2.mpr c2) rfl rfl
          obtain ⟨fz, rfl, -, hfz⟩ := bet_nI 0 9 0 9 (b3.mpr c3) rfl rfl
          rw [nI_clamp (show b < 2 ^ 31 by omega)] at fail ⊢
          rw [nI_clamp (show fz < 2 ^ 31 by omega), (h.m0 0).whyE (b := b) (show fz < 10 by omega)]
          by_cases c5 : mWhy (tu M 0 0 0) b fz = 110
          · rw [if_pos c5, if_pos c5, has_eq (M := tu M 0 0 0) (n := nr) ((h.m0 0).1.r 13) ((h.m0 0).1.r 7) h.2.2.1]
            by_cases c6 : mIsOut (tu M 0 0 0) b nr = true
            · rw [if_pos c6, if_pos c6]; exact fail 4 (by decide) (by decide)
            · rw [if_neg c6, if_neg c6]
              by_cases c7 : t 60 0 = -1
              · rw [if_pos c7, if_pos (h.al.mp c7)]
                by_cases c8 : nI nr = 30
                · rw [if_pos c8, if_neg (fun z => b4.mp z c8)]; exact fail 4 (by decide) (by decide)
                · rw [if_neg c8, if_pos (b4.mpr c8)]
                  have hnr : nr < 30 := by
                    have := b4.mpr c8
                    rw [show (30 : Int32) = nI 30 from rfl, nI_ltI (by omega) (by decide)] at this
                    exact this
                  refine ⟨?_, fun _ => ⟨rfl, ?_⟩, fun z => absurd rfl z⟩
                  · show mGives (mCall0 M nr (nI b) (nI fy) (nI fz)) (nr + 1) nl nr 0 0 = _
                    rw [mGives_k (by decide)]
                    unfold mCall0
                    rw [tu_k (by decide), tu_k (by decide), tu_k (by decide), tu_k (by decide), tu_k (by decide), tu_k (by decide), tu_k (by decide), tu_k (by decide), tu_s]
                    rfl
                  · refine (h.addR hnr hb (by omega) (by omega)).give (Nat.lt_succ_self nr) ?_
                    rw [dNote_k (by decide) (by decide) (by decide)]
                    unfold tAddR
                    simp [tu]
              · rw [if_neg c7, if_neg (fun z => c7 (h.al.mpr z))]; exact fail 4 (by decide) (by decide)
          · rw [if_neg c5, if_neg c5]; exact fail 3 (by decide) (by decide)
      · rw [if_neg (fun z => c3 (b3.mp z)), if_neg c3]; exact fail 1 (by decide) (by decide)
    · rw [if_neg (fun z => c2 (b2.mp z)), if_neg c2]; exact fail 1 (by decide) (by decide)
  · rw [if_neg (fun z => c1 (b1.mp z)), if_neg c1]; exact fail 1 (by decide) (by decide)
theorem RR.s20 (h : RR nb nl nr ne pr t M) {q : Nat} (hq : q < nl) : RR nb nl nr ne pr (tu t 20 q 111) (tu M 20 q 111) := by
  obtain ⟨c1, c2, c3, c4, c5⟩ := h.2.2.2.2.2.1 q hq
  refine h.lift hq (fun k h1 h2 h3 h4 => tu_r h3) (fun k h1 h2 h3 h4 => tu_r h3) (tu_cg (h.1.r 18)) (tu_cg (h.1.r 19)) (tu_cg (h.1.r 20)) (tu_cg (h.1.r 21)) (fun l hl => ⟨tu_i hl, tu_i hl, tu_i hl, tu_i hl⟩) ?_ ?_ ?_ ?_
  · rw [tu_k (by decide)]; exact c1
  · rw [tu_s]; exact Or.inr (Or.inl rfl)
  · rw [tu_s]; exact fun z => absurd z (by decide)
  · rw [tu_k (by decide)]; exact c5
theorem op_callOff (h : RR nb nl nr ne pr t M) (x : Int32) : (mCallOff M nr nl x).2 0 0 = nI (if dcN x nl = 0 then (if t 20 x.toNatClampNeg = 115 then (if t 60 0 = -1 then 0 else 2) else 2) else 1) ∧
    ((if dcN x nl = 0 then (if t 20 x.toNatClampNeg = 115 then (if t 60 0 = -1 then 0 else 2) else 2) else 1) = 0 → (dLose (tu t 20 x.toNatClampNeg 111) pr x.toNatClampNeg pr.length).2 = (mCallOff M nr nl x).1 ∧ RR nb nl nr ne pr (dLose (tu t 20 x.toNatClampNeg 111) pr x.toNatClampNeg pr.length).1 (mCallOff M nr nl x).2) ∧
    (¬ (if dcN x nl = 0 then (if t 20 x.toNatClampNeg = 115 then (if t 60 0 = -1 then 0 else 2) else 2) else 1) = 0 → RR nb nl nr ne pr t (mCallOff M nr nl x).2) := by
  have h3 := h.b8
  have b1 := dcN_b (x := x) (n := nl) (by omega)
  unfold mCallOff
  rw [h.1.r 20]
  by_cases c1 : dcN x nl = 0
  · rw [if_pos (b1.mpr c1), if_pos c1]
    obtain ⟨q, rfl, hq⟩ := betc_nI (b1.mpr c1) (by omega)
    rw [nI_clamp (show q < 2 ^ 31 by omega)]
    by_cases c2 : M 20 q = 115
    · rw [if_pos c2, if_pos c2]
      by_cases c3 : t 60 0 = -1
      · rw [if_pos c3, if_pos (h.al.mp c3)]
        obtain ⟨h1, h2⟩ := ((h.m0 0).s20 hq).lose (q := q) (by omega)
        refine ⟨?_, fun _ => ⟨h2, h1⟩, fun z => absurd rfl z⟩
        show (mFrees (tu (tu M 0 0 0) 20 q 111) (nI q) nr).1 0 0 = _
        rw [mFrees_k (by decide), tu_k (by decide), tu_s]; rfl
      · rw [if_neg c3, if_neg (fun z => c3 (h.al.mpr z))]
        exact ⟨mF_0, fun z => absurd z (by decide), fun _ => h.mf 2⟩
    · rw [if_neg c2, if_neg c2]
      exact ⟨mF_0, fun z => absurd z (by decide), fun _ => h.mf 2⟩
  · rw [if_neg (fun z => c1 (b1.mp z)), if_neg c1]
    exact ⟨mF_0, fun z => absurd z (by decide), fun _ => h.mf 1⟩
theorem mPend_0 : mPend M nr 0 = M 0 := by
  unfold mPend
  rw [tu_r (by decide), tu_r (by decide)]
theorem op_pass (h : RR nb nl nr ne pr t M) (x : Int32) {s2 : DS} (hs2 : s2 = dTicks nl (t, pr, ne) x.toNatClampNeg) : (mPass M nr nl x).2 0 0 = nI (if x < 1 then 1 else if x ≤ 100 then 0 else 1) ∧
    ((if x < 1 then 1 else if x ≤ 100 then 0 else 1) = 0 → nI pr.length - nI s2.2.1.length = (mPass M nr nl x).1 ∧ RR nb nl nr s2.2.2 s2.2.1 s2.1 (mPass M nr nl x).2) ∧
    (¬ (if x < 1 then 1 else if x ≤ 100 then 0 else 1) = 0 → RR nb nl nr ne pr t (mPass M nr nl x).2) := by
  have h3 := h.b8
  have hpl := h.pl
  have b1 : bet x 1 100 ↔ ¬ x < 1 ∧ x ≤ 100 := by unfold bet; rw [Int32.not_lt]
  unfold mPass
  simp only [b1]
  by_cases c1 : x < 1
  · simp only [c1, if_true, not_true_eq_false, false_and, if_false, mF_0]
    exact ⟨rfl, fun z => absurd z (by decide), fun _ => h.mf 1⟩
  · by_cases c2 : x ≤ 100
    · rw [if_neg c1, if_pos c2, if_pos ⟨c1, c2⟩]
      obtain ⟨t2, pr2, ne2, e, h2⟩ := (h.m0 0).ticks x.toNatClampNeg
      have hok := dTicks_ok (nl := nl) (s := (t, pr, ne)) x.toNatClampNeg
      rw [← hs2] at hok
      rw [e] at hs2
      subst hs2
      have hle : pr2.length ≤ pr.length := hok.2.2
      refine ⟨?_, fun _ => ⟨?_, h2⟩, fun z => absurd rfl z⟩
      · show mPassN (tu M 0 0 0) nr nl x.toNatClampNeg 0 0 = _
        rw [mPassN_k (by decide) (by decide) (by decide), tu_s]; rfl
      · show nI pr.length - nI pr2.length = mPassN (tu M 0 0 0) nr nl x.toNatClampNeg 16 0 - M 16 0
        rw [h2.2.1.2.2.2.2, h.2.1.2.2.2.2, pk_sub hle, pk_sub (by omega)]
        congr 1
        omega
    · simp only [c1, c2, if_true, not_true_eq_false, not_false_eq_true, true_and, and_false, if_false, mF_0]
      exact ⟨rfl, fun z => absurd z (by decide), fun _ => h.mf 1⟩
theorem RR.al0 (h : RR nb nl nr ne pr t M) {f : Nat} (hf : f < 10) : RR nb nl nr ne pr (tu t 60 0 (nI f)) (tu (tu M 27 0 1) 26 0 (nI f)) := by
  obtain ⟨hE, hN, hp, hS, hB, hC, hZ, hA, hW, hL⟩ := h
  have et : ∀ k, ¬ (k = 60) → tu t 60 0 (nI f) k = t k := fun k h9 => tu_r h9
  have eM : ∀ k, ¬ (k = 27 ∨ k = 26) → tu (tu M 27 0 1) 26 0 (nI f) k = M k := fun k h9 => by rw [tu_r (by omega), tu_r (by omega)]
  refine ⟨⟨fun k hk => ?_, ?_, ?_, ?_⟩, hN.cg ?_ ?_ ?_ ?_ ?_, hp.trans (prs_cg (et 13 (by decide)).symm), hS.cg (et 13 (by decide)), fun j hj => (hB j hj).cg ?_ ?_ ?_ ?_ ?_, fun l hl => (hC l hl).cg ?_ ?_ ?_ ?_ ?_ (cA_cg ?_ ?_ nr), hZ.cg ?_ ?_ ?_ ?_, Or.inr ⟨f, hf, tu_s, ?_, tu_s⟩, hW.cg ?_ ?_ ?_ ?_ ?_, hL.cg ?_ ?_ ?_ ?_ ?_ ?_⟩
  case refine_1 =>
    rw [et k (by rintro rfl; cases hk), eM k (by rintro (rfl | rfl) <;> cases hk)]
    exact hE.1 k hk
  case refine_2 => rw [et 23 (by decide), eM 23 (by decide)]; exact hE.2.1
  case refine_3 => rw [et 24 (by decide), eM 24 (by decide)]; exact hE.2.2.1
  case refine_4 => rw [et 25 (by decide), eM 25 (by decide)]; exact hE.2.2.2
  case refine_26 => rw [tu_k (by decide), tu_s]
  all_goals first | (intro l9 _; rw [et _ (by decide)]) | rw [et _ (by decide)] | rw [eM _ (by decide)]
theorem op_alarm (h : RR nb nl nr ne pr t M) (x : Int32) {s2 : DS} (hs2 : s2 = dSe pr.length (tu t 60 0 x, pr, ne)) : (mAlarm M nr x).2 0 0 = nI (if dcF x = 0 then (if t 60 0 = -1 then (if nI pr.length = 0 then 2 else 0) else 2) else 1) ∧
    ((if dcF x = 0 then (if t 60 0 = -1 then (if nI pr.length = 0 then 2 else 0) else 2) else 1) = 0 → nI s2.2.1.length = (mAlarm M nr x).1 ∧ RR nb nl nr s2.2.2 s2.2.1 s2.1 (mAlarm M nr x).2) ∧
    (¬ (if dcF x = 0 then (if t 60 0 = -1 then (if nI pr.length = 0 then 2 else 0) else 2) else 1) = 0 → RR nb nl nr ne pr t (mAlarm M nr x).2) := by
  have b2 := dcF_b (x := x)
  have hO : mOm (tu M 0 0 0) nr = nI pr.length := mOm_eq (t := t) ((h.m0 0).1.r 13) h.2.2.1
  unfold mAlarm
  rw [hO]
  by_cases c1 : dcF x = 0
  · rw [if_pos (b2.mpr c1), if_pos c1]
    obtain ⟨f, rfl, -, hf⟩ := bet_nI 0 9 0 9 (b2.mpr c1) rfl rfl
    by_cases c2 : t 60 0 = -1
    · rw [if_pos c2, if_pos (h.al.mp c2)]
      by_cases c3 : nI pr.length = 0
      · rw [if_pos c3, if_pos c3]
        exact ⟨mF_0, fun z => absurd z (by decide), fun _ => h.mf 2⟩
      · rw [if_neg c3, if_neg c3]
        obtain ⟨t2, pr2, ne2, e, h2⟩ := ((h.m0 0).al0 (show f < 10 by omega)).send
        rw [e] at hs2
        subst hs2
        refine ⟨?_, fun _ => ⟨?_, h2⟩, fun z => absurd rfl z⟩
        · show mAl (mFrees (tu (tu (tu M 0 0 0) 27 0 1) 26 0 (nI f)) (-1) nr).1 nr 0 0 = _
          rw [mAl_k (by decide), mFrees_k (by decide), tu_k (by decide), tu_k (by decide), tu_s]; rfl
        · exact (mOm_eq (t := t2) (h2.1.r 13) h2.2.2.1).symm
    · rw [if_neg c2, if_neg (fun z => c2 (h.al.mpr z))]
      exact ⟨mF_0, fun z => absurd z (by decide), fun _ => h.mf 2⟩
  · rw [if_neg (fun z => c1 (b2.mp z)), if_neg c1]
    exact ⟨mF_0, fun z => absurd z (by decide), fun _ => h.mf 1⟩
theorem dTn_val : ∀ n k, dTn t pr n k = -1 ∨ ∃ r, r ∈ pr ∧ dTn t pr n k = t 8 r
  | 0, _ => Or.inl rfl
  | n + 1, k => by
    have key : ∀ v : Int32, dWt t pr v = true → ∃ r, r ∈ pr ∧ v = t 8 r := fun v hv => by
      unfold dWt at hv
      rw [exB_mem (p := fun r => decide (t 13 r = 119) && decide (t 8 r = v))] at hv
      obtain ⟨r, hr, h2⟩ := hv
      simp only [Bool.and_eq_true, decide_eq_true_eq] at h2
      exact ⟨r, hr, h2.2.symm⟩
    rw [dTn]
    by_cases c1 : dWt t pr (t 60 0 + nI k) = true
    · rw [if_pos c1]; exact Or.inr (key _ c1)
    · rw [if_neg c1]
      by_cases c2 : dWt t pr (t 60 0 - nI k) = true
      · rw [if_pos c2]; exact Or.inr (key _ c2)
      · rw [if_neg c2]; exact dTn_val n (k + 1)
theorem op_turn (h : RR nb nl nr ne pr t M) : (mTurn M nr).2 0 0 = nI (if dTurn t pr = -1 then 1 else 0) ∧
    ((if dTurn t pr = -1 then 1 else 0) = 0 → dTurn t pr = (mTurn M nr).1 ∧ RR nb nl nr ne pr t (mTurn M nr).2) ∧
    (¬ (if dTurn t pr = -1 then 1 else 0) = 0 → RR nb nl nr ne pr t (mTurn M nr).2) := by
  have hT := (h.m0 0).turn
  have hv : 0 ≤ dTurn t pr ↔ ¬ dTurn t pr = -1 := by
    refine ⟨fun z y => by rw [y] at z; exact absurd z (by decide), fun z => ?_⟩
    unfold dTurn at z ⊢
    by_cases c : t 60 0 = -1
    · rw [if_pos c] at z; exact absurd rfl z
    · rw [if_neg c] at z ⊢
      rcases dTn_val (t := t) (pr := pr) 10 0 with d | ⟨r, hr, d⟩
      · exact absurd d z
      · obtain ⟨f, f1, f2⟩ := (h.2.2.2.2.1 r (h.lt hr)).2.2.1
        rw [d, f2]
        exact nI_pos' (by omega)
  unfold mTurn
  rw [← hT]
  by_cases c : dTurn t pr = -1
  · rw [if_pos c, if_neg (fun z => hv.mp z c)]
    exact ⟨mF_0, fun z => absurd z (by decide), fun _ => h.mf 1⟩
  · rw [if_neg c, if_pos (hv.mpr c)]
    exact ⟨pr_0 rfl, fun _ => ⟨rfl, h.m0 0⟩, fun z => absurd rfl z⟩
theorem op_isAlarm (h : RR nb nl nr ne pr t M) : b2i (¬ t 60 0 = -1) = M 27 0 := by
  rcases h.2.2.2.2.2.2.2.1 with ⟨a, b⟩ | ⟨f, f1, a, b, c⟩
  · rw [b2i_f (fun z => z a), b]
  · rw [b, b2i_t]
    intro z
    rw [a] at z
    exact absurd (show nI f < 0 by rw [z]; decide) (nI_pos (by omega))
theorem wsum_eq (hW : ∀ r, r < nr → t 40 r = mWb M r) : ∀ n, n ≤ nr → dWsum t n = mWsum M n
  | 0, _ => rfl
  | n + 1, hn => by rw [dWsum, mWsum, wsum_eq hW n (by omega), hW n (by omega)]
theorem RR.wsum (h : RR nb nl nr ne pr t M) : dWsum t nr = mWsum M nr := wsum_eq h.2.2.2.2.2.2.2.2.1 nr (Nat.le_refl _)
theorem RR.fig (h : RR nb nl nr ne pr t M) : RR nb nl nr ne pr t (if nI nr = 0 then tu (tu M 0 0 0) 0 0 1 else tu M 0 0 0) ∧ (if nI nr = 0 then tu (tu M 0 0 0) 0 0 1 else tu M 0 0 0) 0 0 = nI (if nI nr = 0 then 1 else 0) := by
  by_cases c : nI nr = 0
  · rw [if_pos c, if_pos c]; exact ⟨(h.m0 0).m0 1, tu_s⟩
  · rw [if_neg c, if_neg c]; exact ⟨h.m0 0, tu_s⟩
/-- the beginning -/
theorem ini_rows : ∀ n k, (¬ (k = 1 ∨ k = 3) → mIni n k = fun _ => 0) ∧ (k ≠ 60 → tIni n k = mIni n k) ∧ tIni n 60 = fun _ => -1
  | 0, k => ⟨fun _ => rfl, fun hk => by funext j; show (if k = 60 then -1 else 0) = (0 : Int32); rw [if_neg hk], rfl⟩
  | n + 1, k => by
    obtain ⟨h1, h2, h3⟩ := ini_rows n k
    refine ⟨fun hk => ?_, fun hk => ?_, ?_⟩
    · rw [mIni, tu_r (by omega), tu_r (by omega)]; exact h1 hk
    · rw [mIni, tIni]
      exact tu_cg (tu_cg (h2 hk))
    · rw [tIni, tu_r (by decide), tu_r (by decide)]; exact h3
theorem ini_3 : ∀ n f, f < n → mIni n 3 f = 100
  | 0, f, h => absurd h (by omega)
  | n + 1, f, h => by
    rw [mIni]
    by_cases c : f = n
    · subst c; exact tu_s
    · rw [tu_i c, tu_i c]; exact ini_3 n f (by omega)
theorem RR.ini : RR 0 0 0 0 [] (tIni 10) (mIni 10) := by
  have hm : ∀ k, ¬ (k = 1 ∨ k = 3) → mIni 10 k = fun _ => 0 := fun k => (ini_rows 10 k).1
  have ht : ∀ k, k ≠ 60 → tIni 10 k = mIni 10 k := fun k => (ini_rows 10 k).2.1
  refine ⟨⟨fun k hk => ht k (by rintro rfl; cases hk), ?_, ?_, ?_⟩, ⟨?_, ?_, ?_, ?_, ?_⟩, rfl, ⟨by decide, by decide, by decide, by decide⟩, fun r hr => absurd hr (by omega), fun r hr => absurd hr (by omega), ⟨fun l _ => ⟨?_, ?_⟩, fun b _ => ?_, fun b hb => absurd hb (by omega), fun f hf => ⟨100, by decide, by decide, ?_⟩⟩, Or.inl ⟨?_, ?_⟩, fun r hr => absurd hr (by omega), fun r hr c => ?_⟩
  case refine_15 => rw [if_neg (by omega)]; rfl
  case refine_12 => rw [ht 3 (by decide), ini_3 10 f hf]; rfl
  case refine_13 => rw [(ini_rows 10 60).2.2]
  all_goals first | rw [ht _ (by decide), hm _ (by decide)] | rw [ht _ (by decide)] | (rw [hm _ (by decide)]; rfl) | rw [hm _ (by decide)]
end RZ9
