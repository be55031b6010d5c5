/-! the desk's picture: its cells' names are A kind place; kinds: 0 the desk, 1 its arrays of numbers, 2 its lists, 3 their arrays, 4 badges, 5 lifts, 6 riders, 7 entries -/
def dN (nb nl nr ne : Nat) (k : Nat) : Nat := match k with
  | 0 => 1
  | 1 => 3
  | 2 => 5
  | 3 => 5
  | 4 => nb
  | 5 => nl
  | 6 => nr
  | 7 => ne
  | _ => 0
def lref (A : Nat → Nat → Nat) (x : Int32) : Option Nat := if x < 0 then none else some (A 5 x.toNatClampNeg)
def dO (A : Nat → Nat → Nat) (t : TT) (k i : Nat) : Nat × List Value := match k with
  | 0 => (7, [.ref (A 1 0), .ref (A 1 1), .ref (A 1 2), .ref (A 2 0), .ref (A 2 1), .ref (A 2 2), .ref (A 2 3), .ref (A 2 4), .int (t 23 i), .int (t 60 i), .int (t 24 i), .int (t 25 i)])
  | 4 => (3, [.int (t 4 i), .int (t 5 i)])
  | 5 => (5, [.int (nI i), .int (t 17 i), .int (t 18 i), .int (t 21 i), .int (t 20 i), .int (t 19 i)])
  | 6 => (6, [.int (nI i), .ref (A 4 (t 7 i).toNatClampNeg), .int (t 8 i), .int (t 9 i), .int (t 13 i), va_rf (lref A (t 10 i)), .int (t 40 i)])
  | _ => (4, [.int (t 50 i), .int (t 51 i), .int (t 52 i)])
/-- a row's kind -/
def dK (row : Nat) : Nat := match row with
  | 1 => 1 | 2 => 1 | 3 => 1 | 4 => 4 | 5 => 4 | 7 => 6 | 8 => 6 | 9 => 6 | 10 => 6 | 13 => 6 | 40 => 6
  | 17 => 5 | 18 => 5 | 19 => 5 | 20 => 5 | 21 => 5 | 23 => 0 | 60 => 0 | 24 => 0 | 25 => 0 | 50 => 7 | 51 => 7 | 52 => 7 | _ => 9
abbrev kOb (k : Nat) : Prop := k = 0 ∨ 4 ≤ k ∧ k ≤ 7
theorem kOb_c {k : Nat} (h : kOb k) : k = 0 ∨ k = 4 ∨ k = 5 ∨ k = 6 ∨ k = 7 := by unfold kOb at h; omega
theorem dO_tu {A : Nat → Nat → Nat} {t : TT} {row i k2 i2 : Nat} {v : Int32} (h : ¬ (k2 = dK row ∧ i2 = i)) (hk : kOb k2) : dO A (tu t row i v) k2 i2 = dO A t k2 i2 := by
  have rd : ∀ r2, dK r2 = k2 → tu t row i v r2 i2 = t r2 i2 := fun r2 hr => by
    unfold tu
    rw [if_neg]
    rintro ⟨rfl, rfl⟩
    exact h ⟨hr.symm, rfl⟩
  rcases kOb_c hk with rfl | rfl | rfl | rfl | rfl
  · simp only [dO, rd 23 rfl, rd 60 rfl, rd 24 rfl, rd 25 rfl]
  · simp only [dO, rd 4 rfl, rd 5 rfl]
  · simp only [dO, rd 17 rfl, rd 18 rfl, rd 19 rfl, rd 20 rfl, rd 21 rfl]
  · simp only [dO, rd 7 rfl, rd 8 rfl, rd 9 rfl, rd 10 rfl, rd 13 rfl, rd 40 rfl]
  · simp only [dO, rd 50 rfl, rd 51 rfl, rd 52 rfl]
theorem dO_cg {A B : Nat → Nat → Nat} {t : TT} (h1 : B 1 = A 1) (h2 : B 2 = A 2) (h4 : B 4 = A 4) (h5 : B 5 = A 5) (k i : Nat) : dO B t k i = dO A t k i := by
  unfold dO lref
  simp only [h1, h2, h4, h5]
def dEl (A : Nat → Nat → Nat) (nb nl nr ne : Nat) (pr : List Nat) (j : Nat) : List Nat := match j with
  | 0 => (List.range nb).map (A 4)
  | 1 => (List.range nl).map (A 5)
  | 2 => (List.range nr).map (A 6)
  | 3 => pr.map (A 6)
  | _ => (List.range ne).map (A 7)
theorem dEl_mem {A : Nat → Nat → Nat} {nb nl nr ne j y : Nat} {pr : List Nat} (hp : ∀ r, r ∈ pr → r < nr) (hy : y ∈ dEl A nb nl nr ne pr j) : ∃ k i, (4 ≤ k ∧ k ≤ 7) ∧ i < dN nb nl nr ne k ∧ y = A k i := by
  have key : ∀ (n k : Nat), 4 ≤ k → k ≤ 7 → n = dN nb nl nr ne k → y ∈ (List.range n).map (A k) → ∃ k i, (4 ≤ k ∧ k ≤ 7) ∧ i < dN nb nl nr ne k ∧ y = A k i := by
    intro n k h1 h2 hn h
    obtain ⟨i, hi, rfl⟩ := List.mem_map.mp h
    exact ⟨k, i, ⟨h1, h2⟩, by rw [← hn]; exact List.mem_range.mp hi, rfl⟩
  unfold dEl at hy
  split at hy
  · exact key nb 4 (by decide) (by decide) rfl hy
  · exact key nl 5 (by decide) (by decide) rfl hy
  · exact key nr 6 (by decide) (by decide) rfl hy
  · obtain ⟨i, hi, rfl⟩ := List.mem_map.mp hy
    exact ⟨6, i, ⟨by decide, by decide⟩, hp i hi, rfl⟩
  · exact key ne 7 (by decide) (by decide) rfl hy
theorem dEl_cg {A B : Nat → Nat → Nat} {nb nl nr ne : Nat} {pr : List Nat} (h4 : B 4 = A 4) (h5 : B 5 = A 5) (h6 : B 6 = A 6) {j : Nat} (hj : j < 4) : dEl B nb nl nr ne pr j = dEl A nb nl nr ne pr j := by
  match j, hj with
  | 0, _ => simp only [dEl, h4]
  | 1, _ => simp only [dEl, h5]
  | 2, _ => simp only [dEl, h6]
  | 3, _ => simp only [dEl, h6]
  | j + 4, h => exact absurd h (by omega)
/-- what the numbers keep to -/
def DI (nb nl nr ne : Nat) (pr : List Nat) (t : TT) : Prop :=
  (nb ≤ 8 ∧ nl ≤ 3 ∧ nr ≤ 30 ∧ ne ≤ 99 ∧ pr.length ≤ 30) ∧ (∀ r, r ∈ pr → r < nr) ∧
  (∀ i, i < nr → t 10 i = -1 ∨ ∃ q, q < nl ∧ t 10 i = nI q) ∧ (∀ i, i < nr → ∃ b, b < nb ∧ t 7 i = nI b) ∧
  (∀ i, i < nr → narrow .char (.int (t 13 i)) = .int (t 13 i)) ∧ (∀ i, i < nl → narrow .char (.int (t 20 i)) = .int (t 20 i)) ∧
  (∀ i, i < nl → narrow .boolean (.int (t 21 i)) = .int (t 21 i)) ∧ (∀ i, i < nb → narrow .boolean (.int (t 5 i)) = .int (t 5 i))
def PDc (g : cG) (F : Nat → Prop) (B : Nat → Nat → Nat) (nm : Nat → Nat × Nat) (nb nl nr ne : Nat) (pr : List Nat) (t : TT) (H : Heap) : Prop :=
  (∀ k i, i < dN nb nl nr ne k → k ≠ 3 → nm (B k i) = (k, i) ∧ ¬ F (B k i)) ∧
  (∀ k i, i < dN nb nl nr ne k → kOb k → va_at g.1 vwCl (B k i, .inr (dO B t k i)) H) ∧
  (∀ j, j < 3 → va_at g.1 vwCl (B 1 j, .inl (g.2.1 0, 10, .inl (t (j + 1)))) H) ∧
  (∀ j, j < 5 → (B 3 j ≠ g.2.2.1 → nm (B 3 j) = (3, j)) ∧ AL g F (B 2 j) (B 3 j) (dEl B nb nl nr ne pr j) H) ∧
  F g.2.2.1 ∧ (∀ q, F q → q < H.size) ∧ DI nb nl nr ne pr t
def PD (g : cG) (F : Nat → Prop) (A : Nat → Nat → Nat) (nb nl nr ne : Nat) (pr : List Nat) (t : TT) (H : Heap) : Prop :=
  ∃ (B : Nat → Nat → Nat) (nm : Nat → Nat × Nat), (∀ k, k ≠ 3 → k ≠ 7 → B k = A k) ∧ PDc g F B nm nb nl nr ne pr t H
theorem AL.kept {g : cG} {F : Nat → Prop} {a q : Nat} {els : List Nat} {H H1 : Heap} (h : AL g F a q els H) (ha : H1[a]? = H[a]?) (hq : ¬ F q → H1[q]? = H[q]?) (he : ∀ y ∈ els, AO g y H1) : AL g F a q els H1 := by
  obtain ⟨h1, ⟨md, h2⟩, h3, h4⟩ := h
  refine ⟨h1, ⟨md, h2.kept ha⟩, he, ?_⟩
  rcases h4 with h4 | ⟨h5, h6, cap, f, h7, h8⟩
  · exact Or.inl h4
  · exact Or.inr ⟨h5, h6, cap, f, h7.kept (hq h5), h8⟩
theorem dO_ci {A : Nat → Nat → Nat} {t : TT} {k i : Nat} (h1 : 4 ≤ k) (h2 : k ≤ 7) : (dO A t k i).1 = 3 ∨ (dO A t k i).1 = 4 ∨ (dO A t k i).1 = 5 ∨ (dO A t k i).1 = 6 := by
  obtain rfl | rfl | rfl | rfl : k = 4 ∨ k = 5 ∨ k = 6 ∨ k = 7 := by omega
  · exact Or.inl rfl
  · exact Or.inr (Or.inr (Or.inl rfl))
  · exact Or.inr (Or.inr (Or.inr rfl))
  · exact Or.inr (Or.inl rfl)
theorem dAO {g : cG} {A : Nat → Nat → Nat} {t : TT} {k i : Nat} {H : Heap} (h1 : 4 ≤ k) (h2 : k ≤ 7) (h : va_at g.1 vwCl (A k i, .inr (dO A t k i)) H) : AO g (A k i) H := ⟨(dO A t k i).1, (dO A t k i).2, dO_ci h1 h2, h⟩
section PDL
variable {g : cG} {F : Nat → Prop} {A B : Nat → Nat → Nat} {nm : Nat → Nat × Nat} {nb nl nr ne : Nat} {pr : List Nat} {t t2 : TT} {H H1 : Heap}
theorem PDc.ap (h : PDc g F B nm nb nl nr ne pr t H) {k i k2 i2 : Nat} (hk : k ≠ 3) (hi : i < dN nb nl nr ne k) (hk2 : k2 ≠ 3) (hi2 : i2 < dN nb nl nr ne k2) (hn : ¬ (k2 = k ∧ i2 = i)) : B k2 i2 ≠ B k i := fun e => by
  have x := (h.1 k2 i2 hi2 hk2).1
  rw [e, (h.1 k i hi hk).1] at x
  have y := Prod.mk.inj x
  exact hn ⟨y.1.symm, y.2.symm⟩
theorem PDc.ap3 (h : PDc g F B nm nb nl nr ne pr t H) {k i j : Nat} (hk : k ≠ 3) (hi : i < dN nb nl nr ne k) (hj : j < 5) (hF : ¬ F (B 3 j)) : B 3 j ≠ B k i := fun e => by
  have x := (h.2.2.2.1 j hj).1 (fun z => hF (by rw [z]; exact h.2.2.2.2.1))
  rw [e, (h.1 k i hi hk).1] at x
  exact hk (Prod.mk.inj x).1
theorem PDc.ap33 (h : PDc g F B nm nb nl nr ne pr t H) {j j2 : Nat} (hj : j < 5) (hj2 : j2 < 5) (hF : ¬ F (B 3 j)) (hF2 : ¬ F (B 3 j2)) (hn : j2 ≠ j) : B 3 j2 ≠ B 3 j := fun e => by
  have x := (h.2.2.2.1 j2 hj2).1 (fun z => hF2 (by rw [z]; exact h.2.2.2.2.1))
  have y := (h.2.2.2.1 j hj).1 (fun z => hF (by rw [z]; exact h.2.2.2.2.1))
  rw [e, y] at x
  exact hn (Prod.mk.inj x).2.symm
theorem PDc.put (h : PDc g F B nm nb nl nr ne pr t H) {k i : Nat} (hi : i < dN nb nl nr ne k) (hk : kOb k) (ht : ∀ k2 i2, ¬ (k2 = k ∧ i2 = i) → kOb k2 → dO B t2 k2 i2 = dO B t k2 i2) (ha : ∀ j, j < 3 → t2 (j + 1) = t (j + 1)) (hd : DI nb nl nr ne pr t2) (hz : H.size ≤ H1.size)
    (e1 : va_at g.1 vwCl (B k i, .inr (dO B t2 k i)) H1) (oq : ∀ q, q ≠ B k i → H1[q]? = H[q]?) : PDc g F B nm nb nl nr ne pr t2 H1 := by
  have hk3 : k ≠ 3 := by unfold kOb at hk; omega
  have hob : ∀ k2 i2, i2 < dN nb nl nr ne k2 → kOb k2 → va_at g.1 vwCl (B k2 i2, .inr (dO B t2 k2 i2)) H1 := fun k2 i2 a b => by
    by_cases c : k2 = k ∧ i2 = i
    · obtain ⟨rfl, rfl⟩ := c; exact e1
    · rw [ht k2 i2 c b]
      exact (h.2.1 k2 i2 a b).kept (oq _ (h.ap hk3 hi (by unfold kOb at b; omega) a c))
  refine ⟨h.1, hob, fun j hj => ?_, fun j hj => ⟨(h.2.2.2.1 j hj).1, (h.2.2.2.1 j hj).2.kept (oq _ ?_) (fun hF => oq _ (h.ap3 hk3 hi hj hF)) (fun y hy => ?_)⟩, h.2.2.2.2.1, fun q hq => Nat.lt_of_lt_of_le (h.2.2.2.2.2.1 q hq) hz, hd⟩
  · rw [ha j hj]
    exact (h.2.2.1 j hj).kept (oq _ (h.ap hk3 hi (by decide) (by exact hj) (by unfold kOb at hk; omega)))
  · exact h.ap hk3 hi (by decide) (by exact hj) (by unfold kOb at hk; omega)
  · obtain ⟨k2, i2, a, b, rfl⟩ := dEl_mem hd.2.1 hy
    exact dAO a.1 a.2 (hob k2 i2 b (Or.inr a))
theorem PDc.aput (h : PDc g F B nm nb nl nr ne pr t H) {j i : Nat} {v : Int32} (hj : j < 3) (hz : H.size ≤ H1.size) (e1 : va_at g.1 vwCl (B 1 j, .inl (g.2.1 0, 10, .inl (upd (t (j + 1)) i v))) H1) (oq : ∀ q, q ≠ B 1 j → H1[q]? = H[q]?) : PDc g F B nm nb nl nr ne pr (tu t (j + 1) i v) H1 := by
  have hr : ∀ r, 3 < r → tu t (j + 1) i v r = t r := fun r hr => tu_r (by omega)
  have hK : ∀ k2 i2, kOb k2 → dO B (tu t (j + 1) i v) k2 i2 = dO B t k2 i2 := fun k2 i2 hk => dO_tu (fun z => by
    have : dK (j + 1) = 1 := by obtain rfl | rfl | rfl : j = 0 ∨ j = 1 ∨ j = 2 := by omega
                                all_goals rfl
    rw [this] at z
    unfold kOb at hk; omega) hk
  have hob : ∀ k2 i2, i2 < dN nb nl nr ne k2 → kOb k2 → va_at g.1 vwCl (B k2 i2, .inr (dO B (tu t (j + 1) i v) k2 i2)) H1 := fun k2 i2 a b => by
    rw [hK k2 i2 b]
    exact (h.2.1 k2 i2 a b).kept (oq _ (h.ap (by decide) (by exact hj) (by unfold kOb at b; omega) a (by unfold kOb at b; omega)))
  refine ⟨h.1, hob, fun j2 hj2 => ?_, fun j2 hj2 => ⟨(h.2.2.2.1 j2 hj2).1, (h.2.2.2.1 j2 hj2).2.kept (oq _ ?_) (fun hF => oq _ (h.ap3 (by decide) (by exact hj) hj2 hF)) (fun y hy => ?_)⟩, h.2.2.2.2.1, fun q hq => Nat.lt_of_lt_of_le (h.2.2.2.2.2.1 q hq) hz, ?_⟩
  · by_cases c : j2 = j
    · subst c; rw [tu_u]; exact e1
    · rw [tu_r (by omega)]
      exact (h.2.2.1 j2 hj2).kept (oq _ (h.ap (by decide) (by exact hj) (by decide) (by exact hj2) (by omega)))
  · exact h.ap (by decide) (by exact hj) (by decide) (by exact hj2) (by omega)
  · obtain ⟨k2, i2, a, b, rfl⟩ := dEl_mem h.2.2.2.2.2.2.2.1 hy
    exact dAO a.1 a.2 (hob k2 i2 b (Or.inr a))
  · obtain ⟨d1, d2, d3, d4, d5, d6, d7, d8⟩ := h.2.2.2.2.2.2
    exact ⟨d1, d2, by rw [hr 10 (by omega)]; exact d3, by rw [hr 7 (by omega)]; exact d4, by rw [hr 13 (by omega)]; exact d5, by rw [hr 20 (by omega)]; exact d6, by rw [hr 21 (by omega)]; exact d7, by rw [hr 5 (by omega)]; exact d8⟩
theorem PD.di (h : PD g F A nb nl nr ne pr t H) : DI nb nl nr ne pr t := by
  obtain ⟨B, nm, hB, hc⟩ := h
  exact hc.2.2.2.2.2.2
theorem PD.ob (h : PD g F A nb nl nr ne pr t H) {k i : Nat} (hi : i < dN nb nl nr ne k) (hk : kOb k) (h7 : k ≠ 7) : va_at g.1 vwCl (A k i, .inr (dO A t k i)) H ∧ ¬ F (A k i) := by
  obtain ⟨B, nm, hB, hc⟩ := h
  have hk3 : k ≠ 3 := by unfold kOb at hk; omega
  rw [← hB k hk3 h7, ← dO_cg (hB 1 (by decide) (by decide)) (hB 2 (by decide) (by decide)) (hB 4 (by decide) (by decide)) (hB 5 (by decide) (by decide))]
  exact ⟨hc.2.1 k i hi hk, (hc.1 k i hi hk3).2⟩
theorem PD.arr (h : PD g F A nb nl nr ne pr t H) {j : Nat} (hj : j < 3) : va_at g.1 vwCl (A 1 j, .inl (g.2.1 0, 10, .inl (t (j + 1)))) H ∧ ¬ F (A 1 j) := by
  obtain ⟨B, nm, hB, hc⟩ := h
  rw [← hB 1 (by decide) (by decide)]
  exact ⟨hc.2.2.1 j hj, (hc.1 1 j (by exact hj) (by decide)).2⟩
theorem PD.al (h : PD g F A nb nl nr ne pr t H) {j : Nat} (hj : j < 4) : ∃ q, AL g F (A 2 j) q (dEl A nb nl nr ne pr j) H := by
  obtain ⟨B, nm, hB, hc⟩ := h
  refine ⟨B 3 j, ?_⟩
  rw [← hB 2 (by decide) (by decide), ← dEl_cg (hB 4 (by decide) (by decide)) (hB 5 (by decide) (by decide)) (hB 6 (by decide) (by decide)) hj]
  exact (hc.2.2.2.1 j (by omega)).2
/-- a list's length -/
def dLn (nb nl nr ne : Nat) (pr : List Nat) (j : Nat) : Nat := match j with
  | 0 => nb
  | 1 => nl
  | 2 => nr
  | 3 => pr.length
  | _ => ne
theorem dEl_len (j : Nat) : (dEl A nb nl nr ne pr j).length = dLn nb nl nr ne pr j := by
  unfold dEl dLn
  split <;> simp
theorem PD.alo (h : PD g F A nb nl nr ne pr t H) {j : Nat} (hj : j < 5) : ∃ md q, va_at g.1 vwCl (A 2 j, alO md q (dLn nb nl nr ne pr j)) H := by
  obtain ⟨B, nm, hB, hc⟩ := h
  obtain ⟨md, h1⟩ := (hc.2.2.2.1 j hj).2.2.1
  rw [← hB 2 (by decide) (by decide)]
  rw [dEl_len] at h1
  exact ⟨md, _, h1⟩
theorem PD.inj (h : PD g F A nb nl nr ne pr t H) {k i i2 : Nat} (hk : k ≠ 3) (h7 : k ≠ 7) (hi : i < dN nb nl nr ne k) (hi2 : i2 < dN nb nl nr ne k) (he : A k i = A k i2) : i = i2 := by
  obtain ⟨B, nm, hB, hc⟩ := h
  rw [← hB k hk h7] at he
  exact Decidable.byContradiction (fun c => hc.ap hk hi2 hk hi (fun z => c z.2) he)
theorem PD.put (h : PD g F A nb nl nr ne pr t H) {k i row : Nat} {x : Int32} (hi : i < dN nb nl nr ne k) (hk : kOb k) (h7 : k ≠ 7) (hr : dK row = k) (hd : DI nb nl nr ne pr (tu t row i x)) (hz : H.size ≤ H1.size)
    (e1 : va_at g.1 vwCl (A k i, .inr (dO A (tu t row i x) k i)) H1) (oq : ∀ q, q ≠ A k i → H1[q]? = H[q]?) : PD g F A nb nl nr ne pr (tu t row i x) H1 := by
  obtain ⟨B, nm, hB, hc⟩ := h
  have hk3 : k ≠ 3 := by unfold kOb at hk; omega
  rw [← hB k hk3 h7] at oq
  rw [← hB k hk3 h7, ← dO_cg (hB 1 (by decide) (by decide)) (hB 2 (by decide) (by decide)) (hB 4 (by decide) (by decide)) (hB 5 (by decide) (by decide))] at e1
  refine ⟨B, nm, hB, hc.put hi hk (fun k2 i2 c b => dO_tu (by rw [hr]; exact c) b) (fun j hj => tu_r (fun z => ?_)) hd hz e1 oq⟩
  subst hr
  rw [← z] at hk
  obtain rfl | rfl | rfl : j = 0 ∨ j = 1 ∨ j = 2 := by omega
  all_goals exact absurd hk (by decide)
theorem PD.putg (h : PD g F A nb nl nr ne pr t H) {k i : Nat} (hi : i < dN nb nl nr ne k) (hk : kOb k) (h7 : k ≠ 7) (ht : ∀ (C : Nat → Nat → Nat) k2 i2, ¬ (k2 = k ∧ i2 = i) → kOb k2 → dO C t2 k2 i2 = dO C t k2 i2) (ha : ∀ j, j < 3 → t2 (j + 1) = t (j + 1)) (hd : DI nb nl nr ne pr t2) (hz : H.size ≤ H1.size)
    (e1 : va_at g.1 vwCl (A k i, .inr (dO A t2 k i)) H1) (oq : ∀ q, q ≠ A k i → H1[q]? = H[q]?) : PD g F A nb nl nr ne pr t2 H1 := by
  obtain ⟨B, nm, hB, hc⟩ := h
  have hk3 : k ≠ 3 := by unfold kOb at hk; omega
  rw [← hB k hk3 h7] at oq
  rw [← hB k hk3 h7, ← dO_cg (hB 1 (by decide) (by decide)) (hB 2 (by decide) (by decide)) (hB 4 (by decide) (by decide)) (hB 5 (by decide) (by decide))] at e1
  exact ⟨B, nm, hB, hc.put hi hk (fun k2 i2 c b => ht B k2 i2 c b) ha hd hz e1 oq⟩
theorem PD.fs (h : PD g F A nb nl nr ne pr t H) : ∀ q, F q → q < H.size := by
  obtain ⟨B, nm, hB, hc⟩ := h
  exact hc.2.2.2.2.2.1
theorem PD.aput (h : PD g F A nb nl nr ne pr t H) {j i : Nat} {v : Int32} (hj : j < 3) (hz : H.size ≤ H1.size) (e1 : va_at g.1 vwCl (A 1 j, .inl (g.2.1 0, 10, .inl (upd (t (j + 1)) i v))) H1) (oq : ∀ q, q ≠ A 1 j → H1[q]? = H[q]?) : PD g F A nb nl nr ne pr (tu t (j + 1) i v) H1 := by
  obtain ⟨B, nm, hB, hc⟩ := h
  rw [← hB 1 (by decide) (by decide)] at e1 oq
  exact ⟨B, nm, hB, hc.aput hj hz e1 oq⟩
theorem lref_iff (h : PD g F A nb nl nr ne pr t H) {i q : Nat} (hi : i < nr) (hq : q < nl) : lref A (t 10 i) = some (A 5 q) ↔ t 10 i = nI q := by
  have hl := h.di.1.2.1
  rcases h.di.2.2.1 i hi with e | ⟨q2, hq2, e⟩
  · rw [e]
    constructor
    · intro z; exact absurd z (by rw [lref, if_pos (by decide)]; intro z; cases z)
    · intro z
      exact absurd z (fun z9 => absurd (show nI q < 0 by rw [← z9]; decide) (nI_pos (by omega)))
  · rw [e, lref, if_neg (nI_pos (by omega)), nI_clamp (by omega)]
    constructor
    · intro z
      have z2 := h.inj (k := 5) (by decide) (by decide) (by exact hq2) (by exact hq) (Option.some.inj z)
      rw [z2]
    · intro z
      rw [(nI_eq (by omega) (by omega)).mp z]
end PDL
