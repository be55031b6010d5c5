/-! adding to a list, taking out of one; new objects -/
def PDh (g : cG) (F : Nat → Prop) (B : Nat → Nat → Nat) (nm : Nat → Nat × Nat) (nb nl nr ne : Nat) (pr : List Nat) (t : TT) (j : Nat) (H : Heap) : Prop :=
  (∀ k i, i < dN nb nl nr ne k → k ≠ 3 → nm (B k i) = (k, i) ∧ ¬ F (B k i)) ∧
  (∀ k i, i < dN nb nl nr ne k → kOb k → va_at g.1 vwCl (B k i, .inr (dO B t k i)) H) ∧
  (∀ j2, j2 < 3 → va_at g.1 vwCl (B 1 j2, .inl (g.2.1 0, 10, .inl (t (j2 + 1)))) H) ∧
  (∀ j2, j2 < 5 → (B 3 j2 ≠ g.2.2.1 → nm (B 3 j2) = (3, j2)) ∧ (j2 ≠ j → AL g F (B 2 j2) (B 3 j2) (dEl B nb nl nr ne pr j2) H)) ∧
  F g.2.2.1 ∧ (∀ q, F q → q < H.size)
section PH
variable {g : cG} {F : Nat → Prop} {A B B2 : Nat → Nat → Nat} {nm : Nat → Nat × Nat} {nb nl nr ne nb2 nl2 nr2 ne2 j : Nat} {pr pr2 : List Nat} {t t2 : TT} {H H1 : Heap}
theorem PDc.hole (h : PDc g F B nm nb nl nr ne pr t H) : PDh g F B nm nb nl nr ne pr t j H :=
  ⟨h.1, h.2.1, h.2.2.1, fun j2 hj2 => ⟨(h.2.2.2.1 j2 hj2).1, fun _ => (h.2.2.2.1 j2 hj2).2⟩, h.2.2.2.2.1, h.2.2.2.2.2.1⟩
theorem PDh.ap (h : PDh g F B nm nb nl nr ne pr t j H) {k i k2 i2 : Nat} (hk : k ≠ 3) (hi : i < dN nb nl nr ne k) (hk2 : k2 ≠ 3) (hi2 : i2 < dN nb nl nr ne k2) (hn : ¬ (k2 = k ∧ i2 = i)) : B k2 i2 ≠ B k i := fun e => by
  have x := (h.1 k2 i2 hi2 hk2).1
  rw [e, (h.1 k i hi hk).1] at x
  have y := Prod.mk.inj x
  exact hn ⟨y.1.symm, y.2.symm⟩
theorem PDh.ap3 (h : PDh g F B nm nb nl nr ne pr t j H) {k i j2 : Nat} (hk : k ≠ 3) (hi : i < dN nb nl nr ne k) (hj : j2 < 5) (hF : ¬ F (B 3 j2)) : B k i ≠ B 3 j2 := fun e => by
  have x := (h.2.2.2.1 j2 hj).1 (fun z => hF (by rw [z]; exact h.2.2.2.2.1))
  rw [← e, (h.1 k i hi hk).1] at x
  exact hk (Prod.mk.inj x).1
theorem PDh.ap33 (h : PDh g F B nm nb nl nr ne pr t j H) {j1 j2 : Nat} (hj : j1 < 5) (hj2 : j2 < 5) (hF : ¬ F (B 3 j1)) (hF2 : ¬ F (B 3 j2)) (hn : j2 ≠ j1) : B 3 j2 ≠ B 3 j1 := fun e => by
  have x := (h.2.2.2.1 j2 hj2).1 (fun z => hF2 (by rw [z]; exact h.2.2.2.2.1))
  have y := (h.2.2.2.1 j1 hj).1 (fun z => hF (by rw [z]; exact h.2.2.2.2.1))
  rw [e, y] at x
  exact hn (Prod.mk.inj x).2.symm
/-- the whole again, with a new list j and its array at q1 -/
theorem PDh.close (h : PDh g F B nm nb nl nr ne pr t j H) (hj : j < 5) {q1 : Nat} (hq1 : q1 = B 3 j ∨ H.size ≤ q1) (hpr : ∀ j2, j2 < 5 → j2 ≠ j → dEl B nb nl nr ne pr2 j2 = dEl B nb nl nr ne pr j2) (hd : DI nb nl nr ne pr2 t)
    (hal : AL g F (B 2 j) q1 (dEl B nb nl nr ne pr2 j) H1) (oq : ∀ q, q < H.size → q ≠ B 2 j → (q = B 3 j → F q) → H1[q]? = H[q]?) (hz : H.size ≤ H1.size) (hlt : ∀ j2, j2 < 5 → j2 ≠ j → ¬ F (B 3 j2) → B 3 j2 < H.size) (hl2 : ∀ j2, j2 < 5 → B 2 j2 < H.size) :
    ∃ (B2 : Nat → Nat → Nat) (nm2 : Nat → Nat × Nat), (∀ k, k ≠ 3 → B2 k = B k) ∧ PDc g F B2 nm2 nb nl nr ne pr2 t H1 := by
  have keep : ∀ k i, i < dN nb nl nr ne k → k ≠ 3 → ¬ (k = 2 ∧ i = j) → B k i < H.size → H1[B k i]? = H[B k i]? := fun k i a b c d =>
    oq _ d (h.ap (k := 2) (i := j) (by decide) (by exact hj) b a c) (fun e => Classical.byContradiction (p := F (B k i)) (fun z => h.ap3 b a hj (by rw [← e]; exact z) e))
  generalize hB2 : (fun k i => if k = 3 ∧ i = j then q1 else B k i : Nat → Nat → Nat) = B2
  generalize hn2 : (fun x => if H.size ≤ x then (3, j) else nm x : Nat → Nat × Nat) = nm2
  have e1 : ∀ k, k ≠ 3 → B2 k = B k := fun k hk => by rw [← hB2]; funext i; simp [hk]
  have e3 : ∀ j2, j2 ≠ j → B2 3 j2 = B 3 j2 := fun j2 hj2 => by rw [← hB2]; simp [hj2]
  have e3j : B2 3 j = q1 := by rw [← hB2]; simp
  have en : ∀ x, x < H.size → nm2 x = nm x := fun x hx => by rw [← hn2]; simp [Nat.not_le.mpr hx]
  have eo : ∀ k i, dO B2 t k i = dO B t k i := fun k i => dO_cg (e1 1 (by decide)) (e1 2 (by decide)) (e1 4 (by decide)) (e1 5 (by decide)) k i
  have ee : ∀ j2, dEl B2 nb nl nr ne pr2 j2 = dEl B nb nl nr ne pr2 j2 := fun j2 => by unfold dEl; simp only [e1 4 (by decide), e1 5 (by decide), e1 6 (by decide), e1 7 (by decide)]
  have lts : ∀ k i, i < dN nb nl nr ne k → k ≠ 3 → B k i < H.size := fun k i a b => by
    by_cases c1 : k = 1
    · subst c1; exact (h.2.2.1 i a).lt
    · by_cases c2 : k = 2
      · subst c2; exact hl2 i a
      · refine (h.2.1 k i a ?_).lt
        have : k ≤ 7 := by
          refine Nat.le_of_not_lt (fun z => ?_)
          unfold dN at a
          split at a <;> omega
        unfold kOb; omega
  have hob : ∀ k i, i < dN nb nl nr ne k → kOb k → va_at g.1 vwCl (B2 k i, .inr (dO B2 t k i)) H1 := fun k i a b => by
    have hk3 : k ≠ 3 := by unfold kOb at b; omega
    rw [eo, e1 k hk3]
    exact (h.2.1 k i a b).kept (keep k i a hk3 (by unfold kOb at b; omega) (lts k i a hk3))
  refine ⟨B2, nm2, e1, fun k i a b => ?_, hob, fun j2 hj2 => ?_, fun j2 hj2 => ⟨fun he => ?_, ?_⟩, h.2.2.2.2.1, fun q hq => Nat.lt_of_lt_of_le (h.2.2.2.2.2 q hq) hz, hd⟩
  · rw [e1 k b, en _ (lts k i a b)]; exact h.1 k i a b
  · rw [e1 1 (by decide)]
    exact (h.2.2.1 j2 hj2).kept (keep 1 j2 (by exact hj2) (by decide) (by omega) (lts 1 j2 (by exact hj2) (by decide)))
  · by_cases c : j2 = j
    · subst c
      rw [e3j] at he ⊢
      rcases Nat.lt_or_ge q1 H.size with hq | hq
      · rcases hq1 with rfl | hq1
        · rw [en _ hq]; exact (h.2.2.2.1 j2 hj2).1 he
        · exact absurd hq (by omega)
      · rw [← hn2]; simp [hq]
    · rw [e3 j2 c] at he ⊢
      have h9 := (h.2.2.2.1 j2 hj2).2 c
      have hlt2 : B 3 j2 < H.size := by
        rcases h9.2.2.2 with ⟨-, z⟩ | ⟨z, -⟩
        · exact absurd z he
        · exact hlt j2 hj2 c z
      rw [en _ hlt2]; exact (h.2.2.2.1 j2 hj2).1 he
  · rw [ee, e1 2 (by decide)]
    by_cases c : j2 = j
    · subst c; rw [e3j]; exact hal
    · rw [e3 j2 c, hpr j2 hj2 c]
      refine ((h.2.2.2.1 j2 hj2).2 c).kept (keep 2 j2 (by exact hj2) (by decide) (by omega) (lts 2 j2 (by exact hj2) (by decide))) (fun hF => ?_) (fun y hy => ?_)
      · exact oq _ (hlt j2 hj2 c hF) (fun e => h.ap3 (k := 2) (i := j) (by decide) (by exact hj) hj2 hF e.symm) (fun e => Classical.byContradiction (p := F (B 3 j2)) (fun z => h.ap33 hj hj2 (by rw [← e]; exact z) z c e))
      · rw [← hpr j2 hj2 c] at hy
        obtain ⟨k2, i2, a, b, rfl⟩ := dEl_mem hd.2.1 hy
        have hk3 : k2 ≠ 3 := by omega
        have q := hob k2 i2 b (Or.inr a)
        rw [e1 k2 hk3] at q
        exact ⟨(dO B2 t k2 i2).1, (dO B2 t k2 i2).2, dO_ci a.1 a.2, q⟩
/-- a new object in the picture -/
theorem PDh.birth (h : PDh g F B nm nb nl nr ne pr t j H) {z kz iz : Nat} (hkz : 4 ≤ kz ∧ kz ≤ 7) (hdn : ∀ k i, i < dN nb2 nl2 nr2 ne2 k → i < dN nb nl nr ne k ∨ (k = kz ∧ i = iz)) (hiz : ¬ iz < dN nb nl nr ne kz) (hzF : ¬ F z)
    (hz : ∀ k i, i < dN nb nl nr ne k → k ≠ 3 → B k i ≠ z) (hz3 : ∀ j2, j2 < 5 → B 3 j2 ≠ z) (hB2 : B2 = fun k i => if k = kz ∧ i = iz then z else B k i)
    (ht : ∀ k i, i < dN nb nl nr ne k → kOb k → dO B2 t2 k i = dO B t k i) (ha : ∀ j2, j2 < 3 → t2 (j2 + 1) = t (j2 + 1)) (hel : ∀ j2, j2 < 5 → j2 ≠ j → dEl B2 nb2 nl2 nr2 ne2 pr j2 = dEl B nb nl nr ne pr j2)
    (hc : va_at g.1 vwCl (z, .inr (dO B2 t2 kz iz)) H) : ∃ nm2, PDh g F B2 nm2 nb2 nl2 nr2 ne2 pr t2 j H := by
  have eB : ∀ k i, ¬ (k = kz ∧ i = iz) → B2 k i = B k i := fun k i c => by rw [hB2]; simp only [if_neg c]
  have eZ : B2 kz iz = z := by rw [hB2]; simp
  refine ⟨fun x => if x = z then (kz, iz) else nm x, fun k i a b => ?_, fun k i a b => ?_, fun j2 hj2 => ?_, fun j2 hj2 => ⟨fun he => ?_, fun c => ?_⟩, h.2.2.2.2.1, h.2.2.2.2.2⟩
  · by_cases c : k = kz ∧ i = iz
    · obtain ⟨rfl, rfl⟩ := c
      rw [eZ]; exact ⟨by simp, hzF⟩
    · have a2 := (hdn k i a).resolve_right c
      rw [eB k i c]
      exact ⟨by simp only [if_neg (hz k i a2 b)]; exact (h.1 k i a2 b).1, (h.1 k i a2 b).2⟩
  · by_cases c : k = kz ∧ i = iz
    · obtain ⟨rfl, rfl⟩ := c
      rw [eZ]; exact hc
    · have a2 := (hdn k i a).resolve_right c
      rw [eB k i c, ht k i a2 b]
      exact h.2.1 k i a2 b
  · rw [eB 1 j2 (by omega), ha j2 hj2]
    exact h.2.2.1 j2 hj2
  · rw [eB 3 j2 (by omega)] at he ⊢
    simp only [if_neg (hz3 j2 hj2)]
    exact (h.2.2.2.1 j2 hj2).1 he
  · rw [hel j2 hj2 c, eB 3 j2 (by omega), eB 2 j2 (by omega)]
    exact (h.2.2.2.1 j2 hj2).2 c
end PH
section DL
variable {p : Program} {l : Launch} {e : Env} {R : Room} {s : State} {m : MethodId} {args : Array Value} {below : List Frame} {meth : Method} {c : Code} {H : Heap} {locs : List Loc} {cells slots : Nat} {Q : State → Prop}
variable {cc : ByteArray} {pc nL : Nat} {ls : Array Slot} {rest : List Value} {g : cG} {F F1 : Nat → Prop} {H0 : Heap}
variable {A : Nat → Nat → Nat} {nb nl nr ne : Nat} {pr : List Nat} {t : TT}
/-- the cells that a call on the list at a with its array at q leaves alone -/
abbrev fL (F : Nat → Prop) (a q sz : Nat) : Nat → Prop := fun z => F z ∨ (z < sz ∧ z ≠ a ∧ (z = q → F q))
theorem AL.toF {a q : Nat} {els : List Nat} {sz : Nat} (h : AL g F a q els H) : AL g (fL F a q sz) a q els H := by
  obtain ⟨h1, h2, h3, h4⟩ := h
  refine ⟨fun z => z.elim h1 (fun z => z.2.1 rfl), h2, h3, ?_⟩
  rcases h4 with h4 | ⟨h5, h6, h7⟩
  · exact Or.inl h4
  · exact Or.inr ⟨fun z => z.elim h5 (fun z => h5 (z.2.2 rfl)), h6, h7⟩
theorem AL.ofF {a q q1 : Nat} {els : List Nat} {sz : Nat} (h : AL g (fL F a q sz) a q1 els H) : AL g F a q1 els H := by
  obtain ⟨h1, h2, h3, h4⟩ := h
  refine ⟨fun z => h1 (Or.inl z), h2, h3, ?_⟩
  rcases h4 with h4 | ⟨h5, h6, h7⟩
  · exact Or.inl h4
  · exact Or.inr ⟨fun z => h5 (Or.inl z), h6, h7⟩
theorem d_add (E : EN p s m c cc nL args RX4 g F) (hS : va_S (nF F) s.heap H locs) {a q x : Nat} {els : List Nat} (hal : AL g F a q els H) (hfs : ∀ z, F z → z < H.size) (hx : AO g x H) (hxa : x ≠ a) (hxq : ¬ F q → x ≠ q) (hy : ∀ y ∈ els, y ≠ a ∧ (¬ F q → y ≠ q)) (hn : els.length ≤ 99) {lv : List (Nat × Value)} (hls : lv_has ls nL lv) (hR : Nat.ble 7 R.frames = true ∧ Nat.ble 194 R.locals = true) (hf : cells + 1 ≤ R.cells ∧ slots + 150 ≤ R.slots) (hd : decode cc pc = .ok (.invokevirtual 72, 3)) (hst : Nat.ble (rest.map fun v => v.category).sum 8 = true := by rfl)
    (kk : ∀ (q1 : Nat) (H1 : Heap) (locs1 : List Loc), (q1 = q ∨ H.size ≤ q1) → AL g F a q1 (els ++ [x]) H1 → (∀ z, z < H.size → z ≠ a → (z = q → F z) → H1[z]? = H[z]?) → H.size ≤ H1.size → va_S (nF F) s.heap H1 locs1 → W p l e R s m args below meth c H1 locs1 (cells + 1) (slots + 150) Q (F0 m (pc + 3) ls (.int 1 :: rest))) : W p l e R s m args below meth c H locs cells slots Q (F0 m pc ls (.ref x :: .ref a :: rest)) := by
  have inF : ∀ z, z < H.size → z ≠ a → (¬ F q → z ≠ q) → fL F a q H.size z := fun z h1 h2 h3 => Or.inr ⟨h1, h2, fun e => Classical.byContradiction (p := F q) (fun n => h3 n e)⟩
  refine ct_VF (F1 := fL F a q H.size) (fun z h => Or.inl h) E hS (c_AL_add l g (fL F a q H.size) a q x H.size els (fun z hz => hz.elim (hfs z) (fun z => z.1)) (inF x hx.lt hxa hxq) (fun y h9 => inF y (hal.2.2.1 y h9).lt (hy y h9).1 (hy y h9).2) hn) ok_Jx4a65c_add_9ea2d lk_X4_72 ⟨rfl, hal.toF, hx⟩ (AL.recv E.2.2.2.2.2 hal) rfl hls hR hst hf hd rfl (fun v9 H1 locs1 hv9 hS1 hz hfr => ?_)
  obtain ⟨rfl, q1, h1, h2⟩ := hv9
  exact kk q1 H1 locs1 h1 h2.ofF (fun z h3 h4 h5 => hfr z h3 (Or.inr ⟨h3, h4, fun e => by rw [← e]; exact h5 e⟩)) hz hS1
theorem d_rem (E : EN p s m c cc nL args RX4 g F) (hS : va_S (nF F) s.heap H locs) {a q i y : Nat} {x : Int32} {els : List Nat} (hxi : x = nI i) (hal : AL g F a q els H) (hfs : ∀ z, F z → z < H.size) (hyi : els[i]? = some y) (hy : ∀ y ∈ els, y ≠ a ∧ (¬ F q → y ≠ q)) (hn : els.length ≤ 99) {lv : List (Nat × Value)} (hls : lv_has ls nL lv) (hR : Nat.ble 3 R.frames = true ∧ Nat.ble 113 R.locals = true) (hf : cells ≤ R.cells ∧ slots ≤ R.slots) (hd : decode cc pc = .ok (.invokevirtual 284, 3)) (hst : Nat.ble (rest.map fun v => v.category).sum 8 = true := by rfl)
    (kk : ∀ (H1 : Heap) (locs1 : List Loc), AL g F a q (els.eraseIdx i) H1 → (∀ z, z < H.size → z ≠ a → (z = q → F z) → H1[z]? = H[z]?) → H.size ≤ H1.size → va_S (nF F) s.heap H1 locs1 → W p l e R s m args below meth c H1 locs1 cells slots Q (F0 m (pc + 3) ls (.ref y :: rest))) : W p l e R s m args below meth c H locs cells slots Q (F0 m pc ls (.int x :: .ref a :: rest)) := by
  subst hxi
  have inF : ∀ z, z < H.size → z ≠ a → (¬ F q → z ≠ q) → fL F a q H.size z := fun z h1 h2 h3 => Or.inr ⟨h1, h2, fun e => Classical.byContradiction (p := F q) (fun n => h3 n e)⟩
  refine ct_VF (F1 := fL F a q H.size) (fun z h => Or.inl h) E hS (c_AL_remove l g (fL F a q H.size) a q i y H.size els hyi (fun z hz => hz.elim (hfs z) (fun z => z.1)) (fun y h9 => inF y (hal.2.2.1 y h9).lt (hy y h9).1 (hy y h9).2) ((List.getElem?_eq_some_iff.mp hyi).1) hn) ok_Jx4a65c_remove_915e3 lk_X4_284 ⟨rfl, hal.toF⟩ (AL.recv E.2.2.2.2.2 hal) rfl hls hR hst hf hd rfl (fun v9 H1 locs1 hv9 hS1 hz hfr => ?_)
  obtain ⟨rfl, h2⟩ := hv9
  exact kk H1 locs1 h2.ofF (fun z h3 h4 h5 => hfr z h3 (Or.inr ⟨h3, h4, fun e => by rw [← e]; exact h5 e⟩)) hz hS1
/-- is a rider in a lift, does one wait for it -/
theorem d_isIn (E : EN p s m c cc nL args RX4 g F) (hS : va_S (nF F) s.heap H locs) (hP : PD g F A nb nl nr ne pr t H) {r q : Nat} (hr : r < nr) (hq : q < nl) {lv : List (Nat × Value)} (hls : lv_has ls nL lv) (hR : Nat.ble 1 R.frames = true ∧ Nat.ble 21 R.locals = true) (hf : cells ≤ R.cells ∧ slots ≤ R.slots) (hd : decode cc pc = .ok (.invokevirtual 231, 3)) (hst : Nat.ble (rest.map fun v => v.category).sum 8 = true := by rfl)
    (kk : ∀ (locs1 : List Loc), va_S (nF F) s.heap H locs1 → W p l e R s m args below meth c H locs1 cells slots Q (F0 m (pc + 3) ls (.int (b2i (t 13 r = 97 ∧ t 10 r = nI q)) :: rest))) : W p l e R s m args below meth c H locs cells slots Q (F0 m pc ls (.ref (A 5 q) :: .ref (A 6 r) :: rest)) := by
  refine ct_VN E hS (c_X3_isIn l g F (A 6 r) (A 5 q) (t 13 r) (lref A (t 10 r)) (fun X => X = H) (fun H9 h9 => by subst h9; exact ⟨_, (hP.ob (k := 6) hr (by decide) (by decide)).1, rfl, rfl⟩)) ok_X3_isIn mn_X4_231 rfl (hP.recvK E.2.2.2.2.2 (k := 6) hr (by decide) (by decide) kcX3 rfl) rfl hls hR hst hf hd rfl (fun v9 H1 locs1 hv9 hS1 hz => ?_)
  obtain ⟨rfl, rfl⟩ := hv9
  have e1 : b2i (t 13 r = 97 ∧ lref A (t 10 r) = some (A 5 q)) = b2i (t 13 r = 97 ∧ t 10 r = nI q) := by simp only [lref_iff hP hr hq]
  rw [e1]
  exact kk locs1 hS1
theorem d_waitsFor (E : EN p s m c cc nL args RX4 g F) (hS : va_S (nF F) s.heap H locs) (hP : PD g F A nb nl nr ne pr t H) {r q : Nat} (hr : r < nr) (hq : q < nl) {lv : List (Nat × Value)} (hls : lv_has ls nL lv) (hR : Nat.ble 1 R.frames = true ∧ Nat.ble 21 R.locals = true) (hf : cells ≤ R.cells ∧ slots ≤ R.slots) (hd : decode cc pc = .ok (.invokevirtual 256, 3)) (hst : Nat.ble (rest.map fun v => v.category).sum 8 = true := by rfl)
    (kk : ∀ (locs1 : List Loc), va_S (nF F) s.heap H locs1 → W p l e R s m args below meth c H locs1 cells slots Q (F0 m (pc + 3) ls (.int (b2i (t 13 r = 119 ∧ t 10 r = nI q)) :: rest))) : W p l e R s m args below meth c H locs cells slots Q (F0 m pc ls (.ref (A 5 q) :: .ref (A 6 r) :: rest)) := by
  refine ct_VN E hS (c_X3_waitsFor l g F (A 6 r) (A 5 q) (t 13 r) (lref A (t 10 r)) (fun X => X = H) (fun H9 h9 => by subst h9; exact ⟨_, (hP.ob (k := 6) hr (by decide) (by decide)).1, rfl, rfl⟩)) ok_X3_waitsFor mn_X4_256 rfl (hP.recvK E.2.2.2.2.2 (k := 6) hr (by decide) (by decide) kcX3 rfl) rfl hls hR hst hf hd rfl (fun v9 H1 locs1 hv9 hS1 hz => ?_)
  obtain ⟨rfl, rfl⟩ := hv9
  have e1 : b2i (t 13 r = 119 ∧ lref A (t 10 r) = some (A 5 q)) = b2i (t 13 r = 119 ∧ t 10 r = nI q) := by simp only [lref_iff hP hr hq]
  rw [e1]
  exact kk locs1 hS1
end DL
