/-! a lift, a badge, a rider more -/
section ADDR
variable {p : Program} {l : Launch} {e : Env} {R : Room} {s : State} {m : MethodId} {args : Array Value} {below : List Frame} {meth : Method} {c : Code} {H : Heap} {locs : List Loc} {cells slots : Nat} {Q : State → Prop}
variable {cc : ByteArray} {pc nL : Nat} {ls : Array Slot} {rest : List Value} {g : cG} {F : Nat → Prop} {A : Nat → Nat → Nat} {nb nl nr ne z : Nat} {pr : List Nat} {t : TT}
theorem d_addLift (E : EN p s m c cc nL args RX4 g F) (hS : va_S (nF F) s.heap H locs) (hP : PDn g F A nb nl nr ne pr t z H) {x : Int32} (hz : va_at g.1 vwCl (z, .inr (5, [.int (nI nl), .int x, .int 0, .int 1, .int 115, .int 0])) H) (hn9 : nl < 3) {lv : List (Nat × Value)} (hls : lv_has ls nL lv) (hR : Nat.ble 7 R.frames = true ∧ Nat.ble 194 R.locals = true) (hf : cells + 1 ≤ R.cells ∧ slots + 150 ≤ R.slots) (hd : decode cc pc = .ok (.invokevirtual 72, 3)) (hst : Nat.ble (rest.map fun v => v.category).sum 8 = true)
    (kk : ∀ (A2 : Nat → Nat → Nat) (H1 : Heap) (locs1 : List Loc), (∀ k, k ≠ 5 → A2 k = A k) → (∀ i, i < nl → A2 5 i = A 5 i) → A2 5 nl = z → va_S (nF F) s.heap H1 locs1 → PD g F A2 nb (nl + 1) nr ne pr (tAddL t nl x) H1 → W p l e R s m args below meth c H1 locs1 (cells + 1) (slots + 150) Q (F0 m (pc + 3) ls (.int 1 :: rest))) : W p l e R s m args below meth c H locs cells slots Q (F0 m pc ls (.ref z :: .ref (A 2 1) :: rest)) := by
  have hdi := hP.pd.di
  have hd1 := hdi.1
  refine d_addN E hS hP (j := 1) (kz := 5) (iz := nl) (nb2 := nb) (nl2 := (nl + 1)) (nr2 := nr) (t2 := tAddL t nl x) hz (by decide) (by decide) (fun k i a => ?_) (Nat.lt_irrefl _) (fun B k i a b => (tAddL_ot a b).trans (dO_new hdi (by decide) (Nat.lt_irrefl _) a b)) (fun j2 hj2 => ?_) (fun B j2 h1 h2 => ?_) (fun B => map_s (fun i hi => upB_n (Nat.ne_of_lt hi)) upB_s) ?_ (by simp [dO, tAddL, tu]) (by decide) (by show nl ≤ 99; omega) hls hR hf hd hst (fun H1 locs1 hS1 hP1 => kk (upB A 5 nl z) H1 locs1 (fun k hk => upB_k hk) (fun i hi => upB_n (Nat.ne_of_lt hi)) upB_s hS1 hP1)
  · unfold dN at a ⊢
    split at a <;> first | exact Or.inl a | (by_cases h : i < nl; exact Or.inl h; exact Or.inr ⟨rfl, by omega⟩)
  · unfold tAddL
    rw [tu_r (by omega), tu_r (by omega), tu_r (by omega), tu_r (by omega), tu_r (by omega)]
  · refine Eq.trans ?_ (dEl_new (z := z) (kz := 5) (iz := nl) hdi (by decide) (Nat.lt_irrefl _) h1)
    obtain rfl | rfl | rfl | rfl := show j2 = 0 ∨ j2 = 2 ∨ j2 = 3 ∨ j2 = 4 by omega
    all_goals rfl
  · obtain ⟨d1, d2, d3, d4, d5, d6, d7, d8⟩ := hdi
    have e : ∀ k, k ≠ 17 → k ≠ 18 → k ≠ 21 → k ≠ 20 → k ≠ 19 → tAddL t nl x k = t k := fun k a b c d f => by unfold tAddL; rw [tu_r f, tu_r d, tu_r c, tu_r b, tu_r a]
    refine ⟨⟨d1.1, hn9, d1.2.2⟩, d2, by rw [e 10 (by decide) (by decide) (by decide) (by decide) (by decide)]; exact fun i hi => (d3 i hi).imp id (fun ⟨q, h1, h2⟩ => ⟨q, by omega, h2⟩), by rw [e 7 (by decide) (by decide) (by decide) (by decide) (by decide)]; exact d4, by rw [e 13 (by decide) (by decide) (by decide) (by decide) (by decide)]; exact d5, all_s (fun i hi => ?_) ?_, all_s (fun i hi => ?_) ?_, by rw [e 5 (by decide) (by decide) (by decide) (by decide) (by decide)]; exact d8⟩
    · have : tAddL t nl x 20 i = t 20 i := by simp [tAddL, tu, Nat.ne_of_lt hi]
      rw [this]; exact d6 i hi
    · have : tAddL t nl x 20 nl = 115 := by simp [tAddL, tu]
      rw [this]; rfl
    · have : tAddL t nl x 21 i = t 21 i := by simp [tAddL, tu, Nat.ne_of_lt hi]
      rw [this]; exact d7 i hi
    · have : tAddL t nl x 21 nl = 1 := by simp [tAddL, tu]
      rw [this]; rfl
theorem d_addBadge (E : EN p s m c cc nL args RX4 g F) (hS : va_S (nF F) s.heap H locs) (hP : PDn g F A nb nl nr ne pr t z H) {x : Int32} (hz : va_at g.1 vwCl (z, .inr (3, [.int x, .int 0])) H) (hn9 : nb < 8) {lv : List (Nat × Value)} (hls : lv_has ls nL lv) (hR : Nat.ble 7 R.frames = true ∧ Nat.ble 194 R.locals = true) (hf : cells + 1 ≤ R.cells ∧ slots + 150 ≤ R.slots) (hd : decode cc pc = .ok (.invokevirtual 72, 3)) (hst : Nat.ble (rest.map fun v => v.category).sum 8 = true)
    (kk : ∀ (A2 : Nat → Nat → Nat) (H1 : Heap) (locs1 : List Loc), (∀ k, k ≠ 4 → A2 k = A k) → (∀ i, i < nb → A2 4 i = A 4 i) → A2 4 nb = z → va_S (nF F) s.heap H1 locs1 → PD g F A2 (nb + 1) nl nr ne pr (tAddB t nb x) H1 → W p l e R s m args below meth c H1 locs1 (cells + 1) (slots + 150) Q (F0 m (pc + 3) ls (.int 1 :: rest))) : W p l e R s m args below meth c H locs cells slots Q (F0 m pc ls (.ref z :: .ref (A 2 0) :: rest)) := by
  have hdi := hP.pd.di
  have hd1 := hdi.1
  refine d_addN E hS hP (j := 0) (kz := 4) (iz := nb) (nb2 := (nb + 1)) (nl2 := nl) (nr2 := nr) (t2 := tAddB t nb x) hz (by decide) (by decide) (fun k i a => ?_) (Nat.lt_irrefl _) (fun B k i a b => (tAddB_ot a b).trans (dO_new hdi (by decide) (Nat.lt_irrefl _) a b)) (fun j2 hj2 => ?_) (fun B j2 h1 h2 => ?_) (fun B => map_s (fun i hi => upB_n (Nat.ne_of_lt hi)) upB_s) ?_ (by simp [dO, tAddB, tu]) (by decide) (by show nb ≤ 99; omega) hls hR hf hd hst (fun H1 locs1 hS1 hP1 => kk (upB A 4 nb z) H1 locs1 (fun k hk => upB_k hk) (fun i hi => upB_n (Nat.ne_of_lt hi)) upB_s hS1 hP1)
  · unfold dN at a ⊢
    split at a <;> first | exact Or.inl a | (by_cases h : i < nb; exact Or.inl h; exact Or.inr ⟨rfl, by omega⟩)
  · unfold tAddB
    rw [tu_r (by omega), tu_r (by omega)]
  · refine Eq.trans ?_ (dEl_new (z := z) (kz := 4) (iz := nb) hdi (by decide) (Nat.lt_irrefl _) h1)
    obtain rfl | rfl | rfl | rfl := show j2 = 1 ∨ j2 = 2 ∨ j2 = 3 ∨ j2 = 4 by omega
    all_goals rfl
  · obtain ⟨d1, d2, d3, d4, d5, d6, d7, d8⟩ := hdi
    have e : ∀ k, k ≠ 4 → k ≠ 5 → tAddB t nb x k = t k := fun k a b => by unfold tAddB; rw [tu_r b, tu_r a]
    refine ⟨⟨hn9, d1.2⟩, d2, by rw [e 10 (by decide) (by decide)]; exact d3, by rw [e 7 (by decide) (by decide)]; exact fun i hi => (d4 i hi).imp (fun b h => ⟨by omega, h.2⟩), by rw [e 13 (by decide) (by decide)]; exact d5, by rw [e 20 (by decide) (by decide)]; exact d6, by rw [e 21 (by decide) (by decide)]; exact d7, all_s (fun i hi => ?_) ?_⟩
    · have : tAddB t nb x 5 i = t 5 i := by simp [tAddB, tu, Nat.ne_of_lt hi]
      rw [this]; exact d8 i hi
    · have : tAddB t nb x 5 nb = 0 := by simp [tAddB, tu]
      rw [this]; rfl
theorem d_addRider (E : EN p s m c cc nL args RX4 g F) (hS : va_S (nF F) s.heap H locs) (hP : PDn g F A nb nl nr ne pr t z H) {b : Nat} {x y : Int32} (hz : va_at g.1 vwCl (z, .inr (6, [.int (nI nr), .ref (A 4 b), .int x, .int y, .int 119, .null, .int 0])) H) (hn9 : nr < 30) (hb9 : b < nb) {lv : List (Nat × Value)} (hls : lv_has ls nL lv) (hR : Nat.ble 7 R.frames = true ∧ Nat.ble 194 R.locals = true) (hf : cells + 1 ≤ R.cells ∧ slots + 150 ≤ R.slots) (hd : decode cc pc = .ok (.invokevirtual 72, 3)) (hst : Nat.ble (rest.map fun v => v.category).sum 8 = true)
    (kk : ∀ (A2 : Nat → Nat → Nat) (H1 : Heap) (locs1 : List Loc), (∀ k, k ≠ 6 → A2 k = A k) → (∀ i, i < nr → A2 6 i = A 6 i) → A2 6 nr = z → va_S (nF F) s.heap H1 locs1 → PD g F A2 nb nl (nr + 1) ne pr (tAddR t nr b x y) H1 → W p l e R s m args below meth c H1 locs1 (cells + 1) (slots + 150) Q (F0 m (pc + 3) ls (.int 1 :: rest))) : W p l e R s m args below meth c H locs cells slots Q (F0 m pc ls (.ref z :: .ref (A 2 2) :: rest)) := by
  have hdi := hP.pd.di
  have hd1 := hdi.1
  refine d_addN E hS hP (j := 2) (kz := 6) (iz := nr) (nb2 := nb) (nl2 := nl) (nr2 := (nr + 1)) (t2 := tAddR t nr b x y) hz (by decide) (by decide) (fun k i a => ?_) (Nat.lt_irrefl _) (fun B k i a b => (tAddR_ot a b).trans (dO_new hdi (by decide) (Nat.lt_irrefl _) a b)) (fun j2 hj2 => ?_) (fun B j2 h1 h2 => ?_) (fun B => map_s (fun i hi => upB_n (Nat.ne_of_lt hi)) upB_s) ?_ (by simp [dO, tAddR, tu, lref_m1, va_rf, nI_clamp (show b < 2 ^ 31 by omega), upB_k (show (4 : Nat) ≠ 6 by decide)]) (by decide) (by show nr ≤ 99; omega) hls hR hf hd hst (fun H1 locs1 hS1 hP1 => kk (upB A 6 nr z) H1 locs1 (fun k hk => upB_k hk) (fun i hi => upB_n (Nat.ne_of_lt hi)) upB_s hS1 hP1)
  · unfold dN at a ⊢
    split at a <;> first | exact Or.inl a | (by_cases h : i < nr; exact Or.inl h; exact Or.inr ⟨rfl, by omega⟩)
  · unfold tAddR
    rw [tu_r (by omega), tu_r (by omega), tu_r (by omega), tu_r (by omega), tu_r (by omega), tu_r (by omega)]
  · refine Eq.trans ?_ (dEl_new (z := z) (kz := 6) (iz := nr) hdi (by decide) (Nat.lt_irrefl _) h1)
    obtain rfl | rfl | rfl | rfl := show j2 = 0 ∨ j2 = 1 ∨ j2 = 3 ∨ j2 = 4 by omega
    all_goals rfl
  · obtain ⟨d1, d2, d3, d4, d5, d6, d7, d8⟩ := hdi
    have e : ∀ k, k ≠ 7 → k ≠ 8 → k ≠ 9 → k ≠ 13 → k ≠ 10 → k ≠ 40 → tAddR t nr b x y k = t k := fun k a1 a2 a3 a4 a5 a6 => by unfold tAddR; rw [tu_r a6, tu_r a5, tu_r a4, tu_r a3, tu_r a2, tu_r a1]
    refine ⟨⟨d1.1, d1.2.1, hn9, d1.2.2.2⟩, fun r hr => by have := d2 r hr; omega, all_s (fun i hi => ?_) ?_, all_s (fun i hi => ?_) ?_, all_s (fun i hi => ?_) ?_, by rw [e 20 (by decide) (by decide) (by decide) (by decide) (by decide) (by decide)]; exact d6, by rw [e 21 (by decide) (by decide) (by decide) (by decide) (by decide) (by decide)]; exact d7, by rw [e 5 (by decide) (by decide) (by decide) (by decide) (by decide) (by decide)]; exact d8⟩
    · have : tAddR t nr b x y 10 i = t 10 i := by simp [tAddR, tu, Nat.ne_of_lt hi]
      rw [this]; exact d3 i hi
    · have : tAddR t nr b x y 10 nr = -1 := by simp [tAddR, tu]
      rw [this]; exact Or.inl rfl
    · have : tAddR t nr b x y 7 i = t 7 i := by simp [tAddR, tu, Nat.ne_of_lt hi]
      rw [this]; exact d4 i hi
    · have : tAddR t nr b x y 7 nr = nI b := by simp [tAddR, tu]
      rw [this]; exact ⟨b, hb9, rfl⟩
    · have : tAddR t nr b x y 13 i = t 13 i := by simp [tAddR, tu, Nat.ne_of_lt hi]
      rw [this]; exact d5 i hi
    · have : tAddR t nr b x y 13 nr = 119 := by simp [tAddR, tu]
      rw [this]; rfl
end ADDR
