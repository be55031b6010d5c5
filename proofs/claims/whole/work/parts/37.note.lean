/-! the picture over a heap that only grows; noting; taking out of the present -/
theorem er_map {f : Nat → Nat} : ∀ (pr : List Nat) (k : Nat), (pr.map f).eraseIdx k = (pr.eraseIdx k).map f
  | [], _ => rfl
  | _ :: _, 0 => rfl
  | x :: pr, k + 1 => by
    show f x :: (pr.map f).eraseIdx k = f x :: (pr.eraseIdx k).map f
    rw [er_map pr k]
theorem pk_pred (j : Nat) : nI j + (-1) = nI j - 1 := (Int32.sub_eq_add_neg _ _).symm
theorem pk_predS (j : Nat) : nI (j + 1) - 1 = nI j := by rw [← nI_1, Int32.add_sub_cancel]
theorem pk_pred0 {k : Nat} (hk : k < 1000) (h : nI k - 1 < 0) : k = 0 := by
  rw [Int32.lt_iff_toInt_lt, pred_toInt hk] at h
  have : (0 : Int32).toInt = 0 := rfl
  omega
section PK
variable {g : cG} {F : Nat → Prop} {A B B2 : Nat → Nat → Nat} {nm : Nat → Nat × Nat} {nb nl nr ne nb2 nl2 nr2 ne2 j : Nat} {pr pr2 : List Nat} {t t2 : TT} {H H1 : Heap}
theorem PDc.lt2 (h : PDc g F B nm nb nl nr ne pr t H) {k i : Nat} (hk : k ≠ 3) (hi : i < dN nb nl nr ne k) : B k i < H.size := by
  by_cases c1 : k = 1
  · subst c1; exact (h.2.2.1 i hi).lt
  · by_cases c2 : k = 2
    · subst c2
      obtain ⟨md, z⟩ := (h.2.2.2.1 i hi).2.2.1
      exact z.lt
    · refine (h.2.1 k i hi ?_).lt
      have : k ≤ 7 := by
        refine Nat.le_of_not_lt (fun z => ?_)
        unfold dN at hi
        split at hi <;> omega
      unfold kOb; omega
theorem PDc.lt3 (h : PDc g F B nm nb nl nr ne pr t H) {j2 : Nat} (hj : j2 < 5) : B 3 j2 < H.size := by
  rcases (h.2.2.2.1 j2 hj).2.2.2.2 with ⟨-, z⟩ | ⟨-, -, cap, f, z, -⟩
  · rw [z]; exact h.2.2.2.2.2.1 _ h.2.2.2.2.1
  · exact z.lt
theorem PDc.keep (h : PDc g F B nm nb nl nr ne pr t H) (oq : ∀ q, q < H.size → H1[q]? = H[q]?) (hz : H.size ≤ H1.size) : PDc g F B nm nb nl nr ne pr t H1 := by
  refine ⟨h.1, fun k i a b => (h.2.1 k i a b).kept (oq _ (h.2.1 k i a b).lt), fun j2 hj2 => (h.2.2.1 j2 hj2).kept (oq _ (h.2.2.1 j2 hj2).lt), fun j2 hj2 => ⟨(h.2.2.2.1 j2 hj2).1, ?_⟩, h.2.2.2.2.1, fun q hq => Nat.lt_of_lt_of_le (h.2.2.2.2.2.1 q hq) hz, h.2.2.2.2.2.2⟩
  exact (h.2.2.2.1 j2 hj2).2.kept (oq _ (h.lt2 (k := 2) (by decide) (by exact hj2))) (fun _ => oq _ (h.lt3 hj2)) (fun y hy => ((h.2.2.2.1 j2 hj2).2.2.2.1 y hy).kept (oq _ ((h.2.2.2.1 j2 hj2).2.2.2.1 y hy).lt))
theorem PD.keep (h : PD g F A nb nl nr ne pr t H) (oq : ∀ q, q < H.size → H1[q]? = H[q]?) (hz : H.size ≤ H1.size) : PD g F A nb nl nr ne pr t H1 := by
  obtain ⟨B, nm, hB, hc⟩ := h
  exact ⟨B, nm, hB, hc.keep oq hz⟩
/-- one object anew, over a heap that keeps the rest -/
theorem PD.putk (h : PD g F A nb nl nr ne pr t H) {k i : Nat} (hi : i < dN nb nl nr ne k) (hk : kOb k) (h7 : k ≠ 7) (ht : ∀ (C : Nat → Nat → Nat) k2 i2, ¬ (k2 = k ∧ i2 = i) → kOb k2 → dO C t2 k2 i2 = dO C t k2 i2) (ha : ∀ j, j < 3 → t2 (j + 1) = t (j + 1)) (hd : DI nb nl nr ne pr t2) (hz : H.size ≤ H1.size)
    (e1 : va_at g.1 vwCl (A k i, .inr (dO A t2 k i)) H1) (oq : ∀ q, q < H.size → q ≠ A k i → H1[q]? = H[q]?) : PD g F A nb nl nr ne pr t2 H1 := by
  obtain ⟨B, nm, hB, hc⟩ := h
  have hk3 : k ≠ 3 := by unfold kOb at hk; omega
  rw [← hB k hk3 h7] at oq
  rw [← hB k hk3 h7, ← dO_cg (hB 1 (by decide) (by decide)) (hB 2 (by decide) (by decide)) (hB 4 (by decide) (by decide)) (hB 5 (by decide) (by decide))] at e1
  refine ⟨B, nm, hB, ?_⟩
  have hob : ∀ k2 i2, i2 < dN nb nl nr ne k2 → kOb k2 → va_at g.1 vwCl (B k2 i2, .inr (dO B t2 k2 i2)) H1 := fun k2 i2 a b => by
    by_cases c : k2 = k ∧ i2 = i
    · obtain ⟨rfl, rfl⟩ := c; exact e1
    · rw [ht B k2 i2 c b]
      exact (hc.2.1 k2 i2 a b).kept (oq _ (hc.2.1 k2 i2 a b).lt (hc.ap hk3 hi (by unfold kOb at b; omega) a c))
  refine ⟨hc.1, hob, fun j hj => ?_, fun j hj => ⟨(hc.2.2.2.1 j hj).1, (hc.2.2.2.1 j hj).2.kept (oq _ (hc.lt2 (k := 2) (by decide) (by exact hj)) ?_) (fun hF => oq _ (hc.lt3 hj) (hc.ap3 hk3 hi hj hF)) (fun y hy => ?_)⟩, hc.2.2.2.2.1, fun q hq => Nat.lt_of_lt_of_le (hc.2.2.2.2.2.1 q hq) hz, hd⟩
  · rw [ha j hj]
    exact (hc.2.2.1 j hj).kept (oq _ (hc.2.2.1 j hj).lt (hc.ap hk3 hi (by decide) (by exact hj) (by unfold kOb at hk; omega)))
  · exact hc.ap hk3 hi (by decide) (by exact hj) (by unfold kOb at hk; omega)
  · obtain ⟨k2, i2, a, b, rfl⟩ := dEl_mem hd.2.1 hy
    exact dAO a.1 a.2 (hob k2 i2 b (Or.inr a))
theorem PDc.els (h : PDc g F B nm nb nl nr ne pr t H) {j2 : Nat} (hj : j2 < 5) : ∀ y ∈ dEl B nb nl nr ne pr j2, y ≠ B 2 j2 ∧ (¬ F (B 3 j2) → y ≠ B 3 j2) := by
  intro y hy
  obtain ⟨k, i, a, b, rfl⟩ := dEl_mem h.2.2.2.2.2.2.2.1 hy
  exact ⟨h.ap (k := 2) (i := j2) (by decide) (by exact hj) (by omega) b (by omega), fun hF => (h.ap3 (by omega) b hj hF).symm⟩
/-- a new object, in its list -/
theorem PDc.grow (h : PDc g F B nm nb nl nr ne pr t H) {kz iz z q1 : Nat} (hj : j < 5) (hkz : 4 ≤ kz ∧ kz ≤ 7) (hdn : ∀ k i, i < dN nb2 nl2 nr2 ne2 k → i < dN nb nl nr ne k ∨ (k = kz ∧ i = iz)) (hiz : ¬ iz < dN nb nl nr ne kz) (hzF : ¬ F z)
    (hzl : ∀ k i, i < dN nb nl nr ne k → k ≠ 3 → B k i < z) (hz3 : ∀ j2, j2 < 5 → B 3 j2 < z) (hB2 : B2 = fun k i => if k = kz ∧ i = iz then z else B k i)
    (ht : ∀ k i, i < dN nb nl nr ne k → kOb k → dO B2 t2 k i = dO B t k i) (ha : ∀ j2, j2 < 3 → t2 (j2 + 1) = t (j2 + 1)) (hel : ∀ j2, j2 < 5 → j2 ≠ j → dEl B2 nb2 nl2 nr2 ne2 pr j2 = dEl B nb nl nr ne pr j2) (hels : dEl B2 nb2 nl2 nr2 ne2 pr j = dEl B nb nl nr ne pr j ++ [z]) (hd : DI nb2 nl2 nr2 ne2 pr t2)
    (hc : va_at g.1 vwCl (z, .inr (dO B2 t2 kz iz)) H) (hq1 : q1 = B 3 j ∨ H.size ≤ q1) (hal : AL g F (B 2 j) q1 (dEl B nb nl nr ne pr j ++ [z]) H1) (oq : ∀ q, q < H.size → q ≠ B 2 j → (q = B 3 j → F q) → H1[q]? = H[q]?) (hz : H.size ≤ H1.size) :
    ∃ (B3 : Nat → Nat → Nat) (nm3 : Nat → Nat × Nat), (∀ k, k ≠ 3 → B3 k = B2 k) ∧ PDc g F B3 nm3 nb2 nl2 nr2 ne2 pr t2 H1 := by
  obtain ⟨nm2, h2⟩ := (h.hole (j := j)).birth hkz hdn hiz hzF (fun k i a b => Nat.ne_of_lt (hzl k i a b)) (fun j2 hj2 => Nat.ne_of_lt (hz3 j2 hj2)) hB2 ht ha hel hc
  have e2 : ∀ j2, B2 2 j2 = B 2 j2 := fun j2 => by rw [hB2]; simp only [if_neg (show ¬ (2 = kz ∧ j2 = iz) by omega)]
  have e3 : ∀ j2, B2 3 j2 = B 3 j2 := fun j2 => by rw [hB2]; simp only [if_neg (show ¬ (3 = kz ∧ j2 = iz) by omega)]
  exact h2.close hj (q1 := q1) (by rw [e3]; exact hq1) (fun _ _ _ => rfl) hd (by rw [e2, hels]; exact hal) (by rw [e2, e3]; exact oq) hz (fun j2 hj2 _ _ => by rw [e3]; exact h.lt3 hj2) (fun j2 hj2 => by rw [e2]; exact h.lt2 (k := 2) (by decide) (by exact hj2))
end PK
section NTR
variable {p : Program} {l : Launch} {e : Env} {R : Room} {s : State} {m : MethodId} {args : Array Value} {below : List Frame} {meth : Method} {c : Code} {H : Heap} {locs : List Loc} {cells slots : Nat} {Q : State → Prop}
variable {cc : ByteArray} {pc nL : Nat} {ls : Array Slot} {rest : List Value} {g : cG} {F F1 : Nat → Prop} {H0 : Heap}
variable {A : Nat → Nat → Nat} {nb nl nr ne : Nat} {pr : List Nat} {t : TT}
/-- out of the present -/
theorem d_remP (E : EN p s m c cc nL args RX4 g F) (hS : va_S (nF F) s.heap H locs) (hP : PD g F A nb nl nr ne pr t H) (k : Nat) {x : Int32} (hx : x = nI k) (hk : k < pr.length) {lv : List (Nat × Value)} (hls : lv_has ls nL lv) (hR : Nat.ble 3 R.frames = true ∧ Nat.ble 113 R.locals = true) (hf : cells ≤ R.cells ∧ slots ≤ R.slots) (hd : decode cc pc = .ok (.invokevirtual 284, 3)) (hst : Nat.ble (rest.map fun v => v.category).sum 8 = true := by rfl)
    (kk : ∀ (H1 : Heap) (locs1 : List Loc), va_S (nF F) s.heap H1 locs1 → PD g F A nb nl nr ne (pr.eraseIdx k) t H1 → W p l e R s m args below meth c H1 locs1 cells slots Q (F0 m (pc + 3) ls (.ref (A 6 (pg pr k)) :: rest))) : W p l e R s m args below meth c H locs cells slots Q (F0 m pc ls (.int x :: .ref (A 2 3) :: rest)) := by
  obtain ⟨B, nm, hB, hc⟩ := hP
  rw [← hB 6 (by decide) (by decide)] at kk
  rw [← hB 2 (by decide) (by decide)]
  have hyi : (dEl B nb nl nr ne pr 3)[k]? = some (B 6 (pg pr k)) := by
    show (pr.map (B 6))[k]? = _
    rw [List.getElem?_map, List.getElem?_eq_getElem hk, pg_of (List.getElem?_eq_getElem hk)]; rfl
  have hdi := hc.2.2.2.2.2.2
  refine d_rem E hS hx (hc.2.2.2.1 3 (by decide)).2 hc.2.2.2.2.2.1 hyi (hc.els (by decide)) (by rw [dEl_len]; show pr.length ≤ 99; have := hdi.1; omega) hls hR hf hd hst (fun H1 locs1 hal oq hz hS1 => kk H1 locs1 hS1 ?_)
  have hd2 : DI nb nl nr ne (pr.eraseIdx k) t := ⟨⟨hdi.1.1, hdi.1.2.1, hdi.1.2.2.1, hdi.1.2.2.2.1, by rw [er_len hk]; have := hdi.1; omega⟩, fun r hr => hdi.2.1 r (List.mem_of_mem_eraseIdx hr), hdi.2.2⟩
  obtain ⟨B2, nm2, e2, h2⟩ := (hc.hole (j := 3)).close (pr2 := pr.eraseIdx k) (by decide) (Or.inl rfl) (fun j2 hj2 hn => by
    unfold dEl
    split
    · rfl
    · rfl
    · rfl
    · exact absurd rfl hn
    · rfl) hd2 (by rw [show dEl B nb nl nr ne (pr.eraseIdx k) 3 = (dEl B nb nl nr ne pr 3).eraseIdx k from (er_map pr k).symm]; exact hal) oq hz (fun j2 hj2 _ _ => hc.lt3 hj2) (fun j2 hj2 => hc.lt2 (k := 2) (by decide) (by exact hj2))
  exact ⟨B2, nm2, fun k3 h3 h7 => (e2 k3 h3).trans (hB k3 h3 h7), h2⟩
/-- among the present -/
theorem d_addP (E : EN p s m c cc nL args RX4 g F) (hS : va_S (nF F) s.heap H locs) (hP : PD g F A nb nl nr ne pr t H) (r : Nat) (hr : r < nr) (hp : pr.length < 30) {lv : List (Nat × Value)} (hls : lv_has ls nL lv) (hR : Nat.ble 7 R.frames = true ∧ Nat.ble 194 R.locals = true) (hf : cells + 1 ≤ R.cells ∧ slots + 150 ≤ R.slots) (hd : decode cc pc = .ok (.invokevirtual 72, 3)) (hst : Nat.ble (rest.map fun v => v.category).sum 8 = true := by rfl)
    (kk : ∀ (H1 : Heap) (locs1 : List Loc), va_S (nF F) s.heap H1 locs1 → PD g F A nb nl nr ne (pr ++ [r]) t H1 → H.size ≤ H1.size → W p l e R s m args below meth c H1 locs1 (cells + 1) (slots + 150) Q (F0 m (pc + 3) ls (.int 1 :: rest))) : W p l e R s m args below meth c H locs cells slots Q (F0 m pc ls (.ref (A 6 r) :: .ref (A 2 3) :: rest)) := by
  obtain ⟨B, nm, hB, hc⟩ := hP
  rw [← hB 2 (by decide) (by decide), ← hB 6 (by decide) (by decide)]
  have hdi := hc.2.2.2.2.2.2
  refine d_add E hS (hc.2.2.2.1 3 (by decide)).2 hc.2.2.2.2.2.1 (dAO (k := 6) (by decide) (by decide) (hc.2.1 6 r hr (by decide))) (hc.ap (k := 2) (i := 3) (by decide) (by exact (by decide : 3 < 5)) (k2 := 6) (by decide) hr (by omega)) (fun hF => (hc.ap3 (k := 6) (by decide) hr (by decide) hF).symm) (hc.els (by decide)) (by rw [dEl_len]; show pr.length ≤ 99; omega) hls hR hf hd hst (fun q1 H1 locs1 hq1 hal oq hz hS1 => kk H1 locs1 hS1 ?_ hz)
  have hd2 : DI nb nl nr ne (pr ++ [r]) t := ⟨⟨hdi.1.1, hdi.1.2.1, hdi.1.2.2.1, hdi.1.2.2.2.1, by rw [List.length_append]; exact hp⟩, fun r2 hr2 => by
    rcases List.mem_append.mp hr2 with h | h
    · exact hdi.2.1 r2 h
    · rw [List.mem_singleton.mp h]; exact hr, hdi.2.2⟩
  obtain ⟨B2, nm2, e2, h2⟩ := (hc.hole (j := 3)).close (pr2 := pr ++ [r]) (q1 := q1) (by decide) hq1 (fun j2 hj2 hn => by
    unfold dEl
    split
    · rfl
    · rfl
    · rfl
    · exact absurd rfl hn
    · rfl) hd2 (by rw [show dEl B nb nl nr ne (pr ++ [r]) 3 = dEl B nb nl nr ne pr 3 ++ [B 6 r] from List.map_append]; exact hal) oq hz (fun j2 hj2 _ _ => hc.lt3 hj2) (fun j2 hj2 => hc.lt2 (k := 2) (by decide) (by exact hj2))
  exact ⟨B2, nm2, fun k3 h3 h7 => (e2 k3 h3).trans (hB k3 h3 h7), h2⟩
end NTR
theorem dNote_di {nb nl nr ne r : Nat} {pr : List Nat} {t : TT} (h : DI nb nl nr ne pr t) (hne : ne < 99) : DI nb nl nr (ne + 1) pr (dNote t ne r) := by
  have h2 : DI nb nl nr ne pr (dNote t ne r) := by
    unfold dNote
    exact h.p.p.p
  obtain ⟨d1, d2⟩ := h2
  exact ⟨⟨d1.1, d1.2.1, d1.2.2.1, hne, d1.2.2.2.2⟩, d2⟩
set_option maxHeartbeats 4000000 in
set_option maxRecDepth 100000 in
theorem c_X4_note (l : Launch) (g : cG) (F : Nat → Prop) (A : Nat → Nat → Nat) (nb nl nr ne : Nat) (pr : List Nat) (t : TT) (r : Nat) (hr9 : r < nr) (hne : ne < 99) : CT l yX4_note cX4_note 2 none 7 194 2 153 g F [.ref (A 0 0), .ref (A 6 r)] (PD g F A nb nl nr ne pr t) (fun v9 H9 => v9 = none ∧ PD g F A nb nl nr (ne + 1) pr (dNote t ne r) H9) := by
  refine CT.of (by decide) rfl ?_
  intro p e s m args below meth c E hr hk hnm hP ls hl
  have hS : va_S (nF F) s.heap s.heap [] := va_S.rf
  have hx := E.1
  have hb := E.2.1
  have hml := E.2.2.1
  have hown := E.2.2.2.1
  have hts := E.2.2.2.2.1
  have hG := E.2.2.2.2.2
  have hl : lv_has ls 2 [(0, .ref (A 0 0)), (1, .ref (A 6 r))] := hl
  refine lv_aload_n hx hb dX4_note_0 rfl (lv_at hl 0 rfl) ?_
  refine dg E hP 7 fk_X4_35 dX4_note_1 (v := .ref (A 2 4)) (kk := ?_)
  refine w_new (C := RX1) (T := TX1) (N := 3) (ci := 4) E ly_X1 tyX1 tyX1_ok kl_X4_238 is_X1 in_X1 rfl hS (fs := [.int 0, .int 0, .int 0]) (by decide +kernel) (Nat.le_of_ble_eq_true rfl) (Nat.le_of_ble_eq_true rfl) dX4_note_4 (fun H1 hz1 z1 o1 hS => ?_)
  have hP1 := hP.keep o1 (by omega)
  refine lv_dup hx hb dX4_note_7 rfl ?_
  refine lv_aload_n hx hb dX4_note_8 rfl (lv_at hl 1 rfl) ?_
  refine dgn E hP1 6 r hr9 kcX3 0 fn_X4_135 dX4_note_9 (v := .int (nI r)) (kk := ?_)
  refine lv_aload_n hx hb dX4_note_12 rfl (lv_at hl 1 rfl) ?_
  refine dgn E hP1 6 r hr9 kcX3 4 fn_X4_140 dX4_note_13 (v := .int (t 13 r)) (kk := ?_)
  refine lv_aload_n hx hb dX4_note_16 rfl (lv_at hl 0 rfl) ?_
  refine dg E hP1 8 fk_X4_38 dX4_note_17 (v := .int (t 23 0)) (kk := ?_)
  refine ct_INF (F1 := fun q => F q ∨ q ≠ s.heap.size) (fun q h => Or.inl h) E hS (c_X1_init l g (fun q => F q ∨ q ≠ s.heap.size) s.heap.size (nI r) (t 13 r) (t 23 0) (fun z => z.elim (fun z => absurd (hP.fs _ z) (Nat.lt_irrefl _)) (fun z => z rfl)) (hP.di.2.2.2.2.1 r hr9)) ok_X1_init mn_X4_240 hz1 rfl hl ⟨rfl, rfl⟩ rfl ⟨Nat.le_of_ble_eq_true rfl, Nat.le_of_ble_eq_true rfl⟩ dX4_note_20 rfl (fun v9 H2 locs hv9 hS hz9 hfr => ?_)
  obtain ⟨rfl, hz2⟩ := hv9
  have oq2 : ∀ q, q < s.heap.size → H2[q]? = s.heap[q]? := fun q hq => (hfr q (by omega) (Or.inr (by omega))).trans (o1 q hq)
  obtain ⟨B, nm, hB, hc⟩ := hP
  have hc2 := hc.keep oq2 (by omega)
  have hdi := hc.2.2.2.2.2.2
  rw [← hB 2 (by decide) (by decide)]
  have hlen : (dEl B nb nl nr ne pr 4).length = ne := dEl_len 4
  refine d_add E hS (hc2.2.2.2.1 4 (by decide)).2 hc2.2.2.2.2.2.1 ⟨4, _, Or.inr (Or.inl rfl), hz2⟩ (Nat.ne_of_gt (hc.lt2 (k := 2) (i := 4) (by decide) (by exact (by decide : 4 < 5)))) (fun _ => Nat.ne_of_gt (hc.lt3 (by decide))) (hc2.els (by decide)) (by omega) hl ⟨rfl, rfl⟩ ⟨Nat.le_of_ble_eq_true rfl, Nat.le_of_ble_eq_true rfl⟩ dX4_note_23 rfl (fun q1 H3 locs hq1 hal oq3 hz3 hS => ?_)
  refine lv_pop hx hb dX4_note_26 rfl ?_
  refine ct_vret E hr hk hS ⟨rfl, ?_⟩ dX4_note_27 (Nat.le_of_ble_eq_true rfl) (Nat.le_of_ble_eq_true rfl)
  generalize hB2 : (fun k i => if k = 7 ∧ i = ne then s.heap.size else B k i : Nat → Nat → Nat) = B2
  have eB : ∀ k, k ≠ 7 → B2 k = B k := fun k hk => by rw [← hB2]; funext i; simp only [if_neg (show ¬ (k = 7 ∧ i = ne) from fun z => hk z.1)]
  obtain ⟨B3, nm3, e3, h3⟩ := hc2.grow (j := 4) (kz := 7) (iz := ne) (z := s.heap.size) (nb2 := nb) (nl2 := nl) (nr2 := nr) (ne2 := ne + 1) (t2 := dNote t ne r) (by decide) (by decide) (fun k i a => by
      unfold dN at a ⊢
      split at a <;> first | exact Or.inl a | (by_cases h : i < ne; exact Or.inl h; exact Or.inr ⟨rfl, by omega⟩)) (Nat.lt_irrefl _) (fun z => absurd (hc.2.2.2.2.2.1 _ z) (Nat.lt_irrefl _)) (fun k i a b => hc.lt2 b a) (fun j2 hj2 => hc.lt3 hj2) hB2.symm
    (fun k i a b => by
      rw [dO_cg (eB 1 (by decide)) (eB 2 (by decide)) (eB 4 (by decide)) (eB 5 (by decide))]
      have hn : ¬ (k = 7 ∧ i = ne) := fun z => by rw [z.1, z.2] at a; exact Nat.lt_irrefl _ a
      unfold dNote
      rw [dO_tu hn b, dO_tu hn b, dO_tu hn b]) (fun j2 hj2 => dNote_k (by omega) (by omega) (by omega)) (fun j2 hj2 hn => by
      obtain rfl | rfl | rfl | rfl : j2 = 0 ∨ j2 = 1 ∨ j2 = 2 ∨ j2 = 3 := by omega
      all_goals simp only [dEl, eB 4 (by decide), eB 5 (by decide), eB 6 (by decide)]) (by
      show (List.range (ne + 1)).map (B2 7) = (List.range ne).map (B 7) ++ [s.heap.size]
      rw [List.range_succ, List.map_append]
      congr 1
      · exact List.map_congr_left (fun i hi => by rw [← hB2]; exact if_neg (fun z => by rw [z.2] at hi; exact absurd (List.mem_range.mp hi) (Nat.lt_irrefl _)))
      · rw [← hB2]; simp) (dNote_di hdi hne) (by
      have e9 : dO B2 (dNote t ne r) 7 ne = (4, [.int (nI r), .int (t 13 r), .int (t 23 0)]) := by simp [dO, dNote, tu]
      rw [e9]; exact hz2) hq1 hal oq3 hz3
  exact ⟨B3, nm3, fun k3 h9 h7 => (e3 k3 h9).trans ((eB k3 h7).trans (hB k3 h9 h7)), h3⟩
