/-! the desk's constructor -/
theorem kcAL : KC RJx4a65c TJx4a65c 3 2 tyJx4a65c := ⟨ly_Jx4a65c, tyJx4a65c_ok, nmJx4a65c, rfl⟩
section DIR
variable {p : Program} {l : Launch} {e : Env} {R : Room} {s : State} {m : MethodId} {args : Array Value} {below : List Frame} {meth : Method} {c : Code} {H : Heap} {locs : List Loc} {cells slots : Nat} {Q : State → Prop}
variable {cc : ByteArray} {pc nL : Nat} {ls : Array Slot} {rest : List Value} {g : cG} {F : Nat → Prop} {H0 : Heap} {o : Nat} {fs : List Value}
theorem di_arr (E : EN p s m c cc nL args RX4 g F) (hnm : meth.name = "<init>") (hS : va_S (nF F) H0 H locs) (ho : ¬ F o) (hO : va_at g.1 vwCl (o, .inr (7, fs)) H) (hFs : ∀ q, F q → q < H.size) (j : Nat) {x : Nat} (hlink : Cond.fieldLink RX4 x RX4 (TX4 j).2.1 (TX4 j).2.2.1 ∈ lw_g) (d1 : decode cc pc = .ok (.newarray .int, 2)) (d2 : decode cc (pc + 2) = .ok (.putfield x, 3)) (hcells : cells + 1 ≤ R.cells) (hslots : slots + 10 ≤ R.slots) (hj : Nat.ble (j + 1) fs.length = true)
    (hj2 : Nat.ble (j + 1) 12 = true := by rfl) (hT : (TX4 j).1 = RX4 := by rfl) (hfin : (TX4 j).2.2.2 = true := by rfl) (hnr : ∀ a : Nat, narrow (tyX4 j) (.ref a) = .ref a := by intro a; rfl) (hft : ∀ a : Nat, fits (tyX4 j) (.ref a) = true := by intro a; rfl)
    (kk : ∀ (a : Nat) (H1 : Heap) (locs1 : List Loc), va_S (nF F) H0 H1 locs1 → H.size ≤ a → a < H1.size → H.size ≤ H1.size → ¬ F a → va_at g.1 vwCl (o, .inr (7, fs.set j (.ref a))) H1 → va_at g.1 vwCl (a, .inl (g.2.1 0, 10, .inl (fun _ => 0))) H1 → (∀ q, q < H.size → q ≠ o → H1[q]? = H[q]?) → (∀ q, F q → q < H1.size) → W p l e R s m args below meth c H1 locs1 (cells + 1) (slots + 10) Q (F0 m (pc + 5) ls rest)) : W p l e R s m args below meth c H locs cells slots Q (F0 m pc ls (.int 10 :: .ref o :: rest)) := by
  refine va_newaK (atype := .int) E.1 E.2.1 (E.2.2.2.2.1 _ ac_int) rfl d1 rfl (by decide) (by rfl) (by decide) hcells hslots rfl fun H1 cA e1 z1 o1 hAr hNm => ?_
  have hcA : cA = g.2.1 0 := Option.some.inj (hNm.symm.trans (E.2.2.2.2.2.1.2 0 _ rfl).2)
  subst hcA
  have hoz : o < H.size := hO.lt
  have hO1 := hO.kept (H1 := H1) (o1 _ hoz)
  have hcell : va_at g.1 vwCl (H.size, .inl (g.2.1 0, 10, .inl (fun _ => 0))) H1 := by
    show H1[H.size]? = some (vp_cell _ _)
    rw [vp_cell_i, e1]; rfl
  have hS1 : va_S (nF F) H0 H1 locs := ⟨Nat.le_trans hS.1 (by omega), fun x h1 h2 => (o1 x (Nat.lt_of_lt_of_le h1 hS.1)).trans (hS.2.1 x h1 h2), hS.2.2⟩
  refine w_putF E kcX4 hnm hS1 hO1 ho j (Nat.le_of_ble_eq_true hj2) hT hlink hfin (hnr _) (hft _) (Nat.le_of_ble_eq_true hj) d2 fun H2 locs2 h2 z2 oq2 hS2 => ?_
  exact kk H.size H2 locs2 hS2 (Nat.le_refl _) (by omega) (by omega) (fun q => absurd (hFs _ q) (Nat.lt_irrefl _)) h2 (hcell.kept (oq2 _ (by show H.size ≠ o; omega))) (fun q h9 hn => (oq2 q hn).trans (o1 q h9)) (fun q hq => by have := hFs q hq; omega)
theorem di_list (E : EN p s m c cc nL args RX4 g F) (hnm : meth.name = "<init>") (hS : va_S (nF F) s.heap H locs) (ho : ¬ F o) (hO : va_at g.1 vwCl (o, .inr (7, fs)) H) (hFs : ∀ q, F q → q < H.size) (j : Nat) {x : Nat} (hlink : Cond.fieldLink RX4 x RX4 (TX4 j).2.1 (TX4 j).2.2.1 ∈ lw_g) {lv : List (Nat × Value)} (hls : lv_has ls nL lv) (hR : Nat.ble 4 R.frames = true ∧ Nat.ble 75 R.locals = true) (d1 : decode cc pc = .ok (.new 19, 3)) (d2 : decode cc (pc + 3) = .ok (.dup, 1)) (d3 : decode cc (pc + 4) = .ok (.invokespecial 21, 3)) (d4 : decode cc (pc + 7) = .ok (.putfield x, 3)) (hcells : cells + 1 ≤ R.cells) (hslots : slots + 3 ≤ R.slots) (hj : Nat.ble (j + 1) fs.length = true) (hst : Nat.ble (rest.map fun v => v.category).sum 4 = true := by rfl)
    (hj2 : Nat.ble (j + 1) 12 = true := by rfl) (hT : (TX4 j).1 = RX4 := by rfl) (hfin : (TX4 j).2.2.2 = true := by rfl) (hnr : ∀ a : Nat, narrow (tyX4 j) (.ref a) = .ref a := by intro a; rfl) (hft : ∀ a : Nat, fits (tyX4 j) (.ref a) = true := by intro a; rfl)
    (kk : ∀ (a : Nat) (H1 : Heap) (locs1 : List Loc), va_S (nF F) s.heap H1 locs1 → H.size ≤ a → a < H1.size → H.size ≤ H1.size → ¬ F a → va_at g.1 vwCl (o, .inr (7, fs.set j (.ref a))) H1 → AL g F a g.2.2.1 [] H1 → (∀ q, q < H.size → q ≠ o → H1[q]? = H[q]?) → (∀ q, F q → q < H1.size) → W p l e R s m args below meth c H1 locs1 (cells + 1) (slots + 3) Q (F0 m (pc + 10) ls rest)) : W p l e R s m args below meth c H locs cells slots Q (F0 m pc ls (.ref o :: rest)) := by
  have hoz : o < H.size := hO.lt
  refine w_new (C := RJx4a65c) (T := TJx4a65c) (N := 3) (ci := 2) E ly_Jx4a65c tyJx4a65c tyJx4a65c_ok kl_X4_19 is_Jx4a65c in_Jx4a65c rfl hS (fs := [.int 0, .null, .int 0]) (by decide +kernel) hcells hslots d1 (fun H1 hz1 z1 o1 hS1 => ?_)
  have hst9 : Nat.ble ((Value.ref H.size :: .ref o :: rest).map fun v => v.category).sum 8 = true := by
    have := Nat.le_of_ble_eq_true hst
    refine Nat.ble_eq_true_of_le ?_
    show 1 + (1 + (rest.map fun v => v.category).sum) ≤ 8
    omega
  refine lv_dup E.1 E.2.1 d2 rfl ?_
  have hzF : ¬ F H.size := fun q => absurd (hFs _ q) (Nat.lt_irrefl _)
  refine ct_IF (F1 := fun q => F q ∨ q ≠ H.size) (fun q h => Or.inl h) E hS1 (c_AL_init l g (fun q => F q ∨ q ≠ H.size) H.size (fun z => z.elim hzF (fun z => z rfl))) ok_Jx4a65c_init_da8c8 lk_X4_21 hz1 rfl hls hR hst9 ⟨hcells, hslots⟩ d3 rfl (fun v9 H2 locs2 hv9 hS2 hz9 hfr => ?_)
  obtain ⟨rfl, hal⟩ := hv9
  have oq2 : ∀ q, q < H.size → H2[q]? = H[q]? := fun q hq => (hfr q (by omega) (Or.inr (by omega))).trans (o1 q hq)
  have hal2 : AL g F H.size g.2.2.1 [] H2 := by
    obtain ⟨h1, h2, h3, h4⟩ := hal
    exact ⟨hzF, h2, h3, Or.inl ⟨rfl, rfl⟩⟩
  refine w_putF E kcX4 hnm hS2 (hO.kept (oq2 _ hoz)) ho j (Nat.le_of_ble_eq_true hj2) hT hlink hfin (hnr _) (hft _) (Nat.le_of_ble_eq_true hj) d4 fun H3 locs3 h3 z3 oq3 hS3 => ?_
  refine kk H.size H3 locs3 hS3 (Nat.le_refl _) (by omega) (by omega) hzF h3 ?_ (fun q h9 hn => (oq3 q hn).trans (oq2 q h9)) (fun q hq => by have := hFs q hq; omega)
  obtain ⟨h5, ⟨md, h6⟩, h7, h8⟩ := hal2
  exact ⟨h5, ⟨md, h6.kept (oq3 _ (by show H.size ≠ o; omega))⟩, fun y hy => by simp at hy, Or.inl ⟨rfl, rfl⟩⟩
theorem di_int (E : EN p s m c cc nL args RX4 g F) (hS : va_S (nF F) H0 H locs) (ho : ¬ F o) (hO : va_at g.1 vwCl (o, .inr (7, fs)) H) (hFs : ∀ q, F q → q < H.size) (j : Nat) {x : Nat} {v : Int32} (hlink : Cond.fieldLink RX4 x RX4 (TX4 j).2.1 (TX4 j).2.2.1 ∈ lw_g) (d1 : decode cc pc = .ok (.putfield x, 3)) (hj : Nat.ble (j + 1) fs.length = true)
    (hj2 : Nat.ble (j + 1) 12 = true := by rfl) (hT : (TX4 j).1 = RX4 := by rfl) (hfin : (TX4 j).2.2.2 = false := by rfl) (hty : tyX4 j = .int := by rfl)
    (kk : ∀ (H1 : Heap) (locs1 : List Loc), va_S (nF F) H0 H1 locs1 → H1.size = H.size → va_at g.1 vwCl (o, .inr (7, fs.set j (.int v))) H1 → (∀ q, q < H.size → q ≠ o → H1[q]? = H[q]?) → (∀ q, F q → q < H1.size) → W p l e R s m args below meth c H1 locs1 cells slots Q (F0 m (pc + 3) ls rest)) : W p l e R s m args below meth c H locs cells slots Q (F0 m pc ls (.int v :: .ref o :: rest)) :=
  w_put E (C := RX4) (T := TX4) (N := 12) (ci := 7) ly_X4 tyX4 tyX4_ok nmX4 hS hO ho rfl j (Nat.le_of_ble_eq_true hj2) hT hlink hfin (by rw [hty]; rfl) (by rw [hty]; rfl) (Nat.le_of_ble_eq_true hj) d1 fun H1 locs1 h1 z1 oq hS1 => kk H1 locs1 hS1 z1 h1 (fun q _ hn => oq q hn) (fun q hq => by rw [z1]; exact hFs q hq)
end DIR
theorem AL.kept0 {g : cG} {F : Nat → Prop} {a : Nat} {H H1 : Heap} (hFe : F g.2.2.1) (h : AL g F a g.2.2.1 [] H) (ha : H1[a]? = H[a]?) : AL g F a g.2.2.1 [] H1 := h.kept ha (fun z => absurd hFe z) (fun y hy => by simp at hy)
def tIni : Nat → TT
  | 0 => fun k _ => if k = 60 then -1 else 0
  | i + 1 => tu (tu (tIni i) 1 i (-1)) 3 i 100
def dAd (o a0 a1 a2 l0 l1 l2 l3 l4 e0 : Nat) : Nat → Nat → Nat := fun k i => match k with
  | 0 => o
  | 1 => if i = 0 then a0 else if i = 1 then a1 else a2
  | 2 => if i = 0 then l0 else if i = 1 then l1 else if i = 2 then l2 else if i = 3 then l3 else l4
  | _ => e0
theorem pd_start {g : cG} {F : Nat → Prop} {H : Heap} {o a0 a1 a2 l0 l1 l2 l3 l4 : Nat} (hFe : F g.2.2.1) (hFs : ∀ q, F q → q < H.size) (ho : ¬ F o)
    (h01 : o < a0) (h12 : a0 < a1) (h23 : a1 < a2) (h34 : a2 < l0) (h45 : l0 < l1) (h56 : l1 < l2) (h67 : l2 < l3) (h78 : l3 < l4) (f0 : ¬ F a0) (f1 : ¬ F a1) (f2 : ¬ F a2) (f3 : ¬ F l0) (f4 : ¬ F l1) (f5 : ¬ F l2) (f6 : ¬ F l3) (f7 : ¬ F l4)
    (hO : va_at g.1 vwCl (o, .inr (7, [.ref a0, .ref a1, .ref a2, .ref l0, .ref l1, .ref l2, .ref l3, .ref l4, .int 0, .int (-1), .int 0, .int 0])) H)
    (hA0 : va_at g.1 vwCl (a0, .inl (g.2.1 0, 10, .inl (fun _ => 0))) H) (hA1 : va_at g.1 vwCl (a1, .inl (g.2.1 0, 10, .inl (fun _ => 0))) H) (hA2 : va_at g.1 vwCl (a2, .inl (g.2.1 0, 10, .inl (fun _ => 0))) H)
    (hL0 : AL g F l0 g.2.2.1 [] H) (hL1 : AL g F l1 g.2.2.1 [] H) (hL2 : AL g F l2 g.2.2.1 [] H) (hL3 : AL g F l3 g.2.2.1 [] H) (hL4 : AL g F l4 g.2.2.1 [] H) :
    PD g F (dAd o a0 a1 a2 l0 l1 l2 l3 l4 g.2.2.1) 0 0 0 0 [] (tIni 0) H := by
  refine ⟨_, fun x => if x = o then (0, 0) else if x = a0 then (1, 0) else if x = a1 then (1, 1) else if x = a2 then (1, 2) else if x = l0 then (2, 0) else if x = l1 then (2, 1) else if x = l2 then (2, 2) else if x = l3 then (2, 3) else (2, 4), fun _ _ _ => rfl, fun k i hi hk => ?_, fun k i hi hk => ?_, fun j hj => ?_, fun j hj => ⟨fun z => absurd rfl z, ?_⟩, hFe, hFs, ?_⟩
  · match k, hi, hk with
    | 0, hi, _ =>
      rw [show i = 0 from Nat.lt_one_iff.mp hi]
      exact ⟨by simp [dAd], ho⟩
    | 1, hi, _ =>
      have hi : i < 3 := hi
      obtain rfl | rfl | rfl : i = 0 ∨ i = 1 ∨ i = 2 := by omega
      · exact ⟨by simp [dAd, show a0 ≠ o by omega], f0⟩
      · exact ⟨by simp [dAd, show a1 ≠ o by omega, show a1 ≠ a0 by omega], f1⟩
      · exact ⟨by simp [dAd, show a2 ≠ o by omega, show a2 ≠ a0 by omega, show a2 ≠ a1 by omega], f2⟩
    | 2, hi, _ =>
      have hi : i < 5 := hi
      obtain rfl | rfl | rfl | rfl | rfl : i = 0 ∨ i = 1 ∨ i = 2 ∨ i = 3 ∨ i = 4 := by omega
      · exact ⟨by simp [dAd, show l0 ≠ o by omega, show l0 ≠ a0 by omega, show l0 ≠ a1 by omega, show l0 ≠ a2 by omega], f3⟩
      · exact ⟨by simp [dAd, show l1 ≠ o by omega, show l1 ≠ a0 by omega, show l1 ≠ a1 by omega, show l1 ≠ a2 by omega, show l1 ≠ l0 by omega], f4⟩
      · exact ⟨by simp [dAd, show l2 ≠ o by omega, show l2 ≠ a0 by omega, show l2 ≠ a1 by omega, show l2 ≠ a2 by omega, show l2 ≠ l0 by omega, show l2 ≠ l1 by omega], f5⟩
      · exact ⟨by simp [dAd, show l3 ≠ o by omega, show l3 ≠ a0 by omega, show l3 ≠ a1 by omega, show l3 ≠ a2 by omega, show l3 ≠ l0 by omega, show l3 ≠ l1 by omega, show l3 ≠ l2 by omega], f6⟩
      · exact ⟨by simp [dAd, show l4 ≠ o by omega, show l4 ≠ a0 by omega, show l4 ≠ a1 by omega, show l4 ≠ a2 by omega, show l4 ≠ l0 by omega, show l4 ≠ l1 by omega, show l4 ≠ l2 by omega, show l4 ≠ l3 by omega], f7⟩
    | 3, _, hk => exact absurd rfl hk
    | 4, hi, _ => exact absurd hi (Nat.not_lt_zero _)
    | 5, hi, _ => exact absurd hi (Nat.not_lt_zero _)
    | 6, hi, _ => exact absurd hi (Nat.not_lt_zero _)
    | 7, hi, _ => exact absurd hi (Nat.not_lt_zero _)
    | k + 8, hi, _ => exact absurd hi (Nat.not_lt_zero _)
  · rcases kOb_c hk with rfl | rfl | rfl | rfl | rfl
    · rw [show i = 0 from Nat.lt_one_iff.mp hi]
      exact hO
    all_goals exact absurd hi (Nat.not_lt_zero _)
  · obtain rfl | rfl | rfl : j = 0 ∨ j = 1 ∨ j = 2 := by omega
    · exact hA0
    · exact hA1
    · exact hA2
  · obtain rfl | rfl | rfl | rfl | rfl : j = 0 ∨ j = 1 ∨ j = 2 ∨ j = 3 ∨ j = 4 := by omega
    · exact hL0
    · exact hL1
    · exact hL2
    · exact hL3
    · exact hL4
  · exact ⟨⟨by decide, by decide, by decide, by decide, by decide⟩, fun r hr => by simp at hr, fun i hi => absurd hi (Nat.not_lt_zero _), fun i hi => absurd hi (Nat.not_lt_zero _), fun i hi => absurd hi (Nat.not_lt_zero _), fun i hi => absurd hi (Nat.not_lt_zero _), fun i hi => absurd hi (Nat.not_lt_zero _), fun i hi => absurd hi (Nat.not_lt_zero _)⟩

set_option maxHeartbeats 4000000 in
set_option maxRecDepth 100000 in
theorem c_X4_init (l : Launch) (g : cG) (F : Nat → Prop) (o : Nat) (ho : ¬ F o) (hFe : F g.2.2.1) : CT l yX4_init cX4_init 2 none 4 75 8 45 g F [.ref o] (fun H => va_at g.1 vwCl (o, .inr (7, [.null, .null, .null, .null, .null, .null, .null, .null, .int 0, .int 0, .int 0, .int 0])) H ∧ ∀ q, F q → q < H.size) (fun v9 H9 => v9 = none ∧ ∃ A2 : Nat → Nat → Nat, A2 0 0 = o ∧ PD g F A2 0 0 0 0 [] (tIni 10) H9) := by
  refine CT.of (by decide) rfl ?_
  intro p e s m args below meth c E hr hk hnm hP ls hl
  have hS : va_S (nF F) s.heap s.heap [] := va_S.rf
  have hx := E.1
  have hb := E.2.1
  have hml := E.2.2.1
  have hown := E.2.2.2.1
  have hts := E.2.2.2.2.1
  have hG := E.2.2.2.2.2
  have hP0 := hP.1
  have hl : lv_has ls 2 [(0, .ref o)] := hl
  obtain ⟨hO, hFs⟩ := hP
  refine lv_aload_n hx hb dX4_init_0 rfl (lv_at hl 0 rfl) ?_
  refine W.objInit hx hb hown (hts _ lk_X4_1) (hts _ im_obj) (hts _ cd_obj) rfl (by rw [hml]; exact hl.1) rfl dX4_init_1 (Nat.le_of_ble_eq_true rfl) (Nat.le_of_ble_eq_true rfl) ?_
  refine W.eq (g2 := F0 m 4 ls []) rfl ?_
  refine lv_aload_n hx hb dX4_init_4 rfl (lv_at hl 0 rfl) ?_
  refine lv_bipush (v := 10) hx hb dX4_init_5 (by decide) ?_
  refine di_arr E hnm hS ho hO hFs 0 fk_X4_9 dX4_init_7 dX4_init_9 (Nat.le_of_ble_eq_true rfl) (Nat.le_of_ble_eq_true rfl) rfl (kk := fun a0 H locs hS g_a0 l_a0 hz f_a0 hO h_a0 oq hFs => ?_)
  have ll_a0 : o < a0 := by have := hP0.lt; omega
  refine lv_aload_n hx hb dX4_init_12 rfl (lv_at hl 0 rfl) ?_
  refine lv_bipush (v := 10) hx hb dX4_init_13 (by decide) ?_
  refine di_arr E hnm hS ho hO hFs 1 fk_X4_13 dX4_init_15 dX4_init_17 (Nat.le_of_ble_eq_true rfl) (Nat.le_of_ble_eq_true rfl) rfl (kk := fun a1 H locs hS g_a1 l_a1 hz f_a1 hO h_a1 oq hFs => ?_)
  have ll_a1 : a0 < a1 := by omega
  have h_a0 := h_a0.kept (oq _ h_a0.lt (by show a0 ≠ o; omega))
  have l_a0 : a0 < H.size := by omega
  refine lv_aload_n hx hb dX4_init_20 rfl (lv_at hl 0 rfl) ?_
  refine lv_bipush (v := 10) hx hb dX4_init_21 (by decide) ?_
  refine di_arr E hnm hS ho hO hFs 2 fk_X4_16 dX4_init_23 dX4_init_25 (Nat.le_of_ble_eq_true rfl) (Nat.le_of_ble_eq_true rfl) rfl (kk := fun a2 H locs hS g_a2 l_a2 hz f_a2 hO h_a2 oq hFs => ?_)
  have ll_a2 : a1 < a2 := by omega
  have h_a0 := h_a0.kept (oq _ h_a0.lt (by show a0 ≠ o; omega))
  have l_a0 : a0 < H.size := by omega
  have h_a1 := h_a1.kept (oq _ h_a1.lt (by show a1 ≠ o; omega))
  have l_a1 : a1 < H.size := by omega
  refine lv_aload_n hx hb dX4_init_28 rfl (lv_at hl 0 rfl) ?_
  refine di_list E hnm hS ho hO hFs 3 fk_X4_22 hl ⟨rfl, rfl⟩ dX4_init_29 dX4_init_32 dX4_init_33 dX4_init_36 (Nat.le_of_ble_eq_true rfl) (Nat.le_of_ble_eq_true rfl) rfl (kk := fun l0 H locs hS g_l0 l_l0 hz f_l0 hO h_l0 oq hFs => ?_)
  have ll_l0 : a2 < l0 := by omega
  have h_a0 := h_a0.kept (oq _ h_a0.lt (by show a0 ≠ o; omega))
  have l_a0 : a0 < H.size := by omega
  have h_a1 := h_a1.kept (oq _ h_a1.lt (by show a1 ≠ o; omega))
  have l_a1 : a1 < H.size := by omega
  have h_a2 := h_a2.kept (oq _ h_a2.lt (by show a2 ≠ o; omega))
  have l_a2 : a2 < H.size := by omega
  refine lv_aload_n hx hb dX4_init_39 rfl (lv_at hl 0 rfl) ?_
  refine di_list E hnm hS ho hO hFs 4 fk_X4_26 hl ⟨rfl, rfl⟩ dX4_init_40 dX4_init_43 dX4_init_44 dX4_init_47 (Nat.le_of_ble_eq_true rfl) (Nat.le_of_ble_eq_true rfl) rfl (kk := fun l1 H locs hS g_l1 l_l1 hz f_l1 hO h_l1 oq hFs => ?_)
  have ll_l1 : l0 < l1 := by omega
  have h_a0 := h_a0.kept (oq _ h_a0.lt (by show a0 ≠ o; omega))
  have l_a0 : a0 < H.size := by omega
  have h_a1 := h_a1.kept (oq _ h_a1.lt (by show a1 ≠ o; omega))
  have l_a1 : a1 < H.size := by omega
  have h_a2 := h_a2.kept (oq _ h_a2.lt (by show a2 ≠ o; omega))
  have l_a2 : a2 < H.size := by omega
  have h_l0 := h_l0.kept0 hFe (oq _ (by have := l_l0; omega) (by omega))
  have l_l0 : l0 < H.size := by omega
  refine lv_aload_n hx hb dX4_init_50 rfl (lv_at hl 0 rfl) ?_
  refine di_list E hnm hS ho hO hFs 5 fk_X4_29 hl ⟨rfl, rfl⟩ dX4_init_51 dX4_init_54 dX4_init_55 dX4_init_58 (Nat.le_of_ble_eq_true rfl) (Nat.le_of_ble_eq_true rfl) rfl (kk := fun l2 H locs hS g_l2 l_l2 hz f_l2 hO h_l2 oq hFs => ?_)
  have ll_l2 : l1 < l2 := by omega
  have h_a0 := h_a0.kept (oq _ h_a0.lt (by show a0 ≠ o; omega))
  have l_a0 : a0 < H.size := by omega
  have h_a1 := h_a1.kept (oq _ h_a1.lt (by show a1 ≠ o; omega))
  have l_a1 : a1 < H.size := by omega
  have h_a2 := h_a2.kept (oq _ h_a2.lt (by show a2 ≠ o; omega))
  have l_a2 : a2 < H.size := by omega
  have h_l0 := h_l0.kept0 hFe (oq _ (by have := l_l0; omega) (by omega))
  have l_l0 : l0 < H.size := by omega
  have h_l1 := h_l1.kept0 hFe (oq _ (by have := l_l1; omega) (by omega))
  have l_l1 : l1 < H.size := by omega
  refine lv_aload_n hx hb dX4_init_61 rfl (lv_at hl 0 rfl) ?_
  refine di_list E hnm hS ho hO hFs 6 fk_X4_32 hl ⟨rfl, rfl⟩ dX4_init_62 dX4_init_65 dX4_init_66 dX4_init_69 (Nat.le_of_ble_eq_true rfl) (Nat.le_of_ble_eq_true rfl) rfl (kk := fun l3 H locs hS g_l3 l_l3 hz f_l3 hO h_l3 oq hFs => ?_)
  have ll_l3 : l2 < l3 := by omega
  have h_a0 := h_a0.kept (oq _ h_a0.lt (by show a0 ≠ o; omega))
  have l_a0 : a0 < H.size := by omega
  have h_a1 := h_a1.kept (oq _ h_a1.lt (by show a1 ≠ o; omega))
  have l_a1 : a1 < H.size := by omega
  have h_a2 := h_a2.kept (oq _ h_a2.lt (by show a2 ≠ o; omega))
  have l_a2 : a2 < H.size := by omega
  have h_l0 := h_l0.kept0 hFe (oq _ (by have := l_l0; omega) (by omega))
  have l_l0 : l0 < H.size := by omega
  have h_l1 := h_l1.kept0 hFe (oq _ (by have := l_l1; omega) (by omega))
  have l_l1 : l1 < H.size := by omega
  have h_l2 := h_l2.kept0 hFe (oq _ (by have := l_l2; omega) (by omega))
  have l_l2 : l2 < H.size := by omega
  refine lv_aload_n hx hb dX4_init_72 rfl (lv_at hl 0 rfl) ?_
  refine di_list E hnm hS ho hO hFs 7 fk_X4_35 hl ⟨rfl, rfl⟩ dX4_init_73 dX4_init_76 dX4_init_77 dX4_init_80 (Nat.le_of_ble_eq_true rfl) (Nat.le_of_ble_eq_true rfl) rfl (kk := fun l4 H locs hS g_l4 l_l4 hz f_l4 hO h_l4 oq hFs => ?_)
  have ll_l4 : l3 < l4 := by omega
  have h_a0 := h_a0.kept (oq _ h_a0.lt (by show a0 ≠ o; omega))
  have l_a0 : a0 < H.size := by omega
  have h_a1 := h_a1.kept (oq _ h_a1.lt (by show a1 ≠ o; omega))
  have l_a1 : a1 < H.size := by omega
  have h_a2 := h_a2.kept (oq _ h_a2.lt (by show a2 ≠ o; omega))
  have l_a2 : a2 < H.size := by omega
  have h_l0 := h_l0.kept0 hFe (oq _ (by have := l_l0; omega) (by omega))
  have l_l0 : l0 < H.size := by omega
  have h_l1 := h_l1.kept0 hFe (oq _ (by have := l_l1; omega) (by omega))
  have l_l1 : l1 < H.size := by omega
  have h_l2 := h_l2.kept0 hFe (oq _ (by have := l_l2; omega) (by omega))
  have l_l2 : l2 < H.size := by omega
  have h_l3 := h_l3.kept0 hFe (oq _ (by have := l_l3; omega) (by omega))
  have l_l3 : l3 < H.size := by omega
  refine lv_aload_n hx hb dX4_init_83 rfl (lv_at hl 0 rfl) ?_
  refine lv_iconst (v := 0) hx hb dX4_init_84 (by decide) ?_
  refine di_int E hS ho hO hFs 8 fk_X4_38 dX4_init_85 rfl (kk := fun H locs hS hz hO oq hFs => ?_)
  have h_a0 := h_a0.kept (oq _ h_a0.lt (by show a0 ≠ o; omega))
  have l_a0 : a0 < H.size := by omega
  have h_a1 := h_a1.kept (oq _ h_a1.lt (by show a1 ≠ o; omega))
  have l_a1 : a1 < H.size := by omega
  have h_a2 := h_a2.kept (oq _ h_a2.lt (by show a2 ≠ o; omega))
  have l_a2 : a2 < H.size := by omega
  have h_l0 := h_l0.kept0 hFe (oq _ (by have := l_l0; omega) (by omega))
  have l_l0 : l0 < H.size := by omega
  have h_l1 := h_l1.kept0 hFe (oq _ (by have := l_l1; omega) (by omega))
  have l_l1 : l1 < H.size := by omega
  have h_l2 := h_l2.kept0 hFe (oq _ (by have := l_l2; omega) (by omega))
  have l_l2 : l2 < H.size := by omega
  have h_l3 := h_l3.kept0 hFe (oq _ (by have := l_l3; omega) (by omega))
  have l_l3 : l3 < H.size := by omega
  have h_l4 := h_l4.kept0 hFe (oq _ (by have := l_l4; omega) (by omega))
  have l_l4 : l4 < H.size := by omega
  refine lv_aload_n hx hb dX4_init_88 rfl (lv_at hl 0 rfl) ?_
  refine lv_iconst (v := (-1)) hx hb dX4_init_89 (by decide) ?_
  refine di_int E hS ho hO hFs 9 fk_X4_42 dX4_init_90 rfl (kk := fun H locs hS hz hO oq hFs => ?_)
  have h_a0 := h_a0.kept (oq _ h_a0.lt (by show a0 ≠ o; omega))
  have l_a0 : a0 < H.size := by omega
  have h_a1 := h_a1.kept (oq _ h_a1.lt (by show a1 ≠ o; omega))
  have l_a1 : a1 < H.size := by omega
  have h_a2 := h_a2.kept (oq _ h_a2.lt (by show a2 ≠ o; omega))
  have l_a2 : a2 < H.size := by omega
  have h_l0 := h_l0.kept0 hFe (oq _ (by have := l_l0; omega) (by omega))
  have l_l0 : l0 < H.size := by omega
  have h_l1 := h_l1.kept0 hFe (oq _ (by have := l_l1; omega) (by omega))
  have l_l1 : l1 < H.size := by omega
  have h_l2 := h_l2.kept0 hFe (oq _ (by have := l_l2; omega) (by omega))
  have l_l2 : l2 < H.size := by omega
  have h_l3 := h_l3.kept0 hFe (oq _ (by have := l_l3; omega) (by omega))
  have l_l3 : l3 < H.size := by omega
  have h_l4 := h_l4.kept0 hFe (oq _ (by have := l_l4; omega) (by omega))
  have l_l4 : l4 < H.size := by omega
  refine lv_aload_n hx hb dX4_init_93 rfl (lv_at hl 0 rfl) ?_
  refine lv_iconst (v := 0) hx hb dX4_init_94 (by decide) ?_
  refine di_int E hS ho hO hFs 10 fk_X4_45 dX4_init_95 rfl (kk := fun H locs hS hz hO oq hFs => ?_)
  have h_a0 := h_a0.kept (oq _ h_a0.lt (by show a0 ≠ o; omega))
  have l_a0 : a0 < H.size := by omega
  have h_a1 := h_a1.kept (oq _ h_a1.lt (by show a1 ≠ o; omega))
  have l_a1 : a1 < H.size := by omega
  have h_a2 := h_a2.kept (oq _ h_a2.lt (by show a2 ≠ o; omega))
  have l_a2 : a2 < H.size := by omega
  have h_l0 := h_l0.kept0 hFe (oq _ (by have := l_l0; omega) (by omega))
  have l_l0 : l0 < H.size := by omega
  have h_l1 := h_l1.kept0 hFe (oq _ (by have := l_l1; omega) (by omega))
  have l_l1 : l1 < H.size := by omega
  have h_l2 := h_l2.kept0 hFe (oq _ (by have := l_l2; omega) (by omega))
  have l_l2 : l2 < H.size := by omega
  have h_l3 := h_l3.kept0 hFe (oq _ (by have := l_l3; omega) (by omega))
  have l_l3 : l3 < H.size := by omega
  have h_l4 := h_l4.kept0 hFe (oq _ (by have := l_l4; omega) (by omega))
  have l_l4 : l4 < H.size := by omega
  refine lv_aload_n hx hb dX4_init_98 rfl (lv_at hl 0 rfl) ?_
  refine lv_iconst (v := 0) hx hb dX4_init_99 (by decide) ?_
  refine di_int E hS ho hO hFs 11 fk_X4_48 dX4_init_100 rfl (kk := fun H locs hS hz hO oq hFs => ?_)
  have h_a0 := h_a0.kept (oq _ h_a0.lt (by show a0 ≠ o; omega))
  have l_a0 : a0 < H.size := by omega
  have h_a1 := h_a1.kept (oq _ h_a1.lt (by show a1 ≠ o; omega))
  have l_a1 : a1 < H.size := by omega
  have h_a2 := h_a2.kept (oq _ h_a2.lt (by show a2 ≠ o; omega))
  have l_a2 : a2 < H.size := by omega
  have h_l0 := h_l0.kept0 hFe (oq _ (by have := l_l0; omega) (by omega))
  have l_l0 : l0 < H.size := by omega
  have h_l1 := h_l1.kept0 hFe (oq _ (by have := l_l1; omega) (by omega))
  have l_l1 : l1 < H.size := by omega
  have h_l2 := h_l2.kept0 hFe (oq _ (by have := l_l2; omega) (by omega))
  have l_l2 : l2 < H.size := by omega
  have h_l3 := h_l3.kept0 hFe (oq _ (by have := l_l3; omega) (by omega))
  have l_l3 : l3 < H.size := by omega
  have h_l4 := h_l4.kept0 hFe (oq _ (by have := l_l4; omega) (by omega))
  have l_l4 : l4 < H.size := by omega
  have hP := pd_start hFe hFs ho ll_a0 ll_a1 ll_a2 ll_l0 ll_l1 ll_l2 ll_l3 ll_l4 f_a0 f_a1 f_a2 f_l0 f_l1 f_l2 f_l3 f_l4 hO h_a0 h_a1 h_a2 h_l0 h_l1 h_l2 h_l3 h_l4
  obtain ⟨A, hA⟩ : ∃ A, A = dAd o a0 a1 a2 l0 l1 l2 l3 l4 g.2.2.1 := ⟨_, rfl⟩
  rw [← hA] at hP
  have hA0 : A 0 0 = o := by rw [hA]; rfl
  have hl : lv_has ls 2 [(0, .ref (A 0 0))] := by rw [hA0]; exact hl
  refine lv_iconst (v := 0) hx hb dX4_init_103 (by decide) ?_
  refine lv_istore_n (lv' := [(1, .int 0), (0, .ref (A 0 0))]) hx hb dX4_init_104 rfl hl (by decide) rfl (fun ls hl => ?_)
  have LP : ∀ (n9 i : Nat), i ≤ 10 → 10 < i + n9 → ∀ (H : Heap) (locs : List Loc), va_S (nF F) s.heap H locs → PD g F A 0 0 0 0 [] (tIni i) H → ∀ (ls : Array Slot), lv_has ls 2 [(1, .int (nI i)), (0, .ref (A 0 0))] → W p l e { frames := 4, cells := 8, slots := 45, locals := 75 } s m args below meth c H locs 8 45 (MQ below (Qg F (fun v9 H9 => v9 = none ∧ ∃ A2 : Nat → Nat → Nat, A2 0 0 = o ∧ PD g F A2 0 0 0 0 [] (tIni 10) H9)) args s 8 45 (nF F)) (F0 m 105 ls []) := by
    intro n9
    induction n9 with
    | zero => intro i hi9 hn9; exact absurd hn9 (by omega)
    | succ n9 ih =>
      intro i hi hn H locs hS hP ls hl
      refine lv_iload_n hx hb dX4_init_105 rfl (lv_at hl 0 rfl) ?_
      refine lv_bipush (v := 10) hx hb dX4_init_106 (by decide) ?_
      refine lv_icmp_ge (tgt := 132) hx hb dX4_init_108 (by decide) (fun c1 => ?_) (fun c1 => ?_)
      · have e_i : i = 10 := by
          have := (nI_leI (by omega) (by omega)).mp (show nI 10 ≤ nI i from c1)
          omega
        subst e_i
        exact ct_vret E hr hk hS ⟨rfl, A, hA0, hP⟩ dX4_init_132 (Nat.le_refl _) (Nat.le_refl _)
      · have hi10 : i < 10 := Nat.lt_of_not_le (fun q => c1 (show nI 10 ≤ nI i from nI_le q (by omega)))
        refine lv_aload_n hx hb dX4_init_111 rfl (lv_at hl 1 rfl) ?_
        refine dg E hP 0 fk_X4_9 dX4_init_112 (v := .ref (A 1 0)) (kk := ?_)
        refine lv_iload_n hx hb dX4_init_115 rfl (lv_at hl 0 rfl) ?_
        refine lv_iconst (v := (-1)) hx hb dX4_init_116 (by decide) ?_
        refine das E hS hP 0 i dX4_init_117 rfl hi10 (kk := fun H locs hS hP => ?_)
        refine lv_aload_n hx hb dX4_init_118 rfl (lv_at hl 1 rfl) ?_
        refine dg E hP 2 fk_X4_16 dX4_init_119 (v := .ref (A 1 2)) (kk := ?_)
        refine lv_iload_n hx hb dX4_init_122 rfl (lv_at hl 0 rfl) ?_
        refine lv_bipush (v := 100) hx hb dX4_init_123 (by decide) ?_
        refine das E hS hP 2 i dX4_init_125 rfl hi10 (kk := fun H locs hS hP => ?_)
        refine lv_iinc (v := (nI (i + 1))) (lv' := [(1, .int (nI (i + 1))), (0, .ref (A 0 0))]) hx hb dX4_init_126 hl (k := 0) rfl (by rw [nI_succ]; rfl) (by decide) rfl (fun ls hl => ?_)
        refine lv_goto (tgt := 105) hx hb dX4_init_129 (by decide) ?_
        exact ih (i + 1) hi10 (by omega) H locs hS hP ls hl
  exact LP 11 0 (Nat.zero_le _) (by omega) _ _ hS hP ls hl
