set_option maxRecDepth 100000 in
theorem nt_getC : Cond.native ⟨"java/lang/Object", "getClass", "()Ljava/lang/Class;"⟩ ∈ lw_g := lw_gi 355 rfl rfl
set_option maxRecDepth 100000 in
theorem nt_copy : Cond.native arraycopyName ∈ lw_g := lw_gi 367 rfl rfl
set_option maxRecDepth 100000 in
theorem sl_getC : Cond.selects "[Ljava/lang/Object;" ⟨"java/lang/Object", "getClass", "()Ljava/lang/Class;"⟩ ⟨"java/lang/Object", "getClass", "()Ljava/lang/Class;"⟩ ∈ lw_g := lw_gi 1187 rfl rfl
set_option maxRecDepth 100000 in
theorem st_copy : Cond.static arraycopyName ∈ lw_g := lw_gi 366 rfl rfl
set_option maxRecDepth 100000 in
theorem im_getC : Cond.instanceMethod ⟨"java/lang/Object", "getClass", "()Ljava/lang/Class;"⟩ ∈ lw_g := lw_gi 339 rfl rfl
set_option maxRecDepth 100000 in
theorem lk_J7_150 : Cond.methodLink RJ7 150 arraycopyName ∈ lw_g := lw_gi 365 rfl rfl
set_option maxRecDepth 100000 in
theorem lk_Jx4a65c_112 : Cond.methodLink RJx4a65c 112 arraycopyName ∈ lw_g := lw_gi 765 rfl rfl
set_option maxRecDepth 100000 in
theorem lk_J7_86 : Cond.methodLink RJ7 86 ⟨"java/lang/Object", "getClass", "()Ljava/lang/Class;"⟩ ∈ lw_g := lw_gi 338 rfl rfl

set_option maxRecDepth 100000 in
theorem wc_J8_200 : Cond.constant RJ8 200 2147483639 ∈ lw_g := lw_gi 331 rfl rfl
def nwl (n : Nat) : Nat := n + (if 1 < n / 2 then n / 2 else 1)
theorem nwl_le {n : Nat} (h : n ≤ 100) (h0 : 0 < n) : n < nwl n ∧ nwl n ≤ 150 := by
  unfold nwl
  split <;> omega
section CRS
variable {p : Program} {l : Launch} {e : Env} {R : Room} {s : State} {m : MethodId} {args : Array Value} {below : List Frame} {meth : Method} {c : Code} {H : Heap} {locs : List Loc} {cells slots : Nat} {Q : State → Prop}
variable {cc : ByteArray} {pc nL : Nat} {ls : Array Slot} {rest : List Value} {own : String} {g : cG} {F F1 : Nat → Prop} {H0 : Heap} {post : Option Value → Heap → Prop} {mc ms : Nat}
variable {y : MethodName} {b : ByteArray} {n k fr lo mc1 ms1 idx o : Nat} {ret : Option FieldType} {As : List Value} {P : Heap → Prop}
theorem ct_SF (hF : ∀ q, F q → F1 q) (E : EN p s m c cc nL args own g F) (hS : va_S (nF F) s.heap H locs) (hM : CT l y b n ret fr lo mc1 ms1 g F1 As P post) (ok : okS y b n ret k) (hlk : Cond.methodLink own idx y ∈ lw_g) (hP : P H)
    (hlen : As.length = k) {lv : List (Nat × Value)} (hls : lv_has ls nL lv) (hR : Nat.ble (fr + 1) R.frames = true ∧ Nat.ble (8 + (n + 11) + lo) R.locals = true) (hst : Nat.ble (rest.map fun v => v.category).sum 8 = true)
    (hf : cells + mc1 ≤ R.cells ∧ slots + ms1 ≤ R.slots) (hd : decode cc pc = .ok (.invokestatic idx, 3))
    {st0 : List Value} (hst0 : st0 = As.reverse ++ rest)
    (kk : ∀ (v : Option Value) (H1 : Heap) (locs1 : List Loc), post v H1 → va_S (nF F) s.heap H1 locs1 → H.size ≤ H1.size → (∀ q, q < H.size → F1 q → H1[q]? = H[q]?) → W p l e R s m args below meth c H1 locs1 (cells + mc1) (slots + ms1) Q (F0 m (pc + 3) ls (v.toList ++ rest))) : W p l e R s m args below meth c H locs cells slots Q (F0 m pc ls st0) := by
  obtain ⟨hx, hb, hml, hown, hts, hG⟩ := E
  obtain ⟨⟨k1, k2, k3, k4, k5⟩, k6⟩ := ok
  refine ct_goF hF (va_runS (As := As) (rest := rest) (Ts := lw_g) (own := own) (nL := nL) ⟨hx, hb, hml, hown, hts⟩ hM
    (va_cwS k hts (by
      intro w hw
      unfold va_wsS at hw
      rcases List.mem_append.mp hw with h | h
      · simp only [List.mem_cons, List.not_mem_nil, or_false] at h
        rcases h with rfl | rfl | rfl
        · exact lw_go hlk
        · exact lw_go k6
        · exact lw_go k1
      · exact ms_gi k2 w h) rfl rfl rfl ⟨k3, k4, k5⟩ ⟨Nat.le_of_ble_eq_true hR.1, Nat.le_of_ble_eq_true hR.2⟩)
    (ct_preF (P := P) hF hG hS hP As) rfl hlen hls.1 hst0 (lv_room (Nat.le_of_ble_eq_true hst)) hd hf) hS kk
end CRS

set_option maxHeartbeats 4000000 in
set_option maxRecDepth 100000 in
theorem c_J8_newLength (l : Launch) (g : cG) (F : Nat → Prop) (n : Nat) (P : Heap → Prop) (h0 : 0 < n) (hn : n ≤ 100) : CT l yJ8_newLength_cabcc cJ8_newLength_cabcc 4 (some .int) 1 21 0 0 g F [.int (nI n), .int (nI 1), .int (nI (n / 2))] P (fun v H => v = some (.int (nI (nwl n))) ∧ P H) := by
  refine CT.of (by decide) rfl ?_
  intro p e s m args below meth c E hr hk hnm hP ls hl
  have hS : va_S (nF F) s.heap s.heap [] := va_S.rf
  have hx := E.1
  have hb := E.2.1
  have hml := E.2.2.1
  have hown := E.2.2.2.1
  have hts := E.2.2.2.2.1
  have hG := E.2.2.2.2.2
  have hl : lv_has ls 4 [(0, .int (nI n)), (1, .int (nI 1)), (2, .int (nI (n / 2)))] := hl
  have hw := nwl_le hn h0
  refine lv_iload_n hx hb dJ8_newLength_cabcc_0 rfl (lv_at hl 0 rfl) ?_
  refine lv_iload_n hx hb dJ8_newLength_cabcc_1 rfl (lv_at hl 1 rfl) ?_
  refine lv_iload_n hx hb dJ8_newLength_cabcc_2 rfl (lv_at hl 2 rfl) ?_
  refine va_mmax hx hb (hml.trans hl.1.symm) hown (hts _ lk_J8_194) (hts _ st_max) (hts _ in_J9) (hts _ cd_max) (by decide) (Nat.le_of_ble_eq_true rfl) (by decide) (by decide) dJ8_newLength_cabcc_3 ?_
  refine lv_iadd hx hb dJ8_newLength_cabcc_6 ?_
  have e1 : nI n + (if nI 1 < nI (n / 2) then nI (n / 2) else nI 1) = nI (nwl n) := by
    unfold nwl
    by_cases c : 1 < n / 2
    · rw [if_pos c, if_pos (nI_lt c (by omega)), nI_add]
    · rw [if_neg c, if_neg (nI_nlt (by omega) (by omega)), nI_add]
  refine W.eq (g2 := F0 m 7 ls [.int (nI (nwl n))]) (by rw [← e1]) ?_
  refine lv_istore_n (lv' := [(3, .int (nI (nwl n))), (0, .int (nI n)), (1, .int (nI 1)), (2, .int (nI (n / 2)))]) hx hb dJ8_newLength_cabcc_7 rfl hl (by decide) rfl (fun ls hl => ?_)
  refine lv_iconst (v := 0) hx hb dJ8_newLength_cabcc_8 (by decide) ?_
  refine lv_iload_n hx hb dJ8_newLength_cabcc_9 rfl (lv_at hl 0 rfl) ?_
  refine lv_icmp_ge (tgt := 21) hx hb dJ8_newLength_cabcc_10 (by decide) (fun c1 => absurd c1 (nI_nle (by omega) (by omega))) (fun c1 => ?_)
  refine lv_iload_n hx hb dJ8_newLength_cabcc_13 rfl (lv_at hl 0 rfl) ?_
  refine lv_ldc hx hb hown (hts _ wc_J8_200) dJ8_newLength_cabcc_14 ?_
  refine lv_icmp_gt (tgt := 21) hx hb dJ8_newLength_cabcc_16 (by decide) (fun c1 => absurd (show nI 2147483639 < nI (nwl n) from c1) (nI_nlt (by omega) (by omega))) (fun c1 => ?_)
  refine lv_iload_n hx hb dJ8_newLength_cabcc_19 rfl (lv_at hl 0 rfl) ?_
  exact ct_iret E hr hk hS ⟨rfl, hP⟩ dJ8_newLength_cabcc_20

set_option maxHeartbeats 4000000 in
set_option maxRecDepth 100000 in
theorem c_J7_copyOf3 (l : Launch) (g : cG) (F : Nat → Prop) (q n N sz : Nat) (f : Nat → Option Nat) (hF : ∀ x, F x ↔ x < sz ∧ x ≠ q) (hn : n ≤ N) (hN : N ≤ 150) : CT l yJ7_copyOf_6403c cJ7_copyOf_6403c 4 (some (.array (.object "java/lang/Object"))) 1 60 1 150 g F [.ref q, .int (nI N), .ref g.2.2.2.1] (fun H => H.size = sz ∧ va_at g.1 vwCl (q, alA g n f) H ∧ ∀ i, i < n → ∀ y, f i = some y → AO g y H ∧ y ≠ q) (fun v H => ∃ q1 : Nat, v = some (.ref q1) ∧ sz ≤ q1 ∧ va_at g.1 vwCl (q1, alA g N (va_cpy f (fun _ => none) 0 0 n)) H) := by
  refine CT.of (by decide) rfl ?_
  intro p e s m args below meth c E hr hk hnm hP ls hl
  have hS : va_S (nF F) s.heap s.heap [] := va_S.rf
  have hx := E.1
  have hb := E.2.1
  have hml := E.2.2.1
  have hown := E.2.2.2.1
  have hts := E.2.2.2.2.1
  have hG := E.2.2.2.2.2
  have hl : lv_has ls 4 [(0, .ref q), (1, .int (nI N)), (2, .ref g.2.2.2.1)] := hl
  obtain ⟨hsz, h1, h2⟩ := hP
  have hMi := hG.2.2.2.2.2.2.2.1
  have hAO := hG.2.2.2.2.2.2.2.2.2.1
  have hFq : ¬ F q := fun z => ((hF q).mp z).2 rfl
  refine lv_aload_n hx hb dJ7_copyOf_6403c_0 rfl (lv_at hl 2 rfl) ?_
  refine va_ldcM hx hb hown (hts _ kl_J7_110) hMi dJ7_copyOf_6403c_1 ?_
  refine lv_acmp_ne (rx := some g.2.2.2.1) (ry := some g.2.2.2.1) (tgt := 13) hx hb dJ7_copyOf_6403c_3 (by decide) (fun c1 => absurd rfl c1) (fun c1 => ?_)
  refine lv_iload_n hx hb dJ7_copyOf_6403c_6 rfl (lv_at hl 1 rfl) ?_
  have hD0 : va_D (nF F) [(q, alA g n f)] := ⟨fun i j x y hi hj _ => by
    have a1 := (List.getElem?_eq_some_iff.mp hi).1
    have a2 := (List.getElem?_eq_some_iff.mp hj).1
    simp at a1 a2; omega, fun k x hx9 => by
    have a1 := (List.getElem?_eq_some_iff.mp hx9).1
    simp at a1; subst a1; cases hx9; exact hFq⟩
  have hAn : ∀ x, s.heap.size ≤ x → nF F x := fun x h z => by rw [hF] at z; omega
  refine va_newq (N' := N) hx hb hown (hts _ kl_J7_2) hAO hG.1 (va_P1 h1) hD0 hS hAn (nI_pos (by omega)) (nI_clamp (by omega)) (by omega) (Nat.le_refl _) (by show 0 + N ≤ 150; omega) dJ7_copyOf_6403c_7 (fun q1 cA H1 hK1 hP1 hD1 hS1 => ?_)
  have hcA : cA = g.2.1 3 := by
    have a1 := va_nmO (hK1.2 6 (cA, .object "java/lang/Object") rfl).2 (nm := "[Ljava/lang/Object;") (by decide +kernel)
    have a2 := va_nmO (hG.1.2 3 _ rfl).2 (nm := "[Ljava/lang/Object;") (by decide +kernel)
    exact Option.some.inj (a1.symm.trans a2)
  subst hcA
  have hqq : q1 ≠ q := fun z => by
    have := hD1.1 0 1 _ _ rfl rfl z.symm
    cases this
  have hq1 : sz ≤ q1 := by
    have := hD1.2 1 _ rfl
    rw [nF, hF] at this
    rcases Nat.lt_or_ge q1 sz with h | h
    · exact absurd ⟨h, hqq⟩ this
    · exact h
  have k2 : ∀ i, i < n → ∀ y, f i = some y → AO g y H1 := fun i hi y hy => (h2 i hi y hy).1.kept (hS1.2.1 y (h2 i hi y hy).1.lt (fun z => z ((hF y).mpr ⟨hsz ▸ (h2 i hi y hy).1.lt, (h2 i hi y hy).2⟩)))
  have hP1 : va_P g.1 vwCl [(q, alA g n f), (q1, alA g N (fun _ => none))] H1 := hP1
  have hD1 : va_D (nF F) [(q, alA g n f), (q1, alA g N (fun _ => none))] := hD1
  refine lv_goto (tgt := 24) hx hb dJ7_copyOf_6403c_10 (by decide) ?_
  refine lv_astore_n (lv' := [(3, .ref q1), (0, .ref q), (1, .int (nI N)), (2, .ref g.2.2.2.1)]) hx hb dJ7_copyOf_6403c_24 rfl hl (by decide) rfl (fun ls hl => ?_)
  refine lv_aload_n hx hb dJ7_copyOf_6403c_25 rfl (lv_at hl 1 rfl) ?_
  refine lv_iconst (v := 0) hx hb dJ7_copyOf_6403c_26 (by decide) ?_
  refine lv_aload_n hx hb dJ7_copyOf_6403c_27 rfl (lv_at hl 0 rfl) ?_
  refine lv_iconst (v := 0) hx hb dJ7_copyOf_6403c_28 (by decide) ?_
  refine lv_aload_n hx hb dJ7_copyOf_6403c_29 rfl (lv_at hl 1 rfl) ?_
  refine va_alen (ty := .object "java/lang/Object") hx hb hG.1 hP1 0 rfl (t0 := 3) rfl rfl dJ7_copyOf_6403c_30 ?_
  refine lv_iload_n hx hb dJ7_copyOf_6403c_31 rfl (lv_at hl 2 rfl) ?_
  refine va_mmin hx hb (hml.trans hl.1.symm) hown (hts _ lk_J7_304) (hts _ st_min) (hts _ in_J9) (hts _ cd_min) (Nat.le_of_ble_eq_true rfl) (Nat.le_of_ble_eq_true rfl) (Nat.le_refl _) (by show 0 + N ≤ 150; omega) dJ7_copyOf_6403c_32 ?_
  rw [show (if nI N < Int32.ofNat n then nI N else Int32.ofNat n) = nI n from if_neg (nI_nlt hn (by omega))]
  have c0 : (0 : Int32).toNatClampNeg = 0 := rfl
  have cn : (nI n).toNatClampNeg = n := nI_clamp (by omega)
  refine va_copyM (E0 := "java/lang/Object") (E1 := "java/lang/Object") hx hb (hml.trans hl.1.symm) hown (hts _ lk_J7_150) (hts _ nt_copy) (hts _ st_copy) (hts _ in_J10) hG.1 hP1 hD1 hS1 0 1 3 3 rfl rfl rfl rfl (by decide) (by decide) (nI_pos (by omega)) (by rw [c0, cn]; omega) (by rw [c0, cn]; omega) (fun i hi y hy => by
    rw [cn] at hi
    rw [c0, Nat.zero_add] at hy
    exact (k2 i hi y hy).any hG) (Nat.le_of_ble_eq_true rfl) (Nat.le_of_ble_eq_true rfl) dJ7_copyOf_6403c_35 (fun H2 locs2 hP2 hD2 hS2 => ?_)
  rw [c0, cn] at hP2
  refine lv_aload_n hx hb dJ7_copyOf_6403c_38 rfl (lv_at hl 0 rfl) ?_
  exact ct_aret (v := .ref q1) E hr (Or.inr ⟨_, rfl⟩) (Or.inr ⟨_, rfl⟩) hk hS2 ⟨q1, rfl, hq1, hP2 1 _ rfl⟩ dJ7_copyOf_6403c_39 (Nat.le_refl _) (by show 0 + N ≤ 150; omega)

set_option maxHeartbeats 4000000 in
set_option maxRecDepth 100000 in
theorem c_J7_copyOf2 (l : Launch) (g : cG) (F : Nat → Prop) (q n N sz : Nat) (f : Nat → Option Nat) (hF : ∀ x, F x ↔ x < sz ∧ x ≠ q) (hn : n ≤ N) (hN : N ≤ 150) : CT l yJ7_copyOf_1904c cJ7_copyOf_1904c 2 (some (.array (.object "java/lang/Object"))) 2 83 1 150 g F [.ref q, .int (nI N)] (fun H => H.size = sz ∧ va_at g.1 vwCl (q, alA g n f) H ∧ ∀ i, i < n → ∀ y, f i = some y → AO g y H ∧ y ≠ q) (fun v H => ∃ q1 : Nat, v = some (.ref q1) ∧ sz ≤ q1 ∧ va_at g.1 vwCl (q1, alA g N (va_cpy f (fun _ => none) 0 0 n)) H) := by
  refine CT.of (by decide) rfl ?_
  intro p e s m args below meth c E hr hk hnm hP ls hl
  have hS : va_S (nF F) s.heap s.heap [] := va_S.rf
  have hx := E.1
  have hb := E.2.1
  have hml := E.2.2.1
  have hown := E.2.2.2.1
  have hts := E.2.2.2.2.1
  have hG := E.2.2.2.2.2
  have hl : lv_has ls 2 [(0, .ref q), (1, .int (nI N))] := hl
  have h1 := hP.2.1
  have hMi := hG.2.2.2.2.2.2.2.1
  have hDc := hG.2.2.2.2.2.2.2.2.1
  refine lv_aload_n hx hb dJ7_copyOf_1904c_0 rfl (lv_at hl 0 rfl) ?_
  refine lv_iload_n hx hb dJ7_copyOf_1904c_1 rfl (lv_at hl 1 rfl) ?_
  refine lv_aload_n hx hb dJ7_copyOf_1904c_2 rfl (lv_at hl 0 rfl) ?_
  refine va_getC hx hb (hml.trans hl.1.symm) hown (hts _ lk_J7_86) (va_Dc.use hDc) (hts _ sl_getC) (hts _ im_getC) (hts _ nt_getC) hMi ⟨_, h1, rfl, va_nmO (hG.1.2 3 _ rfl).2 (by decide +kernel)⟩ (Nat.le_of_ble_eq_true rfl) (Nat.le_of_ble_eq_true rfl) dJ7_copyOf_1904c_3 ?_
  refine ct_S E hS (c_J7_copyOf3 l g F q n N sz f hF hn hN) ok_J7_copyOf_6403c lk_J7_300 hP rfl hl ⟨rfl, rfl⟩ rfl ⟨Nat.le_refl _, Nat.le_refl _⟩ dJ7_copyOf_1904c_6 rfl (fun v9 H locs hv9 hS hz9 => ?_)
  obtain ⟨q1, rfl, hv9⟩ := hv9
  exact ct_aret (v := .ref q1) E hr (Or.inr ⟨_, rfl⟩) (Or.inr ⟨_, rfl⟩) hk hS ⟨q1, rfl, hv9⟩ dJ7_copyOf_1904c_9 (Nat.le_refl _) (Nat.le_refl _)
