/-! the model's constructor -/
theorem kcX5 : KC RX5 TX5 28 8 tyX5 := ⟨ly_X5, tyX5_ok, nmX5, rfl⟩
def mfp (ad : Nat → Nat) (k0 : Nat) : List Value := (List.range 28).map (fun k => if mA k = true then (if k < k0 then Value.ref (ad k) else .null) else .int 0)
theorem mfp_get {ad : Nat → Nat} {k0 k : Nat} (hk : k < 28) : (mfp ad k0)[k]? = some (if mA k = true then (if k < k0 then Value.ref (ad k) else .null) else .int 0) := by
  unfold mfp
  rw [List.getElem?_map, List.getElem?_range hk]
  rfl
theorem mfp_len {ad : Nat → Nat} {k0 : Nat} : (mfp ad k0).length = 28 := by simp [mfp]
theorem mfp_put {ad : Nat → Nat} {k z : Nat} (hk : k < 28) (ha : mA k = true) : (mfp ad k).set k (.ref z) = mfp (fun j => if j = k then z else ad j) (k + 1) := by
  apply List.ext_getElem?
  intro j
  by_cases hj : j < 28
  · rw [mfp_get hj]
    by_cases h : j = k
    · subst h
      rw [List.getElem?_set_self (by rw [mfp_len]; exact hk), ha]
      simp
    · rw [List.getElem?_set_ne (Ne.symm h), mfp_get hj]
      by_cases h2 : j < k
      · simp [h, h2, Nat.lt_succ_of_lt h2]
      · have h3 : ¬ j < k + 1 := by omega
        simp [h2, h3]
  · rw [List.getElem?_eq_none (by rw [List.length_set, mfp_len]; omega), List.getElem?_eq_none (by rw [mfp_len]; omega)]
theorem mfp_skip {ad : Nat → Nat} {k : Nat} (ha : mA k = false) : mfp ad k = mfp ad (k + 1) := by
  unfold mfp
  apply List.map_congr_left
  intro j _
  by_cases h : j = k
  · subst h; rw [ha]; rfl
  · by_cases h2 : j < k
    · simp [h2, Nat.lt_succ_of_lt h2]
    · have h3 : ¬ j < k + 1 := by omega
      simp [h2, h3]
def PMi (g : cG) (F : Nat → Prop) (o : Nat) (ad : Nat → Nat) (k0 : Nat) (H : Heap) : Prop :=
  (¬ F o ∧ ∀ k, k < k0 → mA k = true → ¬ F (ad k) ∧ ad k ≠ o ∧ ∀ j, j < k0 → mA j = true → ad j = ad k → j = k) ∧ va_at g.1 vwCl (o, .inr (8, mfp ad k0)) H ∧ (∀ k, k < k0 → mA k = true → va_at g.1 vwCl (ad k, .inl (g.2.1 (mY k), mL k, .inl (fun _ => 0))) H) ∧ ∀ q, F q → q < H.size
theorem PMi.skip {g : cG} {F : Nat → Prop} {o : Nat} {ad : Nat → Nat} {k : Nat} {H : Heap} (h : PMi g F o ad k H) (ha : mA k = false) : PMi g F o ad (k + 1) H := by
  have key : ∀ j, j < k + 1 → mA j = true → j < k := fun j hj hm => by
    have : j ≠ k := fun z => by rw [z, ha] at hm; cases hm
    omega
  exact ⟨⟨h.1.1, fun j hj hm => ⟨(h.1.2 j (key j hj hm) hm).1, (h.1.2 j (key j hj hm) hm).2.1, fun i hi hi2 e => (h.1.2 j (key j hj hm) hm).2.2 i (key i hi hi2) hi2 e⟩⟩, by rw [← mfp_skip ha]; exact h.2.1, fun j hj hm => h.2.2.1 j (key j hj hm) hm, h.2.2.2⟩
section MIR
variable {p : Program} {l : Launch} {e : Env} {R : Room} {s : State} {m : MethodId} {args : Array Value} {below : List Frame} {meth : Method} {c : Code} {H : Heap} {locs : List Loc} {cells slots : Nat} {Q : State → Prop}
variable {cc : ByteArray} {pc nL : Nat} {ls : Array Slot} {rest : List Value} {g : cG} {F : Nat → Prop} {H0 : Heap} {o : Nat} {ad : Nat → Nat}
theorem mi_step (E : EN p s m c cc nL args RX5 g F) (hnm : meth.name = "<init>") (hS : va_S (nF F) H0 H locs) (k : Nat) (hP : PMi g F o ad k H) {x : Nat} {v : Int32} {aty : ArrayType} {ty : FieldType} (hv : v = nI (mL k)) (hty : newarray.typeOf aty = ty) (hcw : Cond.arrayClass ty ∈ lw_g) (hRA : s.vm.findClass ("[" ++ ty.toString) = some (g.2.1 (mY k))) (hdf : defaultValue ty = .int 0) (hcb : componentBytes ty ≤ 4) (d1 : decode cc pc = .ok (.newarray aty, 2)) (d2 : decode cc (pc + 2) = .ok (.putfield x, 3)) (hcells : cells + 1 ≤ R.cells) (hslots : slots + mL k ≤ R.slots)
    (ha : mA k = true := by rfl) (hx : mX k = x := by rfl) (hk : Nat.ble (k + 1) 28 = true := by rfl) (hlk : Nat.ble (mL k) 30 = true := by rfl) (hfin : (TX5 k).2.2.2 = true := by rfl) (hnr : ∀ a : Nat, narrow (tyX5 k) (.ref a) = .ref a := by intro a; rfl) (hft : ∀ a : Nat, fits (tyX5 k) (.ref a) = true := by intro a; rfl)
    (kk : ∀ (ad2 : Nat → Nat) (H1 : Heap) (locs1 : List Loc), va_S (nF F) H0 H1 locs1 → PMi g F o ad2 (k + 1) H1 → W p l e R s m args below meth c H1 locs1 (cells + 1) (slots + mL k) Q (F0 m (pc + 5) ls rest)) : W p l e R s m args below meth c H locs cells slots Q (F0 m pc ls (.int v :: .ref o :: rest)) := by
  have hk := Nat.le_of_ble_eq_true hk
  have hlk := Nat.le_of_ble_eq_true hlk
  subst hx hv hty
  refine va_newaK E.1 E.2.1 (E.2.2.2.2.1 _ hcw) rfl d1 rfl (nI_pos (by omega)) (nI_clamp (by omega)) (by have := Nat.mul_le_mul hlk hcb; omega) hcells hslots rfl fun H1 cA e1 z1 o1 hAr hNm => ?_
  have hcA : cA = g.2.1 (mY k) := Option.some.inj (hNm.symm.trans hRA)
  subst hcA
  have ho : va_at g.1 vwCl (o, .inr (8, mfp ad k)) H1 := hP.2.1.kept (o1 _ hP.2.1.lt)
  have hoz : o < H.size := hP.2.1.lt
  have hcell : va_at g.1 vwCl (H.size, .inl (g.2.1 (mY k), mL k, .inl (fun _ => 0))) H1 := by
    show H1[H.size]? = some (vp_cell _ _)
    rw [vp_cell_i, e1, hdf]
  have hS1 : va_S (nF F) H0 H1 locs := ⟨Nat.le_trans hS.1 (by omega), fun x h1 h2 => (o1 x (Nat.lt_of_lt_of_le h1 hS.1)).trans (hS.2.1 x h1 h2), hS.2.2⟩
  refine w_putF E kcX5 hnm hS1 ho hP.1.1 k hk (mT1 k hk) (mLk k hk) hfin (hnr _) (hft _) (by rw [mfp_len]; exact hk) d2 fun H2 locs2 h2 z2 oq2 hS2 => ?_
  have hzF : ¬ F H.size := fun q => absurd (hP.2.2.2 _ q) (Nat.lt_irrefl _)
  have hadl : ∀ j, j < k → mA j = true → ad j < H.size := fun j hj hm => (hP.2.2.1 j hj hm).lt
  refine kk (fun j => if j = k then H.size else ad j) H2 locs2 hS2 ⟨⟨hP.1.1, fun j hj hm => ?_⟩, by rw [← mfp_put hk ha]; exact h2, fun j hj hm => ?_, fun q hq => by have := hP.2.2.2 q hq; omega⟩
  · by_cases h : j = k
    · subst h
      refine ⟨by simp; exact hzF, by simp; omega, fun i hi hi2 e9 => ?_⟩
      by_cases h2 : i = j
      · exact h2
      · have := hadl i (by omega) hi2
        simp [h2] at e9
        omega
    · have hj2 : j < k := by omega
      have q := hP.1.2 j hj2 hm
      refine ⟨by simp [h]; exact q.1, by simp [h]; exact q.2.1, fun i hi hi2 e9 => ?_⟩
      by_cases h2 : i = k
      · have := hadl j hj2 hm
        simp [h2, h] at e9
        omega
      · simp [h2, h] at e9
        exact q.2.2 i (by omega) hi2 e9
  · by_cases h : j = k
    · subst h
      simp only [if_true]
      exact hcell.kept (oq2 _ (by show H.size ≠ o; omega))
    · have hj2 : j < k := by omega
      simp only [if_neg h]
      exact ((hP.2.2.1 j hj2 hm).kept (o1 _ (hadl j hj2 hm))).kept (oq2 _ (hP.1.2 j hj2 hm).2.1)
end MIR
def mIni : Nat → TT
  | 0 => fun _ _ => 0
  | i + 1 => tu (tu (mIni i) 1 i (-1)) 3 i 100
theorem PMi.pm {g : cG} {F : Nat → Prop} {o : Nat} {ad : Nat → Nat} {H : Heap} (h : PMi g F o ad 28 H) : PM g F o ad (mIni 0) H := by
  have lt28 : ∀ k, mA k = true → k < 28 := fun k hk => by
    refine Nat.lt_of_not_le (fun z => ?_)
    obtain ⟨j, rfl⟩ : ∃ j, k = j + 28 := ⟨k - 28, by omega⟩
    cases hk
  refine ⟨⟨h.1.1, fun k hk => ⟨(h.1.2 k (lt28 k hk) hk).1, (h.1.2 k (lt28 k hk) hk).2.1, fun j hj e => (h.1.2 k (lt28 k hk) hk).2.2 j (lt28 j hj) hj e⟩⟩, ?_, fun k hk => h.2.2.1 k (lt28 k hk) hk⟩
  have : mfl ad (mIni 0) = mfp ad 28 := by
    unfold mfl mfp
    apply List.map_congr_left
    intro k hk
    have hk := List.mem_range.mp hk
    simp only [hk, if_true]
    rfl
  rw [this]
  exact h.2.1
set_option maxRecDepth 100000 in
theorem ac_int : Cond.arrayClass .int ∈ lw_g := lw_gi 119 rfl rfl
set_option maxRecDepth 100000 in
theorem ac_char : Cond.arrayClass .char ∈ lw_g := lw_gi 945 rfl rfl
set_option maxRecDepth 100000 in
theorem ac_boolean : Cond.arrayClass .boolean ∈ lw_g := lw_gi 944 rfl rfl

set_option maxHeartbeats 4000000 in
set_option maxRecDepth 100000 in
theorem c_X5_init (l : Launch) (g : cG) (F : Nat → Prop) (o : Nat) (ho : ¬ F o) : CT l yX5_init cX5_init 2 none 1 12 17 271 g F [.ref o] (fun H => va_at g.1 vwCl (o, .inr (8, mfp (fun _ => 0) 0)) H ∧ ∀ q, F q → q < H.size) (fun v9 H9 => v9 = none ∧ ∃ ad, PM g F o ad (mIni 10) H9) := by
  refine CT.of (by decide) rfl ?_
  intro p e s m args below meth c E hr hk hnm hP ls hl
  have hS : va_S (nF F) s.heap s.heap [] := va_S.rf
  have hx := E.1
  have hb := E.2.1
  have hml := E.2.2.1
  have hown := E.2.2.2.1
  have hts := E.2.2.2.2.1
  have hG := E.2.2.2.2.2
  have hl : lv_has ls 2 [(0, .ref o)] := hl
  have hP0 : PMi g F o (fun _ => 0) 0 s.heap := ⟨⟨ho, fun k hk => absurd hk (Nat.not_lt_zero k)⟩, hP.1, fun k hk => absurd hk (Nat.not_lt_zero k), hP.2⟩
  refine lv_aload_n hx hb dX5_init_0 rfl (lv_at hl 0 rfl) ?_
  refine W.objInit hx hb hown (hts _ lk_X5_11) (hts _ im_obj) (hts _ cd_obj) rfl (by rw [hml]; exact hl.1) rfl dX5_init_1 (Nat.le_of_ble_eq_true rfl) (Nat.le_of_ble_eq_true rfl) ?_
  refine W.eq (g2 := F0 m 4 ls []) rfl ?_
  have hP1 := hP0.skip rfl
  refine lv_aload_n hx hb dX5_init_4 rfl (lv_at hl 0 rfl) ?_
  refine lv_bipush (v := 10) hx hb dX5_init_5 (by decide) ?_
  refine mi_step E hnm hS 1 hP1 (by rfl) (rfl : newarray.typeOf _ = .int) ac_int (hG.1.2 0 _ rfl).2 rfl (by decide) dX5_init_7 dX5_init_9 (Nat.le_of_ble_eq_true rfl) (Nat.le_of_ble_eq_true rfl) (kk := fun ad1 H locs hS hP2 => ?_)
  refine lv_aload_n hx hb dX5_init_12 rfl (lv_at hl 0 rfl) ?_
  refine lv_bipush (v := 10) hx hb dX5_init_13 (by decide) ?_
  refine mi_step E hnm hS 2 hP2 (by rfl) (rfl : newarray.typeOf _ = .int) ac_int (hG.1.2 0 _ rfl).2 rfl (by decide) dX5_init_15 dX5_init_17 (Nat.le_of_ble_eq_true rfl) (Nat.le_of_ble_eq_true rfl) (kk := fun ad2 H locs hS hP3 => ?_)
  refine lv_aload_n hx hb dX5_init_20 rfl (lv_at hl 0 rfl) ?_
  refine lv_bipush (v := 10) hx hb dX5_init_21 (by decide) ?_
  refine mi_step E hnm hS 3 hP3 (by rfl) (rfl : newarray.typeOf _ = .int) ac_int (hG.1.2 0 _ rfl).2 rfl (by decide) dX5_init_23 dX5_init_25 (Nat.le_of_ble_eq_true rfl) (Nat.le_of_ble_eq_true rfl) (kk := fun ad3 H locs hS hP4 => ?_)
  refine lv_aload_n hx hb dX5_init_28 rfl (lv_at hl 0 rfl) ?_
  refine lv_bipush (v := 8) hx hb dX5_init_29 (by decide) ?_
  refine mi_step E hnm hS 4 hP4 (by rfl) (rfl : newarray.typeOf _ = .int) ac_int (hG.1.2 0 _ rfl).2 rfl (by decide) dX5_init_31 dX5_init_33 (Nat.le_of_ble_eq_true rfl) (Nat.le_of_ble_eq_true rfl) (kk := fun ad4 H locs hS hP5 => ?_)
  refine lv_aload_n hx hb dX5_init_36 rfl (lv_at hl 0 rfl) ?_
  refine lv_bipush (v := 8) hx hb dX5_init_37 (by decide) ?_
  refine mi_step E hnm hS 5 hP5 (by rfl) (rfl : newarray.typeOf _ = .boolean) ac_boolean (hG.1.2 2 _ rfl).2 rfl (by decide) dX5_init_39 dX5_init_41 (Nat.le_of_ble_eq_true rfl) (Nat.le_of_ble_eq_true rfl) (kk := fun ad5 H locs hS hP6 => ?_)
  have hP7 := hP6.skip rfl
  refine lv_aload_n hx hb dX5_init_44 rfl (lv_at hl 0 rfl) ?_
  refine lv_bipush (v := 30) hx hb dX5_init_45 (by decide) ?_
  refine mi_step E hnm hS 7 hP7 (by rfl) (rfl : newarray.typeOf _ = .int) ac_int (hG.1.2 0 _ rfl).2 rfl (by decide) dX5_init_47 dX5_init_49 (Nat.le_of_ble_eq_true rfl) (Nat.le_of_ble_eq_true rfl) (kk := fun ad7 H locs hS hP8 => ?_)
  refine lv_aload_n hx hb dX5_init_52 rfl (lv_at hl 0 rfl) ?_
  refine lv_bipush (v := 30) hx hb dX5_init_53 (by decide) ?_
  refine mi_step E hnm hS 8 hP8 (by rfl) (rfl : newarray.typeOf _ = .int) ac_int (hG.1.2 0 _ rfl).2 rfl (by decide) dX5_init_55 dX5_init_57 (Nat.le_of_ble_eq_true rfl) (Nat.le_of_ble_eq_true rfl) (kk := fun ad8 H locs hS hP9 => ?_)
  refine lv_aload_n hx hb dX5_init_60 rfl (lv_at hl 0 rfl) ?_
  refine lv_bipush (v := 30) hx hb dX5_init_61 (by decide) ?_
  refine mi_step E hnm hS 9 hP9 (by rfl) (rfl : newarray.typeOf _ = .int) ac_int (hG.1.2 0 _ rfl).2 rfl (by decide) dX5_init_63 dX5_init_65 (Nat.le_of_ble_eq_true rfl) (Nat.le_of_ble_eq_true rfl) (kk := fun ad9 H locs hS hP10 => ?_)
  refine lv_aload_n hx hb dX5_init_68 rfl (lv_at hl 0 rfl) ?_
  refine lv_bipush (v := 30) hx hb dX5_init_69 (by decide) ?_
  refine mi_step E hnm hS 10 hP10 (by rfl) (rfl : newarray.typeOf _ = .int) ac_int (hG.1.2 0 _ rfl).2 rfl (by decide) dX5_init_71 dX5_init_73 (Nat.le_of_ble_eq_true rfl) (Nat.le_of_ble_eq_true rfl) (kk := fun ad10 H locs hS hP11 => ?_)
  refine lv_aload_n hx hb dX5_init_76 rfl (lv_at hl 0 rfl) ?_
  refine lv_bipush (v := 30) hx hb dX5_init_77 (by decide) ?_
  refine mi_step E hnm hS 11 hP11 (by rfl) (rfl : newarray.typeOf _ = .int) ac_int (hG.1.2 0 _ rfl).2 rfl (by decide) dX5_init_79 dX5_init_81 (Nat.le_of_ble_eq_true rfl) (Nat.le_of_ble_eq_true rfl) (kk := fun ad11 H locs hS hP12 => ?_)
  refine lv_aload_n hx hb dX5_init_84 rfl (lv_at hl 0 rfl) ?_
  refine lv_bipush (v := 30) hx hb dX5_init_85 (by decide) ?_
  refine mi_step E hnm hS 12 hP12 (by rfl) (rfl : newarray.typeOf _ = .int) ac_int (hG.1.2 0 _ rfl).2 rfl (by decide) dX5_init_87 dX5_init_89 (Nat.le_of_ble_eq_true rfl) (Nat.le_of_ble_eq_true rfl) (kk := fun ad12 H locs hS hP13 => ?_)
  refine lv_aload_n hx hb dX5_init_92 rfl (lv_at hl 0 rfl) ?_
  refine lv_bipush (v := 30) hx hb dX5_init_93 (by decide) ?_
  refine mi_step E hnm hS 13 hP13 (by rfl) (rfl : newarray.typeOf _ = .char) ac_char (hG.1.2 1 _ rfl).2 rfl (by decide) dX5_init_95 dX5_init_97 (Nat.le_of_ble_eq_true rfl) (Nat.le_of_ble_eq_true rfl) (kk := fun ad13 H locs hS hP14 => ?_)
  have hP15 := hP14.skip rfl
  have hP16 := hP15.skip rfl
  have hP17 := hP16.skip rfl
  refine lv_aload_n hx hb dX5_init_100 rfl (lv_at hl 0 rfl) ?_
  refine lv_iconst (v := 3) hx hb dX5_init_101 (by decide) ?_
  refine mi_step E hnm hS 17 hP17 (by rfl) (rfl : newarray.typeOf _ = .int) ac_int (hG.1.2 0 _ rfl).2 rfl (by decide) dX5_init_102 dX5_init_104 (Nat.le_of_ble_eq_true rfl) (Nat.le_of_ble_eq_true rfl) (kk := fun ad17 H locs hS hP18 => ?_)
  refine lv_aload_n hx hb dX5_init_107 rfl (lv_at hl 0 rfl) ?_
  refine lv_iconst (v := 3) hx hb dX5_init_108 (by decide) ?_
  refine mi_step E hnm hS 18 hP18 (by rfl) (rfl : newarray.typeOf _ = .int) ac_int (hG.1.2 0 _ rfl).2 rfl (by decide) dX5_init_109 dX5_init_111 (Nat.le_of_ble_eq_true rfl) (Nat.le_of_ble_eq_true rfl) (kk := fun ad18 H locs hS hP19 => ?_)
  refine lv_aload_n hx hb dX5_init_114 rfl (lv_at hl 0 rfl) ?_
  refine lv_iconst (v := 3) hx hb dX5_init_115 (by decide) ?_
  refine mi_step E hnm hS 19 hP19 (by rfl) (rfl : newarray.typeOf _ = .int) ac_int (hG.1.2 0 _ rfl).2 rfl (by decide) dX5_init_116 dX5_init_118 (Nat.le_of_ble_eq_true rfl) (Nat.le_of_ble_eq_true rfl) (kk := fun ad19 H locs hS hP20 => ?_)
  refine lv_aload_n hx hb dX5_init_121 rfl (lv_at hl 0 rfl) ?_
  refine lv_iconst (v := 3) hx hb dX5_init_122 (by decide) ?_
  refine mi_step E hnm hS 20 hP20 (by rfl) (rfl : newarray.typeOf _ = .char) ac_char (hG.1.2 1 _ rfl).2 rfl (by decide) dX5_init_123 dX5_init_125 (Nat.le_of_ble_eq_true rfl) (Nat.le_of_ble_eq_true rfl) (kk := fun ad20 H locs hS hP21 => ?_)
  refine lv_aload_n hx hb dX5_init_128 rfl (lv_at hl 0 rfl) ?_
  refine lv_iconst (v := 3) hx hb dX5_init_129 (by decide) ?_
  refine mi_step E hnm hS 21 hP21 (by rfl) (rfl : newarray.typeOf _ = .boolean) ac_boolean (hG.1.2 2 _ rfl).2 rfl (by decide) dX5_init_130 dX5_init_132 (Nat.le_of_ble_eq_true rfl) (Nat.le_of_ble_eq_true rfl) (kk := fun ad21 H locs hS hP22 => ?_)
  have hP23 := hP22.skip rfl
  have hP24 := hP23.skip rfl
  have hP25 := hP24.skip rfl
  have hP26 := hP25.skip rfl
  have hP27 := hP26.skip rfl
  have hP28 := hP27.skip rfl
  have hP := hP28.pm
  refine lv_iconst (v := 0) hx hb dX5_init_135 (by decide) ?_
  refine lv_istore_n (lv' := [(1, .int 0), (0, .ref o)]) hx hb dX5_init_136 rfl hl (by decide) rfl (fun ls hl => ?_)
  have LP : ∀ (n9 i : Nat), i ≤ 10 → 10 < i + n9 → ∀ (H : Heap) (locs : List Loc), va_S (nF F) s.heap H locs → PM g F o ad21 (mIni i) H → ∀ (ls : Array Slot), lv_has ls 2 [(1, .int (nI i)), (0, .ref o)] → W p l e { frames := 1, cells := 17, slots := 271, locals := 12 } s m args below meth c H locs 17 271 (MQ below (Qg F (fun v9 H9 => v9 = none ∧ ∃ ad, PM g F o ad (mIni 10) H9)) args s 17 271 (nF F)) (F0 m 137 ls []) := by
    intro n9
    induction n9 with
    | zero => intro i hi9 hn9; exact absurd hn9 (by omega)
    | succ n9 ih =>
      intro i hi hn H locs hS hP ls hl
      refine lv_iload_n hx hb dX5_init_137 rfl (lv_at hl 0 rfl) ?_
      refine lv_bipush (v := 10) hx hb dX5_init_138 (by decide) ?_
      refine lv_icmp_ge (tgt := 164) hx hb dX5_init_140 (by decide) (fun c1 => ?_) (fun c1 => ?_)
      · have e_i : i = 10 := by
          have := (nI_leI (by omega) (by omega)).mp (show nI 10 ≤ nI i from c1)
          omega
        subst e_i
        exact ct_vret E hr hk hS ⟨rfl, _, hP⟩ dX5_init_164 (Nat.le_refl _) (Nat.le_refl _)
      · have hi10 : i < 10 := Nat.lt_of_not_le (fun q => c1 (show nI 10 ≤ nI i from nI_le q (by omega)))
        refine lv_aload_n hx hb dX5_init_143 rfl (lv_at hl 1 rfl) ?_
        refine mga E hP 1 dX5_init_144 (kk := ?_)
        refine lv_iload_n hx hb dX5_init_147 rfl (lv_at hl 0 rfl) ?_
        refine lv_iconst (v := (-1)) hx hb dX5_init_148 (by decide) ?_
        refine msi E hS hP 1 i dX5_init_149 rfl hi10 (kk := fun H locs hS hP => ?_)
        refine lv_aload_n hx hb dX5_init_150 rfl (lv_at hl 1 rfl) ?_
        refine mga E hP 3 dX5_init_151 (kk := ?_)
        refine lv_iload_n hx hb dX5_init_154 rfl (lv_at hl 0 rfl) ?_
        refine lv_bipush (v := 100) hx hb dX5_init_155 (by decide) ?_
        refine msi E hS hP 3 i dX5_init_157 rfl hi10 (kk := fun H locs hS hP => ?_)
        refine lv_iinc (v := (nI (i + 1))) (lv' := [(1, .int (nI (i + 1))), (0, .ref o)]) hx hb dX5_init_158 hl (k := 0) rfl (by rw [nI_succ]; rfl) (by decide) rfl (fun ls hl => ?_)
        refine lv_goto (tgt := 137) hx hb dX5_init_161 (by decide) ?_
        exact ih (i + 1) hi10 (by omega) H locs hS hP ls hl
  exact LP 11 0 (Nat.zero_le _) (by omega) _ _ hS hP ls hl
