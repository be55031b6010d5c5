set_option maxRecDepth 100000 in
theorem cd_obj : Cond.code objectInit ⟨#[0xb1]⟩ 1 none ∈ lw_g := lw_gi 92 rfl rfl
set_option maxRecDepth 100000 in
theorem im_obj : Cond.instanceMethod objectInit ∈ lw_g := lw_gi 91 rfl rfl
theorem va_P2 {D : va_G} {cl : List vw_C} {x y : Nat × va_E} {H : Heap} (h1 : va_at D cl x H) (h2 : va_at D cl y H) : va_P D cl [x, y] H := fun k z hz => by
  match k, hz with
  | 0, h9 => cases h9; exact h1
  | 1, h9 => cases h9; exact h2
  | k + 2, h9 => simp at h9
theorem va_D2 {A : Nat → Prop} {x y : Nat} {e e2 : va_E} (h1 : A x) (h2 : A y) (h : x ≠ y) : va_D A [(x, e), (y, e2)] := ⟨fun i j u v hi hj huv => by
    match i, j, hi, hj with
    | 0, 0, _, _ => rfl
    | 1, 1, _, _ => rfl
    | 0, 1, hi, hj => cases hi; cases hj; exact absurd huv h
    | 1, 0, hi, hj => cases hi; cases hj; exact absurd huv.symm h
    | i + 2, _, hi, _ => simp at hi
    | _, j + 2, _, hj => simp at hj, fun k u hu => by
    match k, hu with
    | 0, h9 => cases h9; exact h1
    | 1, h9 => cases h9; exact h2
    | k + 2, h9 => simp at h9⟩
set_option maxHeartbeats 4000000 in
set_option maxRecDepth 100000 in
theorem c_AL_fastRemove (l : Launch) (g : cG) (F : Nat → Prop) (a q i sz : Nat) (els : List Nat) (hF : ∀ z, F z → z < sz) (hy9 : ∀ y, y ∈ els → F y) (hi : i < els.length) (hn : els.length ≤ 99) : CT l yJx4a65c_fastRemove_b59b0 cJx4a65c_fastRemove_b59b0 4 none 1 60 0 0 g F [.ref a, .ref q, .int (nI i)] (fun H => H.size = sz ∧ AL g F a q els H) (fun v H => v = none ∧ AL g F a q (els.eraseIdx i) H) := by
  refine CT.of (by decide) rfl ?_
  intro p e s m args below meth c E hr hk hnm hP ls hl
  have hS : va_S (nF F) s.heap s.heap [] := va_S.rf
  have hx := E.1
  have hb := E.2.1
  have hml := E.2.2.1
  have hown := E.2.2.2.1
  have hts := E.2.2.2.2.1
  have hG := E.2.2.2.2.2
  have hl : lv_has ls 4 [(0, .ref a), (1, .ref q), (2, .int (nI i))] := hl
  obtain ⟨hsz, hL⟩ := hP
  obtain ⟨ha, ⟨md, h1⟩, hy, hA⟩ := hL
  rcases hA with ⟨rfl, -⟩ | ⟨hFq, hqa, cap, f, h2, hc1, hc0, hc2, hf⟩
  · exact absurd hi (by simp)
  obtain ⟨n, hnn⟩ : ∃ n, els.length = n + 1 := ⟨els.length - 1, by omega⟩
  have h1 : va_at g.1 vwCl (a, alO md q (n + 1)) s.heap := by rw [← hnn]; exact h1
  refine lv_aload_n hx hb dJx4a65c_fastRemove_b59b0_0 rfl (lv_at hl 0 rfl) ?_
  refine lv_dup hx hb dJx4a65c_fastRemove_b59b0_1 rfl ?_
  refine al_mget E h1 dJx4a65c_fastRemove_b59b0_2 ?_
  refine lv_iconst (v := 1) hx hb dJx4a65c_fastRemove_b59b0_5 (by decide) ?_
  refine lv_iadd hx hb dJx4a65c_fastRemove_b59b0_6 ?_
  refine al_mput E hS h1 ha dJx4a65c_fastRemove_b59b0_7 (fun H1 locs1 k1 z1 oq1 hS => ?_)
  have k2 := h2.kept (oq1 _ hqa)
  refine lv_aload_n hx hb dJx4a65c_fastRemove_b59b0_10 rfl (lv_at hl 0 rfl) ?_
  refine al_len E k1 dJx4a65c_fastRemove_b59b0_11 ?_
  refine lv_iconst (v := 1) hx hb dJx4a65c_fastRemove_b59b0_14 (by decide) ?_
  refine lv_isub hx hb dJx4a65c_fastRemove_b59b0_15 ?_
  refine W.eq (g2 := F0 m 16 ls [.int (nI n)]) (by rw [nI_pred]) ?_
  refine lv_dup hx hb dJx4a65c_fastRemove_b59b0_16 rfl ?_
  refine lv_istore_n (lv' := [(3, .int (nI n)), (0, .ref a), (1, .ref q), (2, .int (nI i))]) hx hb dJx4a65c_fastRemove_b59b0_17 rfl hl (by decide) rfl (fun ls hl => ?_)
  refine lv_iload_n hx hb dJx4a65c_fastRemove_b59b0_18 rfl (lv_at hl 3 rfl) ?_
  -- from 34 on, the array holding what is left in its first n places
  have TAIL : ∀ (f1 : Nat → Option Nat) (H : Heap) (locs : List Loc) (ls : Array Slot), va_S (nF F) s.heap H locs → va_at g.1 vwCl (a, alO (md + 1) q (n + 1)) H → va_at g.1 vwCl (q, alA g cap f1) H → (∀ j, j < n → f1 j = (els.eraseIdx i)[j]?) → lv_has ls 4 [(3, .int (nI n)), (0, .ref a), (1, .ref q), (2, .int (nI i))] →
      W p l e { frames := 1, cells := 0, slots := 0, locals := 60 } s m args below meth c H locs 0 0 (MQ below (Qg F (fun v H => v = none ∧ AL g F a q (els.eraseIdx i) H)) args s 0 0 (nF F)) (F0 m 34 ls []) := by
    intro f1 H locs ls hS k1 k2 hf1 hl
    refine lv_aload_n hx hb dJx4a65c_fastRemove_b59b0_34 rfl (lv_at hl 2 rfl) ?_
    refine lv_aload_n hx hb dJx4a65c_fastRemove_b59b0_35 rfl (lv_at hl 1 rfl) ?_
    refine lv_iload_n hx hb dJx4a65c_fastRemove_b59b0_36 rfl (lv_at hl 0 rfl) ?_
    refine lv_dup_x1 hx hb dJx4a65c_fastRemove_b59b0_37 rfl rfl ?_
    refine al_nput E hS k1 ha dJx4a65c_fastRemove_b59b0_38 (fun H2 locs2 k3 z3 oq3 hS => ?_)
    refine lv_null hx hb dJx4a65c_fastRemove_b59b0_41 ?_
    refine w_aastN E hS (k2.kept (oq3 _ hqa)) hFq rfl (by omega) hc2 dJx4a65c_fastRemove_b59b0_42 (fun H3 locs3 k4 z4 oq4 hS => ?_)
    have hlen : (els.eraseIdx i).length = n := by rw [List.length_eraseIdx, if_pos (by omega)]; omega
    refine ct_vret E hr hk hS ⟨rfl, ha, ⟨md + 1, ?_⟩, fun y hy8 => ?_, Or.inr ⟨hFq, hqa, cap, _, k4, ?_, hc0, hc2, ?_⟩⟩ dJx4a65c_fastRemove_b59b0_43
    · rw [hlen]; exact k3.kept (oq4 _ hqa.symm)
    · have hm := List.mem_of_mem_eraseIdx hy8
      exact (hy y hm).kept (hS.2.1 y (hy y hm).lt (fun z => z (hy9 y hm)))
    · omega
    · intro j hj
      rw [hlen] at hj
      rw [← hf1 j hj]
      show va_up f1 n none j = f1 j
      exact va_up_ne _ _ (by omega)
  refine lv_icmp_le (tgt := 34) hx hb dJx4a65c_fastRemove_b59b0_19 (by decide) (fun c1 => ?_) (fun c1 => ?_)
  · have hni : n ≤ i := (nI_leI (by omega) (by omega)).mp c1
    refine TAIL f H1 locs1 ls hS k1 k2 (fun j hj => ?_) hl
    rw [hf j (by omega), List.getElem?_eraseIdx, if_pos (by omega)]
  · have hni : i < n := Nat.lt_of_not_le (fun h9 => c1 (nI_le h9 (by omega)))
    refine lv_aload_n hx hb dJx4a65c_fastRemove_b59b0_22 rfl (lv_at hl 2 rfl) ?_
    refine lv_iload_n hx hb dJx4a65c_fastRemove_b59b0_23 rfl (lv_at hl 3 rfl) ?_
    refine lv_iconst (v := 1) hx hb dJx4a65c_fastRemove_b59b0_24 (by decide) ?_
    refine lv_iadd hx hb dJx4a65c_fastRemove_b59b0_25 ?_
    refine lv_aload_n hx hb dJx4a65c_fastRemove_b59b0_26 rfl (lv_at hl 2 rfl) ?_
    refine lv_iload_n hx hb dJx4a65c_fastRemove_b59b0_27 rfl (lv_at hl 3 rfl) ?_
    refine lv_iload_n hx hb dJx4a65c_fastRemove_b59b0_28 rfl (lv_at hl 0 rfl) ?_
    refine lv_iload_n hx hb dJx4a65c_fastRemove_b59b0_29 rfl (lv_at hl 3 rfl) ?_
    refine lv_isub hx hb dJx4a65c_fastRemove_b59b0_30 ?_
    refine W.eq (g2 := F0 m 31 ls [.int (nI (n - i)), .int (nI i), .ref q, .int (nI (i + 1)), .ref q]) (by rw [nI_1, pk_sub (by omega)]) ?_
    have e1 : (nI (n - i)).toNatClampNeg = n - i := nI_clamp (by omega)
    have e2 : (nI (i + 1)).toNatClampNeg = i + 1 := nI_clamp (by omega)
    have e3 : (nI i).toNatClampNeg = i := nI_clamp (by omega)
    refine va_copyM (E0 := "java/lang/Object") (E1 := "java/lang/Object") hx hb (hml.trans hl.1.symm) hown (hts _ lk_Jx4a65c_112) (hts _ nt_copy) (hts _ st_copy) (hts _ in_J10) hG.1 (va_P2 k1 k2) (va_D2 ha hFq hqa.symm) hS 1 1 3 3 rfl rfl rfl rfl (nI_pos (by omega)) (nI_pos (by omega)) (nI_pos (by omega)) (by rw [e1, e2]; omega) (by rw [e1, e3]; omega) (fun j hj y hy8 => by
      rw [e1] at hj
      rw [e2] at hy8
      rw [hf _ (by omega)] at hy8
      have hm := List.mem_of_getElem? hy8
      exact ((hy y hm).kept (oq1 y (fun z => ha (z ▸ hy9 y hm)))).any hG) (Nat.le_of_ble_eq_true rfl) (Nat.le_of_ble_eq_true rfl) dJx4a65c_fastRemove_b59b0_31 (fun H2 locs2 hP2 hD2 hS2 => ?_)
    rw [e1, e2, e3] at hP2
    refine TAIL _ H2 locs2 ls hS2 (hP2 0 _ rfl) (hP2 1 _ rfl) (fun j hj => ?_) hl
    rw [List.getElem?_eraseIdx]
    by_cases h : j < i
    · rw [if_pos h, pk_cpy_out (Or.inl h), hf j (by omega)]
    · rw [if_neg h, pk_cpy_in (by omega) (by omega), hf _ (by omega)]
      congr 1; omega

set_option maxHeartbeats 4000000 in
set_option maxRecDepth 100000 in
theorem c_AL_remove (l : Launch) (g : cG) (F : Nat → Prop) (a q i y sz : Nat) (els : List Nat) (hyi : els[i]? = some y) (hF : ∀ z, F z → z < sz) (hy9 : ∀ y, y ∈ els → F y) (hi : i < els.length) (hn : els.length ≤ 99) : CT l yJx4a65c_remove_915e3 cJx4a65c_remove_915e3 4 (some (.object "java/lang/Object")) 2 90 0 0 g F [.ref a, .int (nI i)] (fun H => H.size = sz ∧ AL g F a q els H) (fun v H => v = some (.ref y) ∧ AL g F a q (els.eraseIdx i) H) := by
  refine CT.of (by decide) rfl ?_
  intro p e s m args below meth c E hr hk hnm hP ls hl
  have hS : va_S (nF F) s.heap s.heap [] := va_S.rf
  have hx := E.1
  have hb := E.2.1
  have hml := E.2.2.1
  have hown := E.2.2.2.1
  have hts := E.2.2.2.2.1
  have hG := E.2.2.2.2.2
  have hl : lv_has ls 4 [(0, .ref a), (1, .int (nI i))] := hl
  have hP0 := hP
  obtain ⟨hsz, hL⟩ := hP
  obtain ⟨ha, ⟨md, h1⟩, hy, hA⟩ := hL
  rcases hA with ⟨rfl, -⟩ | ⟨hFq, hqa, cap, f, h2, hc1, hc0, hc2, hf⟩
  · exact absurd hi (by simp)
  refine lv_iload_n hx hb dJx4a65c_remove_915e3_0 rfl (lv_at hl 1 rfl) ?_
  refine lv_aload_n hx hb dJx4a65c_remove_915e3_1 rfl (lv_at hl 0 rfl) ?_
  refine al_len E h1 dJx4a65c_remove_915e3_2 ?_
  refine ct_S E hS (c_J15_check l g F i els.length (fun H => va_at g.1 vwCl (a, alO md q els.length) H ∧ va_at g.1 vwCl (q, alA g cap f) H ∧ H.size = sz ∧ AL g F a q els H) hi (by omega)) ok_J15_checkIndex_7cf53 lk_Jx4a65c_118 ⟨h1, h2, hP0⟩ rfl hl ⟨rfl, rfl⟩ rfl ⟨Nat.le_refl _, Nat.le_refl _⟩ dJx4a65c_remove_915e3_5 rfl (fun v9 H locs hv9 hS hz9 => ?_)
  obtain ⟨rfl, h1, h2, hP⟩ := hv9
  refine lv_pop hx hb dJx4a65c_remove_915e3_8 rfl ?_
  refine lv_aload_n hx hb dJx4a65c_remove_915e3_9 rfl (lv_at hl 0 rfl) ?_
  refine al_arr E h1 dJx4a65c_remove_915e3_10 ?_
  refine lv_astore_n (lv' := [(2, .ref q), (0, .ref a), (1, .int (nI i))]) hx hb dJx4a65c_remove_915e3_13 rfl hl (by decide) rfl (fun ls hl => ?_)
  refine lv_aload_n hx hb dJx4a65c_remove_915e3_14 rfl (lv_at hl 0 rfl) ?_
  refine lv_iload_n hx hb dJx4a65c_remove_915e3_15 rfl (lv_at hl 2 rfl) ?_
  refine va_aldq hx hb hG.1 (va_P1 h2) 0 3 rfl rfl (vp_in_nI (N := cap) (by omega) (by omega)) dJx4a65c_remove_915e3_16 ?_
  rw [nI_clamp (by omega), hf i hi, hyi]
  refine lv_astore_n (x := y) (lv' := [(3, .ref y), (2, .ref q), (0, .ref a), (1, .int (nI i))]) hx hb dJx4a65c_remove_915e3_17 rfl hl (by decide) rfl (fun ls hl => ?_)
  refine lv_aload_n hx hb dJx4a65c_remove_915e3_18 rfl (lv_at hl 2 rfl) ?_
  refine lv_aload_n hx hb dJx4a65c_remove_915e3_19 rfl (lv_at hl 1 rfl) ?_
  refine lv_iload_n hx hb dJx4a65c_remove_915e3_20 rfl (lv_at hl 3 rfl) ?_
  refine ct_V E hS (c_AL_fastRemove l g F a q i sz els hF hy9 hi hn) ok_Jx4a65c_fastRemove_b59b0 lk_Jx4a65c_144 hP (va_recv (q := (RJx4a65c, TJx4a65c, 3)) (q0 := 0) (ci := 2) hG.1 (va_P1 h1) rfl rfl) rfl hl ⟨rfl, rfl⟩ rfl ⟨Nat.le_refl _, Nat.le_refl _⟩ dJx4a65c_remove_915e3_21 rfl (fun v9 H locs hv9 hS hz9 => ?_)
  obtain ⟨rfl, hv9⟩ := hv9
  refine lv_aload_n hx hb dJx4a65c_remove_915e3_24 rfl (lv_at hl 0 rfl) ?_
  exact ct_aret (v := .ref y) E hr (Or.inl ⟨_, rfl⟩) (Or.inr ⟨_, rfl⟩) hk hS ⟨rfl, hv9⟩ dJx4a65c_remove_915e3_25

set_option maxHeartbeats 4000000 in
set_option maxRecDepth 100000 in
theorem c_AC_init (l : Launch) (g : cG) (F : Nat → Prop) (a : Nat) (P : Heap → Prop) : CT l yJxa1e45_init_da8c8 cJxa1e45_init_da8c8 1 none 1 12 0 0 g F [.ref a] P (fun v H => v = none ∧ P H) := by
  refine CT.of (by decide) rfl ?_
  intro p e s m args below meth c E hr hk hnm hP ls hl
  have hS : va_S (nF F) s.heap s.heap [] := va_S.rf
  have hx := E.1
  have hb := E.2.1
  have hml := E.2.2.1
  have hown := E.2.2.2.1
  have hts := E.2.2.2.2.1
  have hG := E.2.2.2.2.2
  have hl : lv_has ls 1 [(0, .ref a)] := hl
  refine lv_aload_n hx hb dJxa1e45_init_da8c8_0 rfl (lv_at hl 0 rfl) ?_
  refine W.objInit hx hb hown (hts _ lk_Jxa1e45_1) (hts _ im_obj) (hts _ cd_obj) rfl (by rw [hml]; exact hl.1) rfl dJxa1e45_init_da8c8_1 (Nat.le_of_ble_eq_true rfl) (Nat.le_of_ble_eq_true rfl) ?_
  refine W.eq (g2 := F0 m 4 ls []) rfl ?_
  exact ct_vret E hr hk hS ⟨rfl, hP⟩ dJxa1e45_init_da8c8_4

set_option maxHeartbeats 4000000 in
set_option maxRecDepth 100000 in
theorem c_AbsL_init (l : Launch) (g : cG) (F : Nat → Prop) (a : Nat) (ha : ¬ F a) : CT l yJxc12de_init_da8c8 cJxc12de_init_da8c8 1 none 2 32 0 0 g F [.ref a] (fun H => va_at g.1 vwCl (a, .inr (2, [.int 0, .null, .int 0])) H) (fun v H => v = none ∧ va_at g.1 vwCl (a, .inr (2, [.int 0, .null, .int 0])) H) := by
  refine CT.of (by decide) rfl ?_
  intro p e s m args below meth c E hr hk hnm hP ls hl
  have hS : va_S (nF F) s.heap s.heap [] := va_S.rf
  have hx := E.1
  have hb := E.2.1
  have hml := E.2.2.1
  have hown := E.2.2.2.1
  have hts := E.2.2.2.2.1
  have hG := E.2.2.2.2.2
  have hl : lv_has ls 1 [(0, .ref a)] := hl
  refine lv_aload_n hx hb dJxc12de_init_da8c8_0 rfl (lv_at hl 0 rfl) ?_
  refine ct_I E hS (c_AC_init l g F a (fun H => va_at g.1 vwCl (a, .inr (2, [.int 0, .null, .int 0])) H)) ok_Jxa1e45_init_da8c8 lk_Jxc12de_1 hP rfl hl ⟨rfl, rfl⟩ rfl ⟨Nat.le_refl _, Nat.le_refl _⟩ dJxc12de_init_da8c8_1 rfl (fun v9 H locs hv9 hS hz9 => ?_)
  obtain ⟨rfl, hP⟩ := hv9
  refine lv_aload_n hx hb dJxc12de_init_da8c8_4 rfl (lv_at hl 0 rfl) ?_
  refine lv_iconst (v := 0) hx hb dJxc12de_init_da8c8_5 (by decide) ?_
  refine w_putS E (C := RJx4a65c) (T := TJx4a65c) (N := 3) (ci := 2) ly_Jx4a65c tyJx4a65c tyJx4a65c_ok nmJx4a65c hS hP ha rfl 0 (by decide) (fun _ h9 => h9) fk_Jxc12de_7 rfl rfl rfl (by decide : 0 < 3) dJxc12de_init_da8c8_6 (fun H1 locs1 h1 z1 oq1 hS => ?_)
  exact ct_vret E hr hk hS ⟨rfl, h1⟩ dJxc12de_init_da8c8_9

set_option maxHeartbeats 4000000 in
set_option maxRecDepth 100000 in
theorem c_AL_init (l : Launch) (g : cG) (F : Nat → Prop) (a : Nat) (ha : ¬ F a) : CT l yJx4a65c_init_da8c8 cJx4a65c_init_da8c8 1 none 3 55 0 0 g F [.ref a] (fun H => va_at g.1 vwCl (a, .inr (2, [.int 0, .null, .int 0])) H) (fun v H => v = none ∧ AL g F a g.2.2.1 [] H) := by
  refine CT.of (by decide) rfl ?_
  intro p e s m args below meth c E hr hk hnm hP ls hl
  have hS : va_S (nF F) s.heap s.heap [] := va_S.rf
  have hx := E.1
  have hb := E.2.1
  have hml := E.2.2.1
  have hown := E.2.2.2.1
  have hts := E.2.2.2.2.1
  have hG := E.2.2.2.2.2
  have hl : lv_has ls 1 [(0, .ref a)] := hl
  refine lv_aload_n hx hb dJx4a65c_init_da8c8_0 rfl (lv_at hl 0 rfl) ?_
  refine ct_I E hS (c_AbsL_init l g F a ha) ok_Jxc12de_init_da8c8 lk_Jx4a65c_1 hP rfl hl ⟨rfl, rfl⟩ rfl ⟨Nat.le_refl _, Nat.le_refl _⟩ dJx4a65c_init_da8c8_1 rfl (fun v9 H locs hv9 hS hz9 => ?_)
  obtain ⟨rfl, hP⟩ := hv9
  refine lv_aload_n hx hb dJx4a65c_init_da8c8_4 rfl (lv_at hl 0 rfl) ?_
  refine va_gets hx hb hG.2.2.1 hS hown (hts _ fk_Jx4a65c_39) (fun _ h9 => h9) dJx4a65c_init_da8c8_5 ?_
  refine w_put E (C := RJx4a65c) (T := TJx4a65c) (N := 3) (ci := 2) ly_Jx4a65c tyJx4a65c tyJx4a65c_ok nmJx4a65c hS hP ha rfl 1 (by decide) rfl fk_Jx4a65c_9 rfl rfl rfl (by decide : 1 < 3) dJx4a65c_init_da8c8_8 (fun H1 locs1 h1 z1 oq1 hS => ?_)
  exact ct_vret E hr hk hS ⟨rfl, ha, ⟨0, h1⟩, fun y hy => by simp at hy, Or.inl ⟨rfl, rfl⟩⟩ dJx4a65c_init_da8c8_11
