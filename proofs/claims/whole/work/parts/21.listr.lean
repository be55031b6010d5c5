set_option maxHeartbeats 4000000 in
set_option maxRecDepth 100000 in
theorem c_AL_size (l : Launch) (g : cG) (F : Nat → Prop) (a n : Nat) (P : Heap → Prop) (hPl : ∀ H, P H → ∃ md q, va_at g.1 vwCl (a, alO md q n) H) : CT l yJx4a65c_size_8abf5 cJx4a65c_size_8abf5 1 (some .int) 0 0 0 0 g F [.ref a] P (fun v H => v = some (.int (nI n)) ∧ P H) := by
  refine CT.of (by decide) rfl ?_
  intro p e s m args below meth c E hr hk hnm hP ls hl
  have hS : va_S (nF F) s.heap s.heap [] := va_S.rf
  have hx := E.1
  have hb := E.2.1
  have hml := E.2.2.1
  have hown := E.2.2.2.1
  have hts := E.2.2.2.2.1
  have hG := E.2.2.2.2.2
  have hl : lv_has ls 1 [(0, .ref a)] := hl
  obtain ⟨md, q, h1⟩ := hPl _ hP
  refine lv_aload_n hx hb dJx4a65c_size_8abf5_0 rfl (lv_at hl 0 rfl) ?_
  refine al_len E h1 dJx4a65c_size_8abf5_1 ?_
  exact ct_iret E hr hk hS ⟨rfl, hP⟩ dJx4a65c_size_8abf5_4

set_option maxHeartbeats 4000000 in
set_option maxRecDepth 100000 in
theorem c_AL_isEmpty (l : Launch) (g : cG) (F : Nat → Prop) (a n : Nat) (P : Heap → Prop) (hPl : ∀ H, P H → ∃ md q, va_at g.1 vwCl (a, alO md q n) H) : CT l yJx4a65c_isEmpty_aae02 cJx4a65c_isEmpty_aae02 1 (some .boolean) 0 0 0 0 g F [.ref a] P (fun v H => v = some (.int (b2i (nI n = 0))) ∧ P H) := by
  refine CT.of (by decide) rfl ?_
  intro p e s m args below meth c E hr hk hnm hP ls hl
  have hS : va_S (nF F) s.heap s.heap [] := va_S.rf
  have hx := E.1
  have hb := E.2.1
  have hml := E.2.2.1
  have hown := E.2.2.2.1
  have hts := E.2.2.2.2.1
  have hG := E.2.2.2.2.2
  have hl : lv_has ls 1 [(0, .ref a)] := hl
  obtain ⟨md, q, h1⟩ := hPl _ hP
  refine lv_aload_n hx hb dJx4a65c_isEmpty_aae02_0 rfl (lv_at hl 0 rfl) ?_
  refine al_len E h1 dJx4a65c_isEmpty_aae02_1 ?_
  refine lv_if_ne (tgt := 11) hx hb dJx4a65c_isEmpty_aae02_4 (by decide) (fun c1 => ?_) (fun c1 => ?_)
  · refine lv_iconst (v := 0) hx hb dJx4a65c_isEmpty_aae02_11 (by decide) ?_
    exact ct_zret E hr (by decide) hk hS ⟨by rw [b2i_f c1], hP⟩ dJx4a65c_isEmpty_aae02_12
  · refine lv_iconst (v := 1) hx hb dJx4a65c_isEmpty_aae02_7 (by decide) ?_
    refine lv_goto (tgt := 12) hx hb dJx4a65c_isEmpty_aae02_8 (by decide) ?_
    exact ct_zret E hr (by decide) hk hS ⟨by rw [b2i_t c1], hP⟩ dJx4a65c_isEmpty_aae02_12

set_option maxHeartbeats 4000000 in
set_option maxRecDepth 100000 in
theorem c_J3_check (l : Launch) (g : cG) (F : Nat → Prop) (i n : Nat) (P : Heap → Prop) (hin : i < n) (hn : n < 1000) : CT l yJ3_checkIndex_8e157 cJ3_checkIndex_8e157 3 (some .int) 0 0 0 0 g F [.int (nI i), .int (nI n), .null] P (fun v H => v = some (.int (nI i)) ∧ P H) := by
  refine CT.of (by decide) rfl ?_
  intro p e s m args below meth c E hr hk hnm hP ls hl
  have hS : va_S (nF F) s.heap s.heap [] := va_S.rf
  have hx := E.1
  have hb := E.2.1
  have hml := E.2.2.1
  have hown := E.2.2.2.1
  have hts := E.2.2.2.2.1
  have hG := E.2.2.2.2.2
  have hl : lv_has ls 3 [(0, .int (nI i)), (1, .int (nI n)), (2, .null)] := hl
  refine lv_iload_n hx hb dJ3_checkIndex_8e157_0 rfl (lv_at hl 0 rfl) ?_
  refine lv_if_lt (tgt := 9) hx hb dJ3_checkIndex_8e157_1 (by decide) (fun c1 => absurd c1 (nI_pos (by omega))) (fun c1 => ?_)
  refine lv_iload_n hx hb dJ3_checkIndex_8e157_4 rfl (lv_at hl 0 rfl) ?_
  refine lv_iload_n hx hb dJ3_checkIndex_8e157_5 rfl (lv_at hl 1 rfl) ?_
  refine lv_icmp_lt (tgt := 16) hx hb dJ3_checkIndex_8e157_6 (by decide) (fun c2 => ?_) (fun c2 => absurd (nI_lt hin (by omega)) c2)
  refine lv_iload_n hx hb dJ3_checkIndex_8e157_16 rfl (lv_at hl 0 rfl) ?_
  exact ct_iret E hr hk hS ⟨rfl, hP⟩ dJ3_checkIndex_8e157_17

set_option maxHeartbeats 4000000 in
set_option maxRecDepth 100000 in
theorem c_J15_check (l : Launch) (g : cG) (F : Nat → Prop) (i n : Nat) (P : Heap → Prop) (hin : i < n) (hn : n < 1000) : CT l yJ15_checkIndex_7cf53 cJ15_checkIndex_7cf53 2 (some .int) 1 22 0 0 g F [.int (nI i), .int (nI n)] P (fun v H => v = some (.int (nI i)) ∧ P H) := by
  refine CT.of (by decide) rfl ?_
  intro p e s m args below meth c E hr hk hnm hP ls hl
  have hS : va_S (nF F) s.heap s.heap [] := va_S.rf
  have hx := E.1
  have hb := E.2.1
  have hml := E.2.2.1
  have hown := E.2.2.2.1
  have hts := E.2.2.2.2.1
  have hG := E.2.2.2.2.2
  have hl : lv_has ls 2 [(0, .int (nI i)), (1, .int (nI n))] := hl
  refine lv_iload_n hx hb dJ15_checkIndex_7cf53_0 rfl (lv_at hl 0 rfl) ?_
  refine lv_iload_n hx hb dJ15_checkIndex_7cf53_1 rfl (lv_at hl 1 rfl) ?_
  refine lv_null hx hb dJ15_checkIndex_7cf53_2 ?_
  refine ct_S E hS (c_J3_check l g F i n _ hin hn) ok_J3_checkIndex_8e157 lk_J15_105 hP rfl hl ⟨rfl, rfl⟩ rfl ⟨Nat.le_refl _, Nat.le_refl _⟩ dJ15_checkIndex_7cf53_3 rfl (fun v9 H locs hv9 hS hz9 => ?_)
  obtain ⟨rfl, hP⟩ := hv9
  exact ct_iret E hr hk hS ⟨rfl, hP⟩ dJ15_checkIndex_7cf53_6

set_option maxHeartbeats 4000000 in
set_option maxRecDepth 100000 in
theorem c_AL_elementData (l : Launch) (g : cG) (F : Nat → Prop) (a i y : Nat) (P : Heap → Prop) (hPl : ∀ H, P H → ∃ md q n cap f, va_at g.1 vwCl (a, alO md q n) H ∧ va_at g.1 vwCl (q, alA g cap f) H ∧ i < cap ∧ cap ≤ 200 ∧ f i = some y) : CT l yJx4a65c_elementData_915e3 cJx4a65c_elementData_915e3 2 (some (.object "java/lang/Object")) 0 0 0 0 g F [.ref a, .int (nI i)] P (fun v H => v = some (.ref y) ∧ P H) := by
  refine CT.of (by decide) rfl ?_
  intro p e s m args below meth c E hr hk hnm hP ls hl
  have hS : va_S (nF F) s.heap s.heap [] := va_S.rf
  have hx := E.1
  have hb := E.2.1
  have hml := E.2.2.1
  have hown := E.2.2.2.1
  have hts := E.2.2.2.2.1
  have hG := E.2.2.2.2.2
  have hl : lv_has ls 2 [(0, .ref a), (1, .int (nI i))] := hl
  obtain ⟨md, q, n, cap, f, h1, h2, h3, h4, h5⟩ := hPl _ hP
  refine lv_aload_n hx hb dJx4a65c_elementData_915e3_0 rfl (lv_at hl 0 rfl) ?_
  refine al_arr E h1 dJx4a65c_elementData_915e3_1 ?_
  refine lv_iload_n hx hb dJx4a65c_elementData_915e3_4 rfl (lv_at hl 1 rfl) ?_
  refine va_aldq hx hb hG.1 (va_P1 h2) 0 3 rfl rfl (vp_in_nI h3 (by omega)) dJx4a65c_elementData_915e3_5 ?_
  rw [nI_clamp (by omega), h5]
  exact ct_aret (v := .ref y) E hr (Or.inl ⟨_, rfl⟩) (Or.inr ⟨_, rfl⟩) hk hS ⟨rfl, hP⟩ dJx4a65c_elementData_915e3_6

set_option maxHeartbeats 4000000 in
set_option maxRecDepth 100000 in
theorem c_AL_get (l : Launch) (g : cG) (F : Nat → Prop) (a i y n : Nat) (P : Heap → Prop) (hn : n < 1000) (hin : i < n) (hPl : ∀ H, P H → ∃ md q cap f, va_at g.1 vwCl (a, alO md q n) H ∧ va_at g.1 vwCl (q, alA g cap f) H ∧ i < cap ∧ cap ≤ 200 ∧ f i = some y) : CT l yJx4a65c_get_915e3 cJx4a65c_get_915e3 2 (some (.object "java/lang/Object")) 2 43 0 0 g F [.ref a, .int (nI i)] P (fun v H => v = some (.ref y) ∧ P H) := by
  refine CT.of (by decide) rfl ?_
  intro p e s m args below meth c E hr hk hnm hP ls hl
  have hS : va_S (nF F) s.heap s.heap [] := va_S.rf
  have hx := E.1
  have hb := E.2.1
  have hml := E.2.2.1
  have hown := E.2.2.2.1
  have hts := E.2.2.2.2.1
  have hG := E.2.2.2.2.2
  have hl : lv_has ls 2 [(0, .ref a), (1, .int (nI i))] := hl
  obtain ⟨md, q, cap, f, h1, h2, h3, h4, h5⟩ := hPl _ hP
  refine lv_iload_n hx hb dJx4a65c_get_915e3_0 rfl (lv_at hl 1 rfl) ?_
  refine lv_aload_n hx hb dJx4a65c_get_915e3_1 rfl (lv_at hl 0 rfl) ?_
  refine al_len E h1 dJx4a65c_get_915e3_2 ?_
  refine ct_S E hS (c_J15_check l g F i n _ hin hn) ok_J15_checkIndex_7cf53 lk_Jx4a65c_118 hP rfl hl ⟨rfl, rfl⟩ rfl ⟨Nat.le_refl _, Nat.le_refl _⟩ dJx4a65c_get_915e3_5 rfl (fun v9 H locs hv9 hS hz9 => ?_)
  obtain ⟨rfl, hP⟩ := hv9
  refine lv_pop hx hb dJx4a65c_get_915e3_8 rfl ?_
  refine lv_aload_n hx hb dJx4a65c_get_915e3_9 rfl (lv_at hl 0 rfl) ?_
  refine lv_iload_n hx hb dJx4a65c_get_915e3_10 rfl (lv_at hl 1 rfl) ?_
  refine ct_V E hS (c_AL_elementData l g F a i y P (fun H9 h9 => by obtain ⟨md, q, cap, f, k⟩ := hPl H9 h9; exact ⟨md, q, n, cap, f, k⟩)) ok_Jx4a65c_elementData_915e3 lk_Jx4a65c_123 hP (by obtain ⟨md, q, cap, f, k1, k⟩ := hPl _ hP; exact va_recv (q := (RJx4a65c, TJx4a65c, 3)) (q0 := 0) (ci := 2) hG.1 (va_P1 k1) rfl rfl) rfl hl ⟨rfl, rfl⟩ rfl ⟨Nat.le_refl _, Nat.le_refl _⟩ dJx4a65c_get_915e3_11 rfl (fun v9 H locs hv9 hS hz9 => ?_)
  obtain ⟨rfl, hP⟩ := hv9
  exact ct_aret (v := .ref y) E hr (Or.inl ⟨_, rfl⟩) (Or.inr ⟨_, rfl⟩) hk hS ⟨rfl, hP⟩ dJx4a65c_get_915e3_14
