theorem fit_c {x : Int32} (h : narrow .char (.int x) = .int x) : fits .char (.int x) = true := by rw [← h]; exact fits_narrow_char x
theorem fit_z {x : Int32} (h : narrow .boolean (.int x) = .int x) : fits .boolean (.int x) = true := by rw [← h]; exact fits_narrow_boolean x
set_option maxHeartbeats 4000000 in
set_option maxRecDepth 100000 in
theorem c_X0_init (l : Launch) (g : cG) (F : Nat → Prop) (a : Nat) (x : Int32) (ha : ¬ F a)  : CT l yX0_init cX0_init 2 none 1 12 0 0 g F [.ref a, .int x] (fun H => va_at g.1 vwCl (a, .inr (3, [.int 0, .int 0])) H) (fun v H => v = none ∧ va_at g.1 vwCl (a, .inr (3, [.int x, .int 0])) H) := by
  refine CT.of (by decide) rfl ?_
  intro p e s m args below meth c E hr hk hnm hP ls hl
  have hS : va_S (nF F) s.heap s.heap [] := va_S.rf
  have hx := E.1
  have hb := E.2.1
  have hml := E.2.2.1
  have hown := E.2.2.2.1
  have hts := E.2.2.2.2.1
  have hG := E.2.2.2.2.2
  have hl : lv_has ls 2 [(0, .ref a), (1, .int x)] := hl
  refine lv_aload_n hx hb dX0_init_0 rfl (lv_at hl 0 rfl) ?_
  refine W.objInit hx hb hown (hts _ lk_X0_1) (hts _ im_obj) (hts _ cd_obj) rfl (by rw [hml]; exact hl.1) rfl dX0_init_1 (Nat.le_of_ble_eq_true rfl) (Nat.le_of_ble_eq_true rfl) ?_
  refine W.eq (g2 := F0 m 4 ls []) rfl ?_
  refine lv_aload_n hx hb dX0_init_4 rfl (lv_at hl 0 rfl) ?_
  refine lv_iconst (v := 0) hx hb dX0_init_5 (by decide) ?_
  refine w_put E (C := RX0) (T := TX0) (N := 2) (ci := 3) ly_X0 tyX0 tyX0_ok nmX0 hS hP ha rfl 1 (by decide) rfl fk_X0_7 rfl (by decide) rfl (by decide : 1 < 2) dX0_init_6 (fun H1 locs1 hP z1 oq1 hS => ?_)
  refine lv_aload_n hx hb dX0_init_9 rfl (lv_at hl 0 rfl) ?_
  refine lv_iload_n hx hb dX0_init_10 rfl (lv_at hl 1 rfl) ?_
  refine w_putF E kcX0 hnm hS hP ha 0 (by decide) rfl fk_X0_13 rfl rfl rfl (by decide : 0 < 2) dX0_init_11 (fun H1 locs1 hP z1 oq1 hS => ?_)
  exact ct_vret E hr hk hS ⟨rfl, hP⟩ dX0_init_14

set_option maxHeartbeats 4000000 in
set_option maxRecDepth 100000 in
theorem c_X1_init (l : Launch) (g : cG) (F : Nat → Prop) (a : Nat) (x y z : Int32) (ha : ¬ F a) (hv : narrow .char (.int y) = .int y) : CT l yX1_init cX1_init 4 none 1 12 0 0 g F [.ref a, .int x, .int y, .int z] (fun H => va_at g.1 vwCl (a, .inr (4, [.int 0, .int 0, .int 0])) H) (fun v H => v = none ∧ va_at g.1 vwCl (a, .inr (4, [.int x, .int y, .int z])) H) := by
  refine CT.of (by decide) rfl ?_
  intro p e s m args below meth c E hr hk hnm hP ls hl
  have hS : va_S (nF F) s.heap s.heap [] := va_S.rf
  have hx := E.1
  have hb := E.2.1
  have hml := E.2.2.1
  have hown := E.2.2.2.1
  have hts := E.2.2.2.2.1
  have hG := E.2.2.2.2.2
  have hl : lv_has ls 4 [(0, .ref a), (1, .int x), (2, .int y), (3, .int z)] := hl
  refine lv_aload_n hx hb dX1_init_0 rfl (lv_at hl 0 rfl) ?_
  refine W.objInit hx hb hown (hts _ lk_X1_1) (hts _ im_obj) (hts _ cd_obj) rfl (by rw [hml]; exact hl.1) rfl dX1_init_1 (Nat.le_of_ble_eq_true rfl) (Nat.le_of_ble_eq_true rfl) ?_
  refine W.eq (g2 := F0 m 4 ls []) rfl ?_
  refine lv_aload_n hx hb dX1_init_4 rfl (lv_at hl 0 rfl) ?_
  refine lv_iload_n hx hb dX1_init_5 rfl (lv_at hl 1 rfl) ?_
  refine w_putF E kcX1 hnm hS hP ha 0 (by decide) rfl fk_X1_7 rfl rfl rfl (by decide : 0 < 3) dX1_init_6 (fun H1 locs1 hP z1 oq1 hS => ?_)
  refine lv_aload_n hx hb dX1_init_9 rfl (lv_at hl 0 rfl) ?_
  refine lv_iload_n hx hb dX1_init_10 rfl (lv_at hl 2 rfl) ?_
  refine w_putF E kcX1 hnm hS hP ha 1 (by decide) rfl fk_X1_13 rfl hv (fit_c hv) (by decide : 1 < 3) dX1_init_11 (fun H1 locs1 hP z1 oq1 hS => ?_)
  refine lv_aload_n hx hb dX1_init_14 rfl (lv_at hl 0 rfl) ?_
  refine lv_iload_n hx hb dX1_init_15 rfl (lv_at hl 3 rfl) ?_
  refine w_putF E kcX1 hnm hS hP ha 2 (by decide) rfl fk_X1_17 rfl rfl rfl (by decide : 2 < 3) dX1_init_16 (fun H1 locs1 hP z1 oq1 hS => ?_)
  exact ct_vret E hr hk hS ⟨rfl, hP⟩ dX1_init_19

set_option maxHeartbeats 4000000 in
set_option maxRecDepth 100000 in
theorem c_X2_init (l : Launch) (g : cG) (F : Nat → Prop) (a : Nat) (x y : Int32) (ha : ¬ F a)  : CT l yX2_init cX2_init 3 none 1 12 0 0 g F [.ref a, .int x, .int y] (fun H => va_at g.1 vwCl (a, .inr (5, [.int 0, .int 0, .int 0, .int 0, .int 0, .int 0])) H) (fun v H => v = none ∧ va_at g.1 vwCl (a, .inr (5, [.int x, .int y, .int 0, .int 1, .int 115, .int 0])) H) := by
  refine CT.of (by decide) rfl ?_
  intro p e s m args below meth c E hr hk hnm hP ls hl
  have hS : va_S (nF F) s.heap s.heap [] := va_S.rf
  have hx := E.1
  have hb := E.2.1
  have hml := E.2.2.1
  have hown := E.2.2.2.1
  have hts := E.2.2.2.2.1
  have hG := E.2.2.2.2.2
  have hl : lv_has ls 3 [(0, .ref a), (1, .int x), (2, .int y)] := hl
  refine lv_aload_n hx hb dX2_init_0 rfl (lv_at hl 0 rfl) ?_
  refine W.objInit hx hb hown (hts _ lk_X2_3) (hts _ im_obj) (hts _ cd_obj) rfl (by rw [hml]; exact hl.1) rfl dX2_init_1 (Nat.le_of_ble_eq_true rfl) (Nat.le_of_ble_eq_true rfl) ?_
  refine W.eq (g2 := F0 m 4 ls []) rfl ?_
  refine lv_aload_n hx hb dX2_init_4 rfl (lv_at hl 0 rfl) ?_
  refine lv_iconst (v := 0) hx hb dX2_init_5 (by decide) ?_
  refine w_put E (C := RX2) (T := TX2) (N := 6) (ci := 5) ly_X2 tyX2 tyX2_ok nmX2 hS hP ha rfl 2 (by decide) rfl fk_X2_9 rfl rfl rfl (by decide : 2 < 6) dX2_init_6 (fun H1 locs1 hP z1 oq1 hS => ?_)
  refine lv_aload_n hx hb dX2_init_9 rfl (lv_at hl 0 rfl) ?_
  refine lv_iconst (v := 1) hx hb dX2_init_10 (by decide) ?_
  refine w_put E (C := RX2) (T := TX2) (N := 6) (ci := 5) ly_X2 tyX2 tyX2_ok nmX2 hS hP ha rfl 3 (by decide) rfl fk_X2_15 rfl (by decide) rfl (by decide : 3 < 6) dX2_init_11 (fun H1 locs1 hP z1 oq1 hS => ?_)
  refine lv_aload_n hx hb dX2_init_14 rfl (lv_at hl 0 rfl) ?_
  refine lv_bipush (v := 115) hx hb dX2_init_15 (by decide) ?_
  refine w_put E (C := RX2) (T := TX2) (N := 6) (ci := 5) ly_X2 tyX2 tyX2_ok nmX2 hS hP ha rfl 4 (by decide) rfl fk_X2_19 rfl (by decide) rfl (by decide : 4 < 6) dX2_init_17 (fun H1 locs1 hP z1 oq1 hS => ?_)
  refine lv_aload_n hx hb dX2_init_20 rfl (lv_at hl 0 rfl) ?_
  refine lv_iconst (v := 0) hx hb dX2_init_21 (by decide) ?_
  refine w_put E (C := RX2) (T := TX2) (N := 6) (ci := 5) ly_X2 tyX2 tyX2_ok nmX2 hS hP ha rfl 5 (by decide) rfl fk_X2_23 rfl rfl rfl (by decide : 5 < 6) dX2_init_22 (fun H1 locs1 hP z1 oq1 hS => ?_)
  refine lv_aload_n hx hb dX2_init_25 rfl (lv_at hl 0 rfl) ?_
  refine lv_iload_n hx hb dX2_init_26 rfl (lv_at hl 1 rfl) ?_
  refine w_putF E kcX2 hnm hS hP ha 0 (by decide) rfl fk_X2_26 rfl rfl rfl (by decide : 0 < 6) dX2_init_27 (fun H1 locs1 hP z1 oq1 hS => ?_)
  refine lv_aload_n hx hb dX2_init_30 rfl (lv_at hl 0 rfl) ?_
  refine lv_iload_n hx hb dX2_init_31 rfl (lv_at hl 2 rfl) ?_
  refine w_putF E kcX2 hnm hS hP ha 1 (by decide) rfl fk_X2_29 rfl rfl rfl (by decide : 1 < 6) dX2_init_32 (fun H1 locs1 hP z1 oq1 hS => ?_)
  exact ct_vret E hr hk hS ⟨rfl, hP⟩ dX2_init_35

set_option maxHeartbeats 4000000 in
set_option maxRecDepth 100000 in
theorem c_X3_init (l : Launch) (g : cG) (F : Nat → Prop) (a : Nat) (x : Int32) (b : Nat) (y z : Int32) (ha : ¬ F a)  : CT l yX3_init cX3_init 5 none 1 12 0 0 g F [.ref a, .int x, .ref b, .int y, .int z] (fun H => va_at g.1 vwCl (a, .inr (6, [.int 0, .null, .int 0, .int 0, .int 0, .null, .int 0])) H) (fun v H => v = none ∧ va_at g.1 vwCl (a, .inr (6, [.int x, .ref b, .int y, .int z, .int 119, .null, .int 0])) H) := by
  refine CT.of (by decide) rfl ?_
  intro p e s m args below meth c E hr hk hnm hP ls hl
  have hS : va_S (nF F) s.heap s.heap [] := va_S.rf
  have hx := E.1
  have hb := E.2.1
  have hml := E.2.2.1
  have hown := E.2.2.2.1
  have hts := E.2.2.2.2.1
  have hG := E.2.2.2.2.2
  have hl : lv_has ls 5 [(0, .ref a), (1, .int x), (2, .ref b), (3, .int y), (4, .int z)] := hl
  refine lv_aload_n hx hb dX3_init_0 rfl (lv_at hl 0 rfl) ?_
  refine W.objInit hx hb hown (hts _ lk_X3_3) (hts _ im_obj) (hts _ cd_obj) rfl (by rw [hml]; exact hl.1) rfl dX3_init_1 (Nat.le_of_ble_eq_true rfl) (Nat.le_of_ble_eq_true rfl) ?_
  refine W.eq (g2 := F0 m 4 ls []) rfl ?_
  refine lv_aload_n hx hb dX3_init_4 rfl (lv_at hl 0 rfl) ?_
  refine lv_bipush (v := 119) hx hb dX3_init_5 (by decide) ?_
  refine w_put E (C := RX3) (T := TX3) (N := 7) (ci := 6) ly_X3 tyX3 tyX3_ok nmX3 hS hP ha rfl 4 (by decide) rfl fk_X3_9 rfl (by decide) rfl (by decide : 4 < 7) dX3_init_7 (fun H1 locs1 hP z1 oq1 hS => ?_)
  refine lv_aload_n hx hb dX3_init_10 rfl (lv_at hl 0 rfl) ?_
  refine lv_null hx hb dX3_init_11 ?_
  refine w_put E (C := RX3) (T := TX3) (N := 7) (ci := 6) ly_X3 tyX3 tyX3_ok nmX3 hS hP ha rfl 5 (by decide) rfl fk_X3_15 rfl rfl rfl (by decide : 5 < 7) dX3_init_12 (fun H1 locs1 hP z1 oq1 hS => ?_)
  refine lv_aload_n hx hb dX3_init_15 rfl (lv_at hl 0 rfl) ?_
  refine lv_iconst (v := 0) hx hb dX3_init_16 (by decide) ?_
  refine w_put E (C := RX3) (T := TX3) (N := 7) (ci := 6) ly_X3 tyX3 tyX3_ok nmX3 hS hP ha rfl 6 (by decide) rfl fk_X3_19 rfl rfl rfl (by decide : 6 < 7) dX3_init_17 (fun H1 locs1 hP z1 oq1 hS => ?_)
  refine lv_aload_n hx hb dX3_init_20 rfl (lv_at hl 0 rfl) ?_
  refine lv_iload_n hx hb dX3_init_21 rfl (lv_at hl 1 rfl) ?_
  refine w_putF E kcX3 hnm hS hP ha 0 (by decide) rfl fk_X3_23 rfl rfl rfl (by decide : 0 < 7) dX3_init_22 (fun H1 locs1 hP z1 oq1 hS => ?_)
  refine lv_aload_n hx hb dX3_init_25 rfl (lv_at hl 0 rfl) ?_
  refine lv_aload_n hx hb dX3_init_26 rfl (lv_at hl 2 rfl) ?_
  refine w_putF E kcX3 hnm hS hP ha 1 (by decide) rfl fk_X3_26 rfl rfl rfl (by decide : 1 < 7) dX3_init_27 (fun H1 locs1 hP z1 oq1 hS => ?_)
  refine lv_aload_n hx hb dX3_init_30 rfl (lv_at hl 0 rfl) ?_
  refine lv_iload_n hx hb dX3_init_31 rfl (lv_at hl 3 rfl) ?_
  refine w_put E (C := RX3) (T := TX3) (N := 7) (ci := 6) ly_X3 tyX3 tyX3_ok nmX3 hS hP ha rfl 2 (by decide) rfl fk_X3_30 rfl rfl rfl (by decide : 2 < 7) dX3_init_32 (fun H1 locs1 hP z1 oq1 hS => ?_)
  refine lv_aload_n hx hb dX3_init_35 rfl (lv_at hl 0 rfl) ?_
  refine lv_iload hx hb dX3_init_36 (lv_at hl 4 rfl) ?_
  refine w_put E (C := RX3) (T := TX3) (N := 7) (ci := 6) ly_X3 tyX3 tyX3_ok nmX3 hS hP ha rfl 3 (by decide) rfl fk_X3_33 rfl rfl rfl (by decide : 3 < 7) dX3_init_38 (fun H1 locs1 hP z1 oq1 hS => ?_)
  exact ct_vret E hr hk hS ⟨rfl, hP⟩ dX3_init_41

set_option maxHeartbeats 4000000 in
set_option maxRecDepth 100000 in
theorem c_X3_isIn (l : Launch) (g : cG) (F : Nat → Prop) (a b : Nat) (st : Int32) (lf : Option Nat) (P : Heap → Prop) (hPl : ∀ H, P H → ∃ fs, va_at g.1 vwCl (a, .inr (6, fs)) H ∧ fs[4]? = some (.int st) ∧ fs[5]? = some (va_rf lf)) : CT l yX3_isIn cX3_isIn 2 (some .boolean) 0 0 0 0 g F [.ref a, .ref b] P (fun v H => v = some (.int (b2i (st = 97 ∧ lf = some b))) ∧ P H) := by
  refine CT.of (by decide) rfl ?_
  intro p e s m args below meth c E hr hk hnm hP ls hl
  have hS : va_S (nF F) s.heap s.heap [] := va_S.rf
  have hx := E.1
  have hb := E.2.1
  have hml := E.2.2.1
  have hown := E.2.2.2.1
  have hts := E.2.2.2.2.1
  have hG := E.2.2.2.2.2
  have hl : lv_has ls 2 [(0, .ref a), (1, .ref b)] := hl
  obtain ⟨fs, h1, h2, h3⟩ := hPl _ hP
  refine lv_aload_n hx hb dX3_isIn_0 rfl (lv_at hl 0 rfl) ?_
  refine w_get E (C := RX3) (T := TX3) (N := 7) (ci := 6) ly_X3 h1 rfl 4 (by decide) rfl fk_X3_9 h2 dX3_isIn_1 ?_
  refine lv_bipush (v := 97) hx hb dX3_isIn_4 (by decide) ?_
  refine lv_icmp_ne (tgt := 21) hx hb dX3_isIn_6 (by decide) (fun c1 => ?_) (fun c1 => ?_)
  · refine lv_iconst (v := 0) hx hb dX3_isIn_21 (by decide) ?_
    exact ct_zret E hr (by decide) hk hS ⟨by rw [b2i_f (fun z => c1 z.1)], hP⟩ dX3_isIn_22
  · refine lv_aload_n hx hb dX3_isIn_9 rfl (lv_at hl 0 rfl) ?_
    refine w_get E (C := RX3) (T := TX3) (N := 7) (ci := 6) ly_X3 h1 rfl 5 (by decide) rfl fk_X3_15 h3 dX3_isIn_10 ?_
    refine lv_aload_n hx hb dX3_isIn_13 rfl (lv_at hl 1 rfl) ?_
    refine lv_acmp_ne (tgt := 21) (rx := lf) (ry := some b) hx hb dX3_isIn_14 (by decide) (fun c2 => ?_) (fun c2 => ?_)
    · refine lv_iconst (v := 0) hx hb dX3_isIn_21 (by decide) ?_
      exact ct_zret E hr (by decide) hk hS ⟨by rw [b2i_f (fun z => c2 z.2)], hP⟩ dX3_isIn_22
    · refine lv_iconst (v := 1) hx hb dX3_isIn_17 (by decide) ?_
      refine lv_goto (tgt := 22) hx hb dX3_isIn_18 (by decide) ?_
      exact ct_zret E hr (by decide) hk hS ⟨by rw [b2i_t ⟨c1, c2⟩], hP⟩ dX3_isIn_22

set_option maxHeartbeats 4000000 in
set_option maxRecDepth 100000 in
theorem c_X3_waitsFor (l : Launch) (g : cG) (F : Nat → Prop) (a b : Nat) (st : Int32) (lf : Option Nat) (P : Heap → Prop) (hPl : ∀ H, P H → ∃ fs, va_at g.1 vwCl (a, .inr (6, fs)) H ∧ fs[4]? = some (.int st) ∧ fs[5]? = some (va_rf lf)) : CT l yX3_waitsFor cX3_waitsFor 2 (some .boolean) 0 0 0 0 g F [.ref a, .ref b] P (fun v H => v = some (.int (b2i (st = 119 ∧ lf = some b))) ∧ P H) := by
  refine CT.of (by decide) rfl ?_
  intro p e s m args below meth c E hr hk hnm hP ls hl
  have hS : va_S (nF F) s.heap s.heap [] := va_S.rf
  have hx := E.1
  have hb := E.2.1
  have hml := E.2.2.1
  have hown := E.2.2.2.1
  have hts := E.2.2.2.2.1
  have hG := E.2.2.2.2.2
  have hl : lv_has ls 2 [(0, .ref a), (1, .ref b)] := hl
  obtain ⟨fs, h1, h2, h3⟩ := hPl _ hP
  refine lv_aload_n hx hb dX3_waitsFor_0 rfl (lv_at hl 0 rfl) ?_
  refine w_get E (C := RX3) (T := TX3) (N := 7) (ci := 6) ly_X3 h1 rfl 4 (by decide) rfl fk_X3_9 h2 dX3_waitsFor_1 ?_
  refine lv_bipush (v := 119) hx hb dX3_waitsFor_4 (by decide) ?_
  refine lv_icmp_ne (tgt := 21) hx hb dX3_waitsFor_6 (by decide) (fun c1 => ?_) (fun c1 => ?_)
  · refine lv_iconst (v := 0) hx hb dX3_waitsFor_21 (by decide) ?_
    exact ct_zret E hr (by decide) hk hS ⟨by rw [b2i_f (fun z => c1 z.1)], hP⟩ dX3_waitsFor_22
  · refine lv_aload_n hx hb dX3_waitsFor_9 rfl (lv_at hl 0 rfl) ?_
    refine w_get E (C := RX3) (T := TX3) (N := 7) (ci := 6) ly_X3 h1 rfl 5 (by decide) rfl fk_X3_15 h3 dX3_waitsFor_10 ?_
    refine lv_aload_n hx hb dX3_waitsFor_13 rfl (lv_at hl 1 rfl) ?_
    refine lv_acmp_ne (tgt := 21) (rx := lf) (ry := some b) hx hb dX3_waitsFor_14 (by decide) (fun c2 => ?_) (fun c2 => ?_)
    · refine lv_iconst (v := 0) hx hb dX3_waitsFor_21 (by decide) ?_
      exact ct_zret E hr (by decide) hk hS ⟨by rw [b2i_f (fun z => c2 z.2)], hP⟩ dX3_waitsFor_22
    · refine lv_iconst (v := 1) hx hb dX3_waitsFor_17 (by decide) ?_
      refine lv_goto (tgt := 22) hx hb dX3_waitsFor_18 (by decide) ?_
      exact ct_zret E hr (by decide) hk hS ⟨by rw [b2i_t ⟨c1, c2⟩], hP⟩ dX3_waitsFor_22

set_option maxHeartbeats 4000000 in
set_option maxRecDepth 100000 in
theorem c_X2_cleanForOneTick (l : Launch) (g : cG) (F : Nat → Prop) (a : Nat) (v0 v1 v2 v3 : Value) (sv cl : Int32) (ha : ¬ F a) : CT l yX2_cleanForOneTick cX2_cleanForOneTick 1 none 0 0 0 0 g F [.ref a] (fun H => va_at g.1 vwCl (a, .inr (5, [v0, v1, v2, v3, .int sv, .int cl])) H) (fun v H => v = none ∧ va_at g.1 vwCl (a, .inr (5, [v0, v1, v2, v3, .int (if 0 < cl - 1 then sv else 115), .int (cl - 1)])) H) := by
  refine CT.of (by decide) rfl ?_
  intro p e s m args below meth c E hr hk hnm hP ls hl
  have hS : va_S (nF F) s.heap s.heap [] := va_S.rf
  have hx := E.1
  have hb := E.2.1
  have hml := E.2.2.1
  have hown := E.2.2.2.1
  have hts := E.2.2.2.2.1
  have hG := E.2.2.2.2.2
  have hl : lv_has ls 1 [(0, .ref a)] := hl
  refine lv_aload_n hx hb dX2_cleanForOneTick_0 rfl (lv_at hl 0 rfl) ?_
  refine lv_dup hx hb dX2_cleanForOneTick_1 rfl ?_
  refine w_get E (C := RX2) (T := TX2) (N := 6) (ci := 5) ly_X2 hP rfl 5 (by decide) rfl fk_X2_23 rfl dX2_cleanForOneTick_2 ?_
  refine lv_iconst (v := 1) hx hb dX2_cleanForOneTick_5 (by decide) ?_
  refine lv_isub hx hb dX2_cleanForOneTick_6 ?_
  refine w_put E (C := RX2) (T := TX2) (N := 6) (ci := 5) ly_X2 tyX2 tyX2_ok nmX2 hS hP ha rfl 5 (by decide) rfl fk_X2_23 rfl rfl rfl (by decide : 5 < 6) dX2_cleanForOneTick_7 (fun H1 locs1 hP z1 oq1 hS => ?_)
  refine lv_aload_n hx hb dX2_cleanForOneTick_10 rfl (lv_at hl 0 rfl) ?_
  refine w_get E (C := RX2) (T := TX2) (N := 6) (ci := 5) ly_X2 hP rfl 5 (by decide) rfl fk_X2_23 rfl dX2_cleanForOneTick_11 ?_
  refine lv_if_gt (tgt := 23) hx hb dX2_cleanForOneTick_14 (by decide) (fun c1 => ?_) (fun c1 => ?_)
  · exact ct_vret E hr hk hS ⟨rfl, by rw [if_pos c1]; exact hP⟩ dX2_cleanForOneTick_23
  · refine lv_aload_n hx hb dX2_cleanForOneTick_17 rfl (lv_at hl 0 rfl) ?_
    refine lv_bipush (v := 115) hx hb dX2_cleanForOneTick_18 (by decide) ?_
    refine w_put E (C := RX2) (T := TX2) (N := 6) (ci := 5) ly_X2 tyX2 tyX2_ok nmX2 hS hP ha rfl 4 (by decide) rfl fk_X2_19 rfl (by decide) rfl (by decide : 4 < 6) dX2_cleanForOneTick_20 (fun H1 locs1 hP z1 oq1 hS => ?_)
    exact ct_vret E hr hk hS ⟨rfl, by rw [if_neg c1]; exact hP⟩ dX2_cleanForOneTick_23
