set_option maxHeartbeats 4000000 in
set_option maxRecDepth 100000 in
theorem c_X4_floorOf (l : Launch) (g : cG) (F : Nat → Prop) (A : Nat → Nat → Nat) (nb nl nr ne : Nat) (pr : List Nat) (t : TT) (hl9 : l.stackTraces = false) (x : Int32)  : CX l yX4_floorOf cX4_floorOf 3 (some .int) 7 111 (4) (24) g F [.ref (A 0 0), .int x] (PD g F A nb nl nr ne pr t)
    (fun v9 H9 => v9 = some (.int (if t 13 x.toNatClampNeg = 97 then (if t 10 x.toNatClampNeg < 0 then t 8 x.toNatClampNeg else t 18 (t 10 x.toNatClampNeg).toNatClampNeg) else t 8 x.toNatClampNeg)) ∧ (if dcN x nr = 0 then 0 else 1) = 0 ∧ PD g F A nb nl nr ne pr t H9)
    (fun E9 H9 => (0 < (if dcN x nr = 0 then 0 else 1) ∧ [kIOB][(if dcN x nr = 0 then 0 else 1) - 1]? = some E9) ∧ PD g F A nb nl nr ne pr t H9) := by
  refine CX.of (by decide) rfl ?_
  intro p e s m args below meth c E hr hk ht hP ls hl
  have hS : va_S (nF F) s.heap s.heap [] := va_S.rf
  have hx := E.1
  have hb := E.2.1
  have hE_ml := E.2.2.1
  have hown := E.2.2.2.1
  have hts := E.2.2.2.2.1
  have hG := E.2.2.2.2.2
  have hd0 := hP.di.1
  have hl : lv_has ls 3 [(0, .ref (A 0 0)), (1, .int x)] := hl
  refine lv_aload_n hx hb dX4_floorOf_0 rfl (lv_at hl 0 rfl) ?_
  refine lv_iload_n hx hb dX4_floorOf_1 rfl (lv_at hl 1 rfl) ?_
  refine cx_V E hS (c_X4_riderNumbered l g F A nb nl nr ne pr t hl9 x) ok_X4_riderNumbered lk_X4_136 hP (hP.recv hG) rfl hl ⟨rfl, rfl⟩ rfl ⟨Nat.le_of_ble_eq_true rfl, Nat.le_of_ble_eq_true rfl⟩ dX4_floorOf_2 rfl
    (fun E9 ce9 q9 H9 locs hX9 hz9 hS hc9 hv9 hf9 => by
      obtain ⟨⟨rfl, c_1⟩, hP9⟩ := hX9
      exact cx_out ht hk hc9 hv9 hf9 ⟨(by have hcode : (if dcN x nr = 0 then 0 else 1) = 1 := (by simp only [eq_false c_1, if_true, if_false, reduceIte, true_and, and_true, false_and, and_false, true_or, or_true, false_or, or_false, not_true_eq_false, not_false_eq_true, decide_true, decide_false, Bool.true_and, Bool.and_true, Bool.false_and, Bool.and_false, Bool.not_true, Bool.not_false, Bool.or_false, Bool.false_or, Bool.or_true, Bool.true_or]); rw [hcode]; exact ⟨by decide, rfl⟩), hP9⟩ hS (Nat.le_of_ble_eq_true rfl) (Nat.le_of_ble_eq_true rfl)) (fun v9 H locs hv9 hS hz9 => ?_)
  obtain ⟨jx, rfl, hjx, rfl, c_1, hP⟩ := hv9
  have jx_cl : (nI jx).toNatClampNeg = jx := nI_clamp (by omega)
  refine lv_astore_n (lv' := [(2, .ref (A 6 jx)), (0, .ref (A 0 0)), (1, .int (nI jx))]) hx hb dX4_floorOf_5 rfl hl (by decide) rfl (fun ls hl => ?_)
  refine lv_aload_n hx hb dX4_floorOf_6 rfl (lv_at hl 0 rfl) ?_
  refine dgn E hP 6 jx hjx kcX3 4 fn_X4_140 dX4_floorOf_7 (v := .int (t 13 jx)) (kk := ?_)
  refine lv_bipush (v := 97) hx hb dX4_floorOf_10 (by decide) ?_
  refine lv_icmp_ne (tgt := 30) hx hb dX4_floorOf_12 (by decide) (fun c_2 => ?_) (fun c_2 => ?_)
  · refine lv_aload_n hx hb dX4_floorOf_30 rfl (lv_at hl 0 rfl) ?_
    refine dgn E hP 6 jx hjx kcX3 2 fn_X4_151 dX4_floorOf_31 (v := .int (t 8 jx)) (kk := ?_)
    have hcode : (if dcN (nI jx) nr = 0 then 0 else 1) = 0 := by simp only [eq_true c_1, eq_false c_2, jx_cl, if_true, if_false, reduceIte, true_and, and_true, false_and, and_false, true_or, or_true, false_or, or_false, not_true_eq_false, not_false_eq_true, decide_true, decide_false, Bool.true_and, Bool.and_true, Bool.false_and, Bool.and_false, Bool.not_true, Bool.not_false, Bool.or_false, Bool.false_or, Bool.or_true, Bool.true_or]
    have e1 : (if t 13 (nI jx).toNatClampNeg = 97 then (if t 10 (nI jx).toNatClampNeg < 0 then t 8 (nI jx).toNatClampNeg else t 18 (t 10 (nI jx).toNatClampNeg).toNatClampNeg) else t 8 (nI jx).toNatClampNeg) = t 8 jx := by simp only [jx_cl, eq_true c_1, eq_false c_2, if_true, if_false, reduceIte, true_and, and_true, false_and, and_false, true_or, or_true, false_or, or_false, not_true_eq_false, not_false_eq_true, decide_true, decide_false, Bool.true_and, Bool.and_true, Bool.false_and, Bool.and_false, Bool.not_true, Bool.not_false, Bool.or_false, Bool.false_or, Bool.or_true, Bool.true_or]
    exact vx_ret (ct_iret E hr hk hS ⟨(by rw [e1]), hcode, hP⟩ dX4_floorOf_34 (Nat.le_of_ble_eq_true rfl) (Nat.le_of_ble_eq_true rfl))
  · refine lv_aload_n hx hb dX4_floorOf_15 rfl (lv_at hl 0 rfl) ?_
    refine dgn E hP 6 jx hjx kcX3 5 fn_X4_144 dX4_floorOf_16 (v := va_rf (lref A (t 10 jx))) (kk := ?_)
    refine lv_ifnullL (tgt := 30) (x := t 10 jx) hx hb dX4_floorOf_19 (by decide) (fun c_3 => ?_) (fun c_3 => ?_)
    · refine lv_aload_n hx hb dX4_floorOf_30 rfl (lv_at hl 0 rfl) ?_
      refine dgn E hP 6 jx hjx kcX3 2 fn_X4_151 dX4_floorOf_31 (v := .int (t 8 jx)) (kk := ?_)
      have hcode : (if dcN (nI jx) nr = 0 then 0 else 1) = 0 := by simp only [eq_true c_1, eq_true c_2, eq_true c_3, jx_cl, if_true, if_false, reduceIte, true_and, and_true, false_and, and_false, true_or, or_true, false_or, or_false, not_true_eq_false, not_false_eq_true, decide_true, decide_false, Bool.true_and, Bool.and_true, Bool.false_and, Bool.and_false, Bool.not_true, Bool.not_false, Bool.or_false, Bool.false_or, Bool.or_true, Bool.true_or]
      have e1 : (if t 13 (nI jx).toNatClampNeg = 97 then (if t 10 (nI jx).toNatClampNeg < 0 then t 8 (nI jx).toNatClampNeg else t 18 (t 10 (nI jx).toNatClampNeg).toNatClampNeg) else t 8 (nI jx).toNatClampNeg) = t 8 jx := by simp only [jx_cl, eq_true c_1, eq_true c_2, eq_true c_3, if_true, if_false, reduceIte, true_and, and_true, false_and, and_false, true_or, or_true, false_or, or_false, not_true_eq_false, not_false_eq_true, decide_true, decide_false, Bool.true_and, Bool.and_true, Bool.false_and, Bool.and_false, Bool.not_true, Bool.not_false, Bool.or_false, Bool.false_or, Bool.or_true, Bool.true_or]
      exact vx_ret (ct_iret E hr hk hS ⟨(by rw [e1]), hcode, hP⟩ dX4_floorOf_34 (Nat.le_of_ble_eq_true rfl) (Nat.le_of_ble_eq_true rfl))
    · obtain ⟨q_4, hq_4, eq_4⟩ := hP.lift hjx c_3
      have cq_4 : (nI q_4).toNatClampNeg = q_4 := nI_clamp (by omega)
      refine lv_aload_n hx hb dX4_floorOf_22 rfl (lv_at hl 0 rfl) ?_
      refine dgn E hP 6 jx hjx kcX3 5 fn_X4_144 dX4_floorOf_23 (v := .ref (A 5 q_4)) (hv := by show some (va_rf (lref A (t 10 jx))) = _; rw [eq_4, lref, if_neg (nI_pos (by omega)), nI_clamp (by omega)]; rfl) (kk := ?_)
      refine dgn E hP 5 q_4 hq_4 kcX2 2 fn_X4_148 dX4_floorOf_26 (v := .int (t 18 q_4)) (kk := ?_)
      have hcode : (if dcN (nI jx) nr = 0 then 0 else 1) = 0 := by simp only [eq_true c_1, eq_true c_2, eq_false c_3, jx_cl, eq_4, cq_4, if_true, if_false, reduceIte, true_and, and_true, false_and, and_false, true_or, or_true, false_or, or_false, not_true_eq_false, not_false_eq_true, decide_true, decide_false, Bool.true_and, Bool.and_true, Bool.false_and, Bool.and_false, Bool.not_true, Bool.not_false, Bool.or_false, Bool.false_or, Bool.or_true, Bool.true_or]
      have e1 : (if t 13 (nI jx).toNatClampNeg = 97 then (if t 10 (nI jx).toNatClampNeg < 0 then t 8 (nI jx).toNatClampNeg else t 18 (t 10 (nI jx).toNatClampNeg).toNatClampNeg) else t 8 (nI jx).toNatClampNeg) = t 18 q_4 := by simp only [jx_cl, eq_true c_1, eq_true c_2, eq_false c_3, if_true, if_false, reduceIte, true_and, and_true, false_and, and_false, true_or, or_true, false_or, or_false, not_true_eq_false, not_false_eq_true, decide_true, decide_false, Bool.true_and, Bool.and_true, Bool.false_and, Bool.and_false, Bool.not_true, Bool.not_false, Bool.or_false, Bool.false_or, Bool.or_true, Bool.true_or]; simp only [eq_4, cq_4]
      exact vx_ret (ct_iret E hr hk hS ⟨(by rw [e1]), hcode, hP⟩ dX4_floorOf_29 (Nat.le_of_ble_eq_true rfl) (Nat.le_of_ble_eq_true rfl))

set_option maxHeartbeats 4000000 in
set_option maxRecDepth 100000 in
theorem c_X4_liftOf (l : Launch) (g : cG) (F : Nat → Prop) (A : Nat → Nat → Nat) (nb nl nr ne : Nat) (pr : List Nat) (t : TT) (hl9 : l.stackTraces = false) (x : Int32)  : CX l yX4_liftOf cX4_liftOf 3 (some .int) 7 111 (4) (24) g F [.ref (A 0 0), .int x] (PD g F A nb nl nr ne pr t)
    (fun v9 H9 => v9 = some (.int (t 10 x.toNatClampNeg)) ∧ (if dcN x nr = 0 then (if t 10 x.toNatClampNeg < 0 then 2 else 0) else 1) = 0 ∧ PD g F A nb nl nr ne pr t H9)
    (fun E9 H9 => (0 < (if dcN x nr = 0 then (if t 10 x.toNatClampNeg < 0 then 2 else 0) else 1) ∧ [kIOB, kNSE][(if dcN x nr = 0 then (if t 10 x.toNatClampNeg < 0 then 2 else 0) else 1) - 1]? = some E9) ∧ PD g F A nb nl nr ne pr t H9) := by
  refine CX.of (by decide) rfl ?_
  intro p e s m args below meth c E hr hk ht hP ls hl
  have hS : va_S (nF F) s.heap s.heap [] := va_S.rf
  have hx := E.1
  have hb := E.2.1
  have hE_ml := E.2.2.1
  have hown := E.2.2.2.1
  have hts := E.2.2.2.2.1
  have hG := E.2.2.2.2.2
  have hd0 := hP.di.1
  have hl : lv_has ls 3 [(0, .ref (A 0 0)), (1, .int x)] := hl
  refine lv_aload_n hx hb dX4_liftOf_0 rfl (lv_at hl 0 rfl) ?_
  refine lv_iload_n hx hb dX4_liftOf_1 rfl (lv_at hl 1 rfl) ?_
  refine cx_V E hS (c_X4_riderNumbered l g F A nb nl nr ne pr t hl9 x) ok_X4_riderNumbered lk_X4_136 hP (hP.recv hG) rfl hl ⟨rfl, rfl⟩ rfl ⟨Nat.le_of_ble_eq_true rfl, Nat.le_of_ble_eq_true rfl⟩ dX4_liftOf_2 rfl
    (fun E9 ce9 q9 H9 locs hX9 hz9 hS hc9 hv9 hf9 => by
      obtain ⟨⟨rfl, c_1⟩, hP9⟩ := hX9
      exact cx_out ht hk hc9 hv9 hf9 ⟨(by have hcode : (if dcN x nr = 0 then (if t 10 x.toNatClampNeg < 0 then 2 else 0) else 1) = 1 := (by simp only [eq_false c_1, if_true, if_false, reduceIte, true_and, and_true, false_and, and_false, true_or, or_true, false_or, or_false, not_true_eq_false, not_false_eq_true, decide_true, decide_false, Bool.true_and, Bool.and_true, Bool.false_and, Bool.and_false, Bool.not_true, Bool.not_false, Bool.or_false, Bool.false_or, Bool.or_true, Bool.true_or]); rw [hcode]; exact ⟨by decide, rfl⟩), hP9⟩ hS (Nat.le_of_ble_eq_true rfl) (Nat.le_of_ble_eq_true rfl)) (fun v9 H locs hv9 hS hz9 => ?_)
  obtain ⟨jx, rfl, hjx, rfl, c_1, hP⟩ := hv9
  have jx_cl : (nI jx).toNatClampNeg = jx := nI_clamp (by omega)
  refine lv_astore_n (lv' := [(2, .ref (A 6 jx)), (0, .ref (A 0 0)), (1, .int (nI jx))]) hx hb dX4_liftOf_5 rfl hl (by decide) rfl (fun ls hl => ?_)
  refine lv_aload_n hx hb dX4_liftOf_6 rfl (lv_at hl 0 rfl) ?_
  refine dgn E hP 6 jx hjx kcX3 5 fn_X4_144 dX4_liftOf_7 (v := va_rf (lref A (t 10 jx))) (kk := ?_)
  refine lv_ifnonnullL (tgt := 23) (x := t 10 jx) hx hb dX4_liftOf_10 (by decide) (fun c_2 => ?_) (fun c_2 => ?_)
  · obtain ⟨q_3, hq_3, eq_3⟩ := hP.lift hjx c_2
    have cq_3 : (nI q_3).toNatClampNeg = q_3 := nI_clamp (by omega)
    refine lv_aload_n hx hb dX4_liftOf_23 rfl (lv_at hl 0 rfl) ?_
    refine dgn E hP 6 jx hjx kcX3 5 fn_X4_144 dX4_liftOf_24 (v := .ref (A 5 q_3)) (hv := by show some (va_rf (lref A (t 10 jx))) = _; rw [eq_3, lref, if_neg (nI_pos (by omega)), nI_clamp (by omega)]; rfl) (kk := ?_)
    refine dgn E hP 5 q_3 hq_3 kcX2 0 fn_X4_76 dX4_liftOf_27 (v := .int (nI q_3)) (kk := ?_)
    have hcode : (if dcN (nI jx) nr = 0 then (if t 10 (nI jx).toNatClampNeg < 0 then 2 else 0) else 1) = 0 := by simp only [jx_cl, eq_true c_1, eq_false c_2, if_true, if_false, reduceIte, true_and, and_true, false_and, and_false, true_or, or_true, false_or, or_false, not_true_eq_false, not_false_eq_true, decide_true, decide_false, Bool.true_and, Bool.and_true, Bool.false_and, Bool.and_false, Bool.not_true, Bool.not_false, Bool.or_false, Bool.false_or, Bool.or_true, Bool.true_or]
    have e1 : (t 10 (nI jx).toNatClampNeg) = (nI q_3) := by simp only [jx_cl, eq_3, cq_3]
    exact vx_ret (ct_iret E hr hk hS ⟨(by rw [e1]), hcode, hP⟩ dX4_liftOf_30 (Nat.le_of_ble_eq_true rfl) (Nat.le_of_ble_eq_true rfl))
  · exact cx_throw E hl9 hS ht hk dx_NSE (text := "the rider has no lift") (by simp [lw_str]) hl dX4_liftOf_13 dX4_liftOf_16 dX4_liftOf_17 dX4_liftOf_19 dX4_liftOf_22 ⟨rfl, rfl⟩ rfl ⟨Nat.le_of_ble_eq_true rfl, Nat.le_of_ble_eq_true rfl⟩ (Nat.le_of_ble_eq_true rfl) (Nat.le_of_ble_eq_true rfl) (fun H1 hz1 oq1 => ⟨(by have hcode : (if dcN (nI jx) nr = 0 then (if t 10 (nI jx).toNatClampNeg < 0 then 2 else 0) else 1) = 2 := (by simp only [jx_cl, eq_true c_1, eq_true c_2, if_true, if_false, reduceIte, true_and, and_true, false_and, and_false, true_or, or_true, false_or, or_false, not_true_eq_false, not_false_eq_true, decide_true, decide_false, Bool.true_and, Bool.and_true, Bool.false_and, Bool.and_false, Bool.not_true, Bool.not_false, Bool.or_false, Bool.false_or, Bool.or_true, Bool.true_or]); rw [hcode]; exact ⟨by decide, rfl⟩), hP.keep oq1 hz1⟩)

set_option maxHeartbeats 4000000 in
set_option maxRecDepth 100000 in
theorem c_X4_setTenant (l : Launch) (g : cG) (F : Nat → Prop) (A : Nat → Nat → Nat) (nb nl nr ne : Nat) (pr : List Nat) (t : TT) (hl9 : l.stackTraces = false) (x y : Int32)  : CX l yX4_setTenant cX4_setTenant 4 (some .int) 6 90 (4) (24) g F [.ref (A 0 0), .int x, .int y] (PD g F A nb nl nr ne pr t)
    (fun v9 H9 => v9 = some (.int (t 1 x.toNatClampNeg)) ∧ (if x ≤ 0 then 1 else if x < 10 then (if y < -1 then 2 else if y < 4 then 0 else 2) else 1) = 0 ∧ PD g F A nb nl nr ne pr (tu t 1 x.toNatClampNeg y) H9)
    (fun E9 H9 => (0 < (if x ≤ 0 then 1 else if x < 10 then (if y < -1 then 2 else if y < 4 then 0 else 2) else 1) ∧ [kIOB, kIAE][(if x ≤ 0 then 1 else if x < 10 then (if y < -1 then 2 else if y < 4 then 0 else 2) else 1) - 1]? = some E9) ∧ PD g F A nb nl nr ne pr t H9) := by
  refine CX.of (by decide) rfl ?_
  intro p e s m args below meth c E hr hk ht hP ls hl
  have hS : va_S (nF F) s.heap s.heap [] := va_S.rf
  have hx := E.1
  have hb := E.2.1
  have hE_ml := E.2.2.1
  have hown := E.2.2.2.1
  have hts := E.2.2.2.2.1
  have hG := E.2.2.2.2.2
  have hd0 := hP.di.1
  have hl : lv_has ls 4 [(0, .ref (A 0 0)), (1, .int x), (2, .int y)] := hl
  refine lv_iload_n hx hb dX4_setTenant_0 rfl (lv_at hl 1 rfl) ?_
  refine lv_if_le (tgt := 10) hx hb dX4_setTenant_1 (by decide) (fun c_1 => ?_) (fun c_1 => ?_)
  · exact cx_throw E hl9 hS ht hk dx_IOB (text := "the floor is out of range") (by simp [lw_str]) hl dX4_setTenant_10 dX4_setTenant_13 dX4_setTenant_14 dX4_setTenant_16 dX4_setTenant_19 ⟨rfl, rfl⟩ rfl ⟨Nat.le_of_ble_eq_true rfl, Nat.le_of_ble_eq_true rfl⟩ (Nat.le_of_ble_eq_true rfl) (Nat.le_of_ble_eq_true rfl) (fun H1 hz1 oq1 => ⟨(by have hcode : (if x ≤ 0 then 1 else if x < 10 then (if y < -1 then 2 else if y < 4 then 0 else 2) else 1) = 1 := (by simp only [eq_true c_1, eq_false (Int32.not_lt.mpr c_1), if_true, if_false, reduceIte, true_and, and_true, false_and, and_false, true_or, or_true, false_or, or_false, not_true_eq_false, not_false_eq_true, decide_true, decide_false, Bool.true_and, Bool.and_true, Bool.false_and, Bool.and_false, Bool.not_true, Bool.not_false, Bool.or_false, Bool.false_or, Bool.or_true, Bool.true_or]); rw [hcode]; exact ⟨by decide, rfl⟩), hP.keep oq1 hz1⟩)
  · refine lv_iload_n hx hb dX4_setTenant_4 rfl (lv_at hl 1 rfl) ?_
    refine lv_bipush (v := 10) hx hb dX4_setTenant_5 (by decide) ?_
    refine lv_icmp_lt (tgt := 20) hx hb dX4_setTenant_7 (by decide) (fun c_2 => ?_) (fun c_2 => ?_)
    · obtain ⟨f9, rfl, hf9_lo, hf9_hi⟩ := bet_nI 1 9 1 9 (lt10_bet c_1 c_2) (by decide) (by decide)
      have f9_cl : (nI f9).toNatClampNeg = f9 := nI_clamp (by omega)
      refine lv_iload_n hx hb dX4_setTenant_20 rfl (lv_at hl 2 rfl) ?_
      refine lv_iconst (v := (-1)) hx hb dX4_setTenant_21 (by decide) ?_
      refine lv_icmp_lt (tgt := 30) hx hb dX4_setTenant_22 (by decide) (fun c_3 => ?_) (fun c_3 => ?_)
      · exact cx_throw E hl9 hS ht hk dx_IAE (text := "the tenant is out of range") (by simp [lw_str]) hl dX4_setTenant_30 dX4_setTenant_33 dX4_setTenant_34 dX4_setTenant_36 dX4_setTenant_39 ⟨rfl, rfl⟩ rfl ⟨Nat.le_of_ble_eq_true rfl, Nat.le_of_ble_eq_true rfl⟩ (Nat.le_of_ble_eq_true rfl) (Nat.le_of_ble_eq_true rfl) (fun H1 hz1 oq1 => ⟨(by have hcode : (if (nI f9) ≤ 0 then 1 else if (nI f9) < 10 then (if y < -1 then 2 else if y < 4 then 0 else 2) else 1) = 2 := (by simp only [eq_false c_1, eq_true (Int32.not_le.mp c_1), eq_true c_2, eq_false (Int32.not_le.mpr c_2), eq_true c_3, eq_false (Int32.not_le.mpr c_3), if_true, if_false, reduceIte, true_and, and_true, false_and, and_false, true_or, or_true, false_or, or_false, not_true_eq_false, not_false_eq_true, decide_true, decide_false, Bool.true_and, Bool.and_true, Bool.false_and, Bool.and_false, Bool.not_true, Bool.not_false, Bool.or_false, Bool.false_or, Bool.or_true, Bool.true_or]); rw [hcode]; exact ⟨by decide, rfl⟩), hP.keep oq1 hz1⟩)
      · refine lv_iload_n hx hb dX4_setTenant_25 rfl (lv_at hl 2 rfl) ?_
        refine lv_iconst (v := 4) hx hb dX4_setTenant_26 (by decide) ?_
        refine lv_icmp_lt (tgt := 40) hx hb dX4_setTenant_27 (by decide) (fun c_4 => ?_) (fun c_4 => ?_)
        · refine lv_aload_n hx hb dX4_setTenant_40 rfl (lv_at hl 0 rfl) ?_
          refine dg E hP 0 fk_X4_9 dX4_setTenant_41 (v := .ref (A 1 0)) (kk := ?_)
          refine lv_iload_n hx hb dX4_setTenant_44 rfl (lv_at hl 1 rfl) ?_
          refine dai E hP 0 f9 (v := t 1 f9) dX4_setTenant_45 rfl (show f9 < 10 by omega) rfl (kk := ?_)
          refine lv_istore_n (lv' := [(3, .int (t 1 f9)), (0, .ref (A 0 0)), (1, .int (nI f9)), (2, .int y)]) hx hb dX4_setTenant_46 rfl hl (by decide) rfl (fun ls hl => ?_)
          refine lv_aload_n hx hb dX4_setTenant_47 rfl (lv_at hl 1 rfl) ?_
          refine dg E hP 0 fk_X4_9 dX4_setTenant_48 (v := .ref (A 1 0)) (kk := ?_)
          refine lv_iload_n hx hb dX4_setTenant_51 rfl (lv_at hl 2 rfl) ?_
          refine lv_iload_n hx hb dX4_setTenant_52 rfl (lv_at hl 3 rfl) ?_
          refine das E hS hP 0 f9 dX4_setTenant_53 rfl (show f9 < 10 by omega) (kk := fun H locs hS hP => ?_)
          refine lv_iload_n hx hb dX4_setTenant_54 rfl (lv_at hl 0 rfl) ?_
          have hcode : (if (nI f9) ≤ 0 then 1 else if (nI f9) < 10 then (if y < -1 then 2 else if y < 4 then 0 else 2) else 1) = 0 := by simp only [eq_false c_1, eq_true (Int32.not_le.mp c_1), eq_true c_2, eq_false (Int32.not_le.mpr c_2), eq_false c_3, eq_true (Int32.not_lt.mp c_3), eq_true c_4, eq_false (Int32.not_le.mpr c_4), if_true, if_false, reduceIte, true_and, and_true, false_and, and_false, true_or, or_true, false_or, or_false, not_true_eq_false, not_false_eq_true, decide_true, decide_false, Bool.true_and, Bool.and_true, Bool.false_and, Bool.and_false, Bool.not_true, Bool.not_false, Bool.or_false, Bool.false_or, Bool.or_true, Bool.true_or]
          have e1 : (t 1 (nI f9).toNatClampNeg) = t 1 f9 := by simp only [f9_cl]
          have e2 : (tu t 1 (nI f9).toNatClampNeg y) = (tu t 1 f9 y) := by simp only [f9_cl]
          exact vx_ret (ct_iret E hr hk hS ⟨(by rw [e1]), hcode, (by rw [e2]; exact hP)⟩ dX4_setTenant_55 (Nat.le_of_ble_eq_true rfl) (Nat.le_of_ble_eq_true rfl))
        · exact cx_throw E hl9 hS ht hk dx_IAE (text := "the tenant is out of range") (by simp [lw_str]) hl dX4_setTenant_30 dX4_setTenant_33 dX4_setTenant_34 dX4_setTenant_36 dX4_setTenant_39 ⟨rfl, rfl⟩ rfl ⟨Nat.le_of_ble_eq_true rfl, Nat.le_of_ble_eq_true rfl⟩ (Nat.le_of_ble_eq_true rfl) (Nat.le_of_ble_eq_true rfl) (fun H1 hz1 oq1 => ⟨(by have hcode : (if (nI f9) ≤ 0 then 1 else if (nI f9) < 10 then (if y < -1 then 2 else if y < 4 then 0 else 2) else 1) = 2 := (by simp only [eq_false c_1, eq_true (Int32.not_le.mp c_1), eq_true c_2, eq_false (Int32.not_le.mpr c_2), eq_false c_3, eq_true (Int32.not_lt.mp c_3), eq_false c_4, eq_true (Int32.not_lt.mp c_4), if_true, if_false, reduceIte, true_and, and_true, false_and, and_false, true_or, or_true, false_or, or_false, not_true_eq_false, not_false_eq_true, decide_true, decide_false, Bool.true_and, Bool.and_true, Bool.false_and, Bool.and_false, Bool.not_true, Bool.not_false, Bool.or_false, Bool.false_or, Bool.or_true, Bool.true_or]); rw [hcode]; exact ⟨by decide, rfl⟩), hP.keep oq1 hz1⟩)
    · exact cx_throw E hl9 hS ht hk dx_IOB (text := "the floor is out of range") (by simp [lw_str]) hl dX4_setTenant_10 dX4_setTenant_13 dX4_setTenant_14 dX4_setTenant_16 dX4_setTenant_19 ⟨rfl, rfl⟩ rfl ⟨Nat.le_of_ble_eq_true rfl, Nat.le_of_ble_eq_true rfl⟩ (Nat.le_of_ble_eq_true rfl) (Nat.le_of_ble_eq_true rfl) (fun H1 hz1 oq1 => ⟨(by have hcode : (if x ≤ 0 then 1 else if x < 10 then (if y < -1 then 2 else if y < 4 then 0 else 2) else 1) = 1 := (by simp only [eq_false c_1, eq_true (Int32.not_le.mp c_1), eq_false c_2, eq_true (Int32.not_lt.mp c_2), if_true, if_false, reduceIte, true_and, and_true, false_and, and_false, true_or, or_true, false_or, or_false, not_true_eq_false, not_false_eq_true, decide_true, decide_false, Bool.true_and, Bool.and_true, Bool.false_and, Bool.and_false, Bool.not_true, Bool.not_false, Bool.or_false, Bool.false_or, Bool.or_true, Bool.true_or]); rw [hcode]; exact ⟨by decide, rfl⟩), hP.keep oq1 hz1⟩)

set_option maxHeartbeats 4000000 in
set_option maxRecDepth 100000 in
theorem c_X4_setHours (l : Launch) (g : cG) (F : Nat → Prop) (A : Nat → Nat → Nat) (nb nl nr ne : Nat) (pr : List Nat) (t : TT) (hl9 : l.stackTraces = false) (x y z : Int32)  : CX l yX4_setHours cX4_setHours 4 (some .int) 6 90 (4) (24) g F [.ref (A 0 0), .int x, .int y, .int z] (PD g F A nb nl nr ne pr t)
    (fun v9 H9 => v9 = some (.int (z - y)) ∧ (if x ≤ 0 then 1 else if x < 10 then (if y < 0 then 2 else if y < 100 then (if y < z then (if z ≤ 100 then 0 else 2) else 2) else 2) else 1) = 0 ∧ PD g F A nb nl nr ne pr (tu (tu t 2 x.toNatClampNeg y) 3 x.toNatClampNeg z) H9)
    (fun E9 H9 => (0 < (if x ≤ 0 then 1 else if x < 10 then (if y < 0 then 2 else if y < 100 then (if y < z then (if z ≤ 100 then 0 else 2) else 2) else 2) else 1) ∧ [kIOB, kIAE][(if x ≤ 0 then 1 else if x < 10 then (if y < 0 then 2 else if y < 100 then (if y < z then (if z ≤ 100 then 0 else 2) else 2) else 2) else 1) - 1]? = some E9) ∧ PD g F A nb nl nr ne pr t H9) := by
  refine CX.of (by decide) rfl ?_
  intro p e s m args below meth c E hr hk ht hP ls hl
  have hS : va_S (nF F) s.heap s.heap [] := va_S.rf
  have hx := E.1
  have hb := E.2.1
  have hE_ml := E.2.2.1
  have hown := E.2.2.2.1
  have hts := E.2.2.2.2.1
  have hG := E.2.2.2.2.2
  have hd0 := hP.di.1
  have hl : lv_has ls 4 [(0, .ref (A 0 0)), (1, .int x), (2, .int y), (3, .int z)] := hl
  refine lv_iload_n hx hb dX4_setHours_0 rfl (lv_at hl 1 rfl) ?_
  refine lv_if_le (tgt := 10) hx hb dX4_setHours_1 (by decide) (fun c_1 => ?_) (fun c_1 => ?_)
  · exact cx_throw E hl9 hS ht hk dx_IOB (text := "the floor is out of range") (by simp [lw_str]) hl dX4_setHours_10 dX4_setHours_13 dX4_setHours_14 dX4_setHours_16 dX4_setHours_19 ⟨rfl, rfl⟩ rfl ⟨Nat.le_of_ble_eq_true rfl, Nat.le_of_ble_eq_true rfl⟩ (Nat.le_of_ble_eq_true rfl) (Nat.le_of_ble_eq_true rfl) (fun H1 hz1 oq1 => ⟨(by have hcode : (if x ≤ 0 then 1 else if x < 10 then (if y < 0 then 2 else if y < 100 then (if y < z then (if z ≤ 100 then 0 else 2) else 2) else 2) else 1) = 1 := (by simp only [eq_true c_1, eq_false (Int32.not_lt.mpr c_1), if_true, if_false, reduceIte, true_and, and_true, false_and, and_false, true_or, or_true, false_or, or_false, not_true_eq_false, not_false_eq_true, decide_true, decide_false, Bool.true_and, Bool.and_true, Bool.false_and, Bool.and_false, Bool.not_true, Bool.not_false, Bool.or_false, Bool.false_or, Bool.or_true, Bool.true_or]); rw [hcode]; exact ⟨by decide, rfl⟩), hP.keep oq1 hz1⟩)
  · refine lv_iload_n hx hb dX4_setHours_4 rfl (lv_at hl 1 rfl) ?_
    refine lv_bipush (v := 10) hx hb dX4_setHours_5 (by decide) ?_
    refine lv_icmp_lt (tgt := 20) hx hb dX4_setHours_7 (by decide) (fun c_2 => ?_) (fun c_2 => ?_)
    · obtain ⟨f9, rfl, hf9_lo, hf9_hi⟩ := bet_nI 1 9 1 9 (lt10_bet c_1 c_2) (by decide) (by decide)
      have f9_cl : (nI f9).toNatClampNeg = f9 := nI_clamp (by omega)
      refine lv_iload_n hx hb dX4_setHours_20 rfl (lv_at hl 2 rfl) ?_
      refine lv_if_lt (tgt := 41) hx hb dX4_setHours_21 (by decide) (fun c_3 => ?_) (fun c_3 => ?_)
      · exact cx_throw E hl9 hS ht hk dx_IAE (text := "a time is out of range") (by simp [lw_str]) hl dX4_setHours_41 dX4_setHours_44 dX4_setHours_45 dX4_setHours_47 dX4_setHours_50 ⟨rfl, rfl⟩ rfl ⟨Nat.le_of_ble_eq_true rfl, Nat.le_of_ble_eq_true rfl⟩ (Nat.le_of_ble_eq_true rfl) (Nat.le_of_ble_eq_true rfl) (fun H1 hz1 oq1 => ⟨(by have hcode : (if (nI f9) ≤ 0 then 1 else if (nI f9) < 10 then (if y < 0 then 2 else if y < 100 then (if y < z then (if z ≤ 100 then 0 else 2) else 2) else 2) else 1) = 2 := (by simp only [eq_false c_1, eq_true (Int32.not_le.mp c_1), eq_true c_2, eq_false (Int32.not_le.mpr c_2), eq_true c_3, eq_false (Int32.not_le.mpr c_3), if_true, if_false, reduceIte, true_and, and_true, false_and, and_false, true_or, or_true, false_or, or_false, not_true_eq_false, not_false_eq_true, decide_true, decide_false, Bool.true_and, Bool.and_true, Bool.false_and, Bool.and_false, Bool.not_true, Bool.not_false, Bool.or_false, Bool.false_or, Bool.or_true, Bool.true_or]); rw [hcode]; exact ⟨by decide, rfl⟩), hP.keep oq1 hz1⟩)
      · refine lv_iload_n hx hb dX4_setHours_24 rfl (lv_at hl 2 rfl) ?_
        refine lv_bipush (v := 100) hx hb dX4_setHours_25 (by decide) ?_
        refine lv_icmp_ge (tgt := 41) hx hb dX4_setHours_27 (by decide) (fun c_4 => ?_) (fun c_4 => ?_)
        · exact cx_throw E hl9 hS ht hk dx_IAE (text := "a time is out of range") (by simp [lw_str]) hl dX4_setHours_41 dX4_setHours_44 dX4_setHours_45 dX4_setHours_47 dX4_setHours_50 ⟨rfl, rfl⟩ rfl ⟨Nat.le_of_ble_eq_true rfl, Nat.le_of_ble_eq_true rfl⟩ (Nat.le_of_ble_eq_true rfl) (Nat.le_of_ble_eq_true rfl) (fun H1 hz1 oq1 => ⟨(by have hcode : (if (nI f9) ≤ 0 then 1 else if (nI f9) < 10 then (if y < 0 then 2 else if y < 100 then (if y < z then (if z ≤ 100 then 0 else 2) else 2) else 2) else 1) = 2 := (by simp only [eq_false c_1, eq_true (Int32.not_le.mp c_1), eq_true c_2, eq_false (Int32.not_le.mpr c_2), eq_false c_3, eq_true (Int32.not_lt.mp c_3), eq_true c_4, eq_false (Int32.not_lt.mpr c_4), if_true, if_false, reduceIte, true_and, and_true, false_and, and_false, true_or, or_true, false_or, or_false, not_true_eq_false, not_false_eq_true, decide_true, decide_false, Bool.true_and, Bool.and_true, Bool.false_and, Bool.and_false, Bool.not_true, Bool.not_false, Bool.or_false, Bool.false_or, Bool.or_true, Bool.true_or]); rw [hcode]; exact ⟨by decide, rfl⟩), hP.keep oq1 hz1⟩)
        · refine lv_iload_n hx hb dX4_setHours_30 rfl (lv_at hl 3 rfl) ?_
          refine lv_iload_n hx hb dX4_setHours_31 rfl (lv_at hl 2 rfl) ?_
          refine lv_icmp_le (tgt := 41) hx hb dX4_setHours_32 (by decide) (fun c_5 => ?_) (fun c_5 => ?_)
          · exact cx_throw E hl9 hS ht hk dx_IAE (text := "a time is out of range") (by simp [lw_str]) hl dX4_setHours_41 dX4_setHours_44 dX4_setHours_45 dX4_setHours_47 dX4_setHours_50 ⟨rfl, rfl⟩ rfl ⟨Nat.le_of_ble_eq_true rfl, Nat.le_of_ble_eq_true rfl⟩ (Nat.le_of_ble_eq_true rfl) (Nat.le_of_ble_eq_true rfl) (fun H1 hz1 oq1 => ⟨(by have hcode : (if (nI f9) ≤ 0 then 1 else if (nI f9) < 10 then (if y < 0 then 2 else if y < 100 then (if y < z then (if z ≤ 100 then 0 else 2) else 2) else 2) else 1) = 2 := (by simp only [eq_false c_1, eq_true (Int32.not_le.mp c_1), eq_true c_2, eq_false (Int32.not_le.mpr c_2), eq_false c_3, eq_true (Int32.not_lt.mp c_3), eq_false c_4, eq_true (Int32.not_le.mp c_4), eq_true c_5, eq_false (Int32.not_lt.mpr c_5), if_true, if_false, reduceIte, true_and, and_true, false_and, and_false, true_or, or_true, false_or, or_false, not_true_eq_false, not_false_eq_true, decide_true, decide_false, Bool.true_and, Bool.and_true, Bool.false_and, Bool.and_false, Bool.not_true, Bool.not_false, Bool.or_false, Bool.false_or, Bool.or_true, Bool.true_or]); rw [hcode]; exact ⟨by decide, rfl⟩), hP.keep oq1 hz1⟩)
          · refine lv_iload_n hx hb dX4_setHours_35 rfl (lv_at hl 3 rfl) ?_
            refine lv_bipush (v := 100) hx hb dX4_setHours_36 (by decide) ?_
            refine lv_icmp_le (tgt := 51) hx hb dX4_setHours_38 (by decide) (fun c_6 => ?_) (fun c_6 => ?_)
            · refine lv_aload_n hx hb dX4_setHours_51 rfl (lv_at hl 0 rfl) ?_
              refine dg E hP 1 fk_X4_13 dX4_setHours_52 (v := .ref (A 1 1)) (kk := ?_)
              refine lv_iload_n hx hb dX4_setHours_55 rfl (lv_at hl 1 rfl) ?_
              refine lv_iload_n hx hb dX4_setHours_56 rfl (lv_at hl 2 rfl) ?_
              refine das E hS hP 1 f9 dX4_setHours_57 rfl (show f9 < 10 by omega) (kk := fun H locs hS hP => ?_)
              refine lv_aload_n hx hb dX4_setHours_58 rfl (lv_at hl 0 rfl) ?_
              refine dg E hP 2 fk_X4_16 dX4_setHours_59 (v := .ref (A 1 2)) (kk := ?_)
              refine lv_iload_n hx hb dX4_setHours_62 rfl (lv_at hl 1 rfl) ?_
              refine lv_iload_n hx hb dX4_setHours_63 rfl (lv_at hl 3 rfl) ?_
              refine das E hS hP 2 f9 dX4_setHours_64 rfl (show f9 < 10 by omega) (kk := fun H locs hS hP => ?_)
              refine lv_iload_n hx hb dX4_setHours_65 rfl (lv_at hl 3 rfl) ?_
              refine lv_iload_n hx hb dX4_setHours_66 rfl (lv_at hl 2 rfl) ?_
              refine lv_isub hx hb dX4_setHours_67 ?_
              have hcode : (if (nI f9) ≤ 0 then 1 else if (nI f9) < 10 then (if y < 0 then 2 else if y < 100 then (if y < z then (if z ≤ 100 then 0 else 2) else 2) else 2) else 1) = 0 := by simp only [eq_false c_1, eq_true (Int32.not_le.mp c_1), eq_true c_2, eq_false (Int32.not_le.mpr c_2), eq_false c_3, eq_true (Int32.not_lt.mp c_3), eq_false c_4, eq_true (Int32.not_le.mp c_4), eq_false c_5, eq_true (Int32.not_le.mp c_5), eq_true c_6, eq_false (Int32.not_lt.mpr c_6), if_true, if_false, reduceIte, true_and, and_true, false_and, and_false, true_or, or_true, false_or, or_false, not_true_eq_false, not_false_eq_true, decide_true, decide_false, Bool.true_and, Bool.and_true, Bool.false_and, Bool.and_false, Bool.not_true, Bool.not_false, Bool.or_false, Bool.false_or, Bool.or_true, Bool.true_or]
              have e2 : (tu (tu t 2 (nI f9).toNatClampNeg y) 3 (nI f9).toNatClampNeg z) = (tu (tu t 2 f9 y) 3 f9 z) := by simp only [f9_cl]
              exact vx_ret (ct_iret E hr hk hS ⟨rfl, hcode, (by rw [e2]; exact hP)⟩ dX4_setHours_68 (Nat.le_of_ble_eq_true rfl) (Nat.le_of_ble_eq_true rfl))
            · exact cx_throw E hl9 hS ht hk dx_IAE (text := "a time is out of range") (by simp [lw_str]) hl dX4_setHours_41 dX4_setHours_44 dX4_setHours_45 dX4_setHours_47 dX4_setHours_50 ⟨rfl, rfl⟩ rfl ⟨Nat.le_of_ble_eq_true rfl, Nat.le_of_ble_eq_true rfl⟩ (Nat.le_of_ble_eq_true rfl) (Nat.le_of_ble_eq_true rfl) (fun H1 hz1 oq1 => ⟨(by have hcode : (if (nI f9) ≤ 0 then 1 else if (nI f9) < 10 then (if y < 0 then 2 else if y < 100 then (if y < z then (if z ≤ 100 then 0 else 2) else 2) else 2) else 1) = 2 := (by simp only [eq_false c_1, eq_true (Int32.not_le.mp c_1), eq_true c_2, eq_false (Int32.not_le.mpr c_2), eq_false c_3, eq_true (Int32.not_lt.mp c_3), eq_false c_4, eq_true (Int32.not_le.mp c_4), eq_false c_5, eq_true (Int32.not_le.mp c_5), eq_false c_6, eq_true (Int32.not_le.mp c_6), if_true, if_false, reduceIte, true_and, and_true, false_and, and_false, true_or, or_true, false_or, or_false, not_true_eq_false, not_false_eq_true, decide_true, decide_false, Bool.true_and, Bool.and_true, Bool.false_and, Bool.and_false, Bool.not_true, Bool.not_false, Bool.or_false, Bool.false_or, Bool.or_true, Bool.true_or]); rw [hcode]; exact ⟨by decide, rfl⟩), hP.keep oq1 hz1⟩)
    · exact cx_throw E hl9 hS ht hk dx_IOB (text := "the floor is out of range") (by simp [lw_str]) hl dX4_setHours_10 dX4_setHours_13 dX4_setHours_14 dX4_setHours_16 dX4_setHours_19 ⟨rfl, rfl⟩ rfl ⟨Nat.le_of_ble_eq_true rfl, Nat.le_of_ble_eq_true rfl⟩ (Nat.le_of_ble_eq_true rfl) (Nat.le_of_ble_eq_true rfl) (fun H1 hz1 oq1 => ⟨(by have hcode : (if x ≤ 0 then 1 else if x < 10 then (if y < 0 then 2 else if y < 100 then (if y < z then (if z ≤ 100 then 0 else 2) else 2) else 2) else 1) = 1 := (by simp only [eq_false c_1, eq_true (Int32.not_le.mp c_1), eq_false c_2, eq_true (Int32.not_lt.mp c_2), if_true, if_false, reduceIte, true_and, and_true, false_and, and_false, true_or, or_true, false_or, or_false, not_true_eq_false, not_false_eq_true, decide_true, decide_false, Bool.true_and, Bool.and_true, Bool.false_and, Bool.and_false, Bool.not_true, Bool.not_false, Bool.or_false, Bool.false_or, Bool.or_true, Bool.true_or]); rw [hcode]; exact ⟨by decide, rfl⟩), hP.keep oq1 hz1⟩)

set_option maxHeartbeats 4000000 in
set_option maxRecDepth 100000 in
theorem c_X4_setRevoked (l : Launch) (g : cG) (F : Nat → Prop) (A : Nat → Nat → Nat) (nb nl nr ne : Nat) (pr : List Nat) (t : TT) (hl9 : l.stackTraces = false) (x v : Int32) (hv : narrow .boolean (.int v) = .int v) : CX l yX4_setRevoked cX4_setRevoked 5 (some .boolean) 7 111 (4) (24) g F [.ref (A 0 0), .int x, .int v] (PD g F A nb nl nr ne pr t)
    (fun v9 H9 => v9 = some (.int (t 5 x.toNatClampNeg)) ∧ (if dcN x nb = 0 then 0 else 1) = 0 ∧ PD g F A nb nl nr ne pr (tu t 5 x.toNatClampNeg v) H9)
    (fun E9 H9 => (0 < (if dcN x nb = 0 then 0 else 1) ∧ [kIOB][(if dcN x nb = 0 then 0 else 1) - 1]? = some E9) ∧ PD g F A nb nl nr ne pr t H9) := by
  refine CX.of (by decide) rfl ?_
  intro p e s m args below meth c E hr hk ht hP ls hl
  have hS : va_S (nF F) s.heap s.heap [] := va_S.rf
  have hx := E.1
  have hb := E.2.1
  have hE_ml := E.2.2.1
  have hown := E.2.2.2.1
  have hts := E.2.2.2.2.1
  have hG := E.2.2.2.2.2
  have hd0 := hP.di.1
  have hl : lv_has ls 5 [(0, .ref (A 0 0)), (1, .int x), (2, .int v)] := hl
  have hP0 := hP
  refine lv_aload_n hx hb dX4_setRevoked_0 rfl (lv_at hl 0 rfl) ?_
  refine lv_iload_n hx hb dX4_setRevoked_1 rfl (lv_at hl 1 rfl) ?_
  refine cx_V E hS (c_X4_badgeNumbered l g F A nb nl nr ne pr t hl9 x) ok_X4_badgeNumbered lk_X4_95 hP (hP.recv hG) rfl hl ⟨rfl, rfl⟩ rfl ⟨Nat.le_of_ble_eq_true rfl, Nat.le_of_ble_eq_true rfl⟩ dX4_setRevoked_2 rfl
    (fun E9 ce9 q9 H9 locs hX9 hz9 hS hc9 hv9 hf9 => by
      obtain ⟨⟨rfl, c_1⟩, hP9⟩ := hX9
      exact cx_out ht hk hc9 hv9 hf9 ⟨(by have hcode : (if dcN x nb = 0 then 0 else 1) = 1 := (by simp only [eq_false c_1, if_true, if_false, reduceIte, true_and, and_true, false_and, and_false, true_or, or_true, false_or, or_false, not_true_eq_false, not_false_eq_true, decide_true, decide_false, Bool.true_and, Bool.and_true, Bool.false_and, Bool.and_false, Bool.not_true, Bool.not_false, Bool.or_false, Bool.false_or, Bool.or_true, Bool.true_or]); rw [hcode]; exact ⟨by decide, rfl⟩), hP9⟩ hS (Nat.le_of_ble_eq_true rfl) (Nat.le_of_ble_eq_true rfl)) (fun v9 H locs hv9 hS hz9 => ?_)
  obtain ⟨jx, rfl, hjx, rfl, c_1, hP⟩ := hv9
  have jx_cl : (nI jx).toNatClampNeg = jx := nI_clamp (by omega)
  refine lv_astore_n (lv' := [(3, .ref (A 4 jx)), (0, .ref (A 0 0)), (1, .int (nI jx)), (2, .int v)]) hx hb dX4_setRevoked_5 rfl hl (by decide) rfl (fun ls hl => ?_)
  refine lv_aload_n hx hb dX4_setRevoked_6 rfl (lv_at hl 0 rfl) ?_
  refine dgn E hP 4 jx hjx kcX0 1 fn_X4_99 dX4_setRevoked_7 (v := .int (t 5 jx)) (kk := ?_)
  refine lv_istore (lv' := [(4, .int (t 5 jx)), (3, .ref (A 4 jx)), (0, .ref (A 0 0)), (1, .int (nI jx)), (2, .int v)]) hx hb dX4_setRevoked_10 hl (by decide) rfl (fun ls hl => ?_)
  refine lv_aload_n hx hb dX4_setRevoked_12 rfl (lv_at hl 1 rfl) ?_
  refine lv_iload_n hx hb dX4_setRevoked_13 rfl (lv_at hl 4 rfl) ?_
  refine dpn E hS hP 4 jx hjx kcX0 1 5 fn_X4_99 hs_5 (hP.di.p5 hv) hv (fit_z hv) dX4_setRevoked_14 (kk := fun H locs hS hP => ?_)
  refine lv_iload hx hb dX4_setRevoked_17 (lv_at hl 0 rfl) ?_
  have hcode : (if dcN (nI jx) nb = 0 then 0 else 1) = 0 := by simp only [eq_true c_1, jx_cl, if_true, if_false, reduceIte, true_and, and_true, false_and, and_false, true_or, or_true, false_or, or_false, not_true_eq_false, not_false_eq_true, decide_true, decide_false, Bool.true_and, Bool.and_true, Bool.false_and, Bool.and_false, Bool.not_true, Bool.not_false, Bool.or_false, Bool.false_or, Bool.or_true, Bool.true_or]
  have e1 : (t 5 (nI jx).toNatClampNeg) = t 5 jx := by simp only [jx_cl]
  have e2 : (tu t 5 (nI jx).toNatClampNeg v) = (tu t 5 jx v) := by simp only [jx_cl]
  exact vx_ret (ct_zret E hr (hP0.di.2.2.2.2.2.2.2 jx hjx) hk hS ⟨(by rw [e1]), hcode, (by rw [e2]; exact hP)⟩ dX4_setRevoked_19 (Nat.le_of_ble_eq_true rfl) (Nat.le_of_ble_eq_true rfl))

set_option maxHeartbeats 4000000 in
set_option maxRecDepth 100000 in
theorem c_X4_reason (l : Launch) (g : cG) (F : Nat → Prop) (A : Nat → Nat → Nat) (nb nl nr ne : Nat) (pr : List Nat) (t : TT) (hl9 : l.stackTraces = false) (x y : Int32)  : CX l yX4_reason cX4_reason 4 (some .char) 7 111 (4) (24) g F [.ref (A 0 0), .int x, .int y] (PD g F A nb nl nr ne pr t)
    (fun v9 H9 => v9 = some (.int (dWhy t x.toNatClampNeg y)) ∧ (if dcN x nb = 0 then (if dcF y = 0 then 0 else 1) else 1) = 0 ∧ PD g F A nb nl nr ne pr t H9)
    (fun E9 H9 => (0 < (if dcN x nb = 0 then (if dcF y = 0 then 0 else 1) else 1) ∧ [kIOB][(if dcN x nb = 0 then (if dcF y = 0 then 0 else 1) else 1) - 1]? = some E9) ∧ PD g F A nb nl nr ne pr t H9) := by
  refine CX.of (by decide) rfl ?_
  intro p e s m args below meth c E hr hk ht hP ls hl
  have hS : va_S (nF F) s.heap s.heap [] := va_S.rf
  have hx := E.1
  have hb := E.2.1
  have hE_ml := E.2.2.1
  have hown := E.2.2.2.1
  have hts := E.2.2.2.2.1
  have hG := E.2.2.2.2.2
  have hd0 := hP.di.1
  have hl : lv_has ls 4 [(0, .ref (A 0 0)), (1, .int x), (2, .int y)] := hl
  refine lv_aload_n hx hb dX4_reason_0 rfl (lv_at hl 0 rfl) ?_
  refine lv_iload_n hx hb dX4_reason_1 rfl (lv_at hl 1 rfl) ?_
  refine cx_V E hS (c_X4_badgeNumbered l g F A nb nl nr ne pr t hl9 x) ok_X4_badgeNumbered lk_X4_95 hP (hP.recv hG) rfl hl ⟨rfl, rfl⟩ rfl ⟨Nat.le_of_ble_eq_true rfl, Nat.le_of_ble_eq_true rfl⟩ dX4_reason_2 rfl
    (fun E9 ce9 q9 H9 locs hX9 hz9 hS hc9 hv9 hf9 => by
      obtain ⟨⟨rfl, c_1⟩, hP9⟩ := hX9
      exact cx_out ht hk hc9 hv9 hf9 ⟨(by have hcode : (if dcN x nb = 0 then (if dcF y = 0 then 0 else 1) else 1) = 1 := (by simp only [eq_false c_1, if_true, if_false, reduceIte, true_and, and_true, false_and, and_false, true_or, or_true, false_or, or_false, not_true_eq_false, not_false_eq_true, decide_true, decide_false, Bool.true_and, Bool.and_true, Bool.false_and, Bool.and_false, Bool.not_true, Bool.not_false, Bool.or_false, Bool.false_or, Bool.or_true, Bool.true_or]); rw [hcode]; exact ⟨by decide, rfl⟩), hP9⟩ hS (Nat.le_of_ble_eq_true rfl) (Nat.le_of_ble_eq_true rfl)) (fun v9 H locs hv9 hS hz9 => ?_)
  obtain ⟨jx, rfl, hjx, rfl, c_1, hP⟩ := hv9
  have jx_cl : (nI jx).toNatClampNeg = jx := nI_clamp (by omega)
  refine lv_astore_n (lv' := [(3, .ref (A 4 jx)), (0, .ref (A 0 0)), (1, .int (nI jx)), (2, .int y)]) hx hb dX4_reason_5 rfl hl (by decide) rfl (fun ls hl => ?_)
  refine lv_iload_n hx hb dX4_reason_6 rfl (lv_at hl 3 rfl) ?_
  refine cx_S E hS (c_X4_checkFloor l g F A nb nl nr ne pr t hl9 y) ok_X4_checkFloor lk_X4_103 hP rfl hl ⟨rfl, rfl⟩ rfl ⟨Nat.le_of_ble_eq_true rfl, Nat.le_of_ble_eq_true rfl⟩ dX4_reason_7 rfl
    (fun E9 ce9 q9 H9 locs hX9 hz9 hS hc9 hv9 hf9 => by
      obtain ⟨⟨rfl, c_2⟩, hP9⟩ := hX9
      exact cx_out ht hk hc9 hv9 hf9 ⟨(by have hcode : (if dcN (nI jx) nb = 0 then (if dcF y = 0 then 0 else 1) else 1) = 1 := (by simp only [eq_true c_1, eq_false c_2, jx_cl, if_true, if_false, reduceIte, true_and, and_true, false_and, and_false, true_or, or_true, false_or, or_false, not_true_eq_false, not_false_eq_true, decide_true, decide_false, Bool.true_and, Bool.and_true, Bool.false_and, Bool.and_false, Bool.not_true, Bool.not_false, Bool.or_false, Bool.false_or, Bool.or_true, Bool.true_or]); rw [hcode]; exact ⟨by decide, rfl⟩), hP9⟩ hS (Nat.le_of_ble_eq_true rfl) (Nat.le_of_ble_eq_true rfl)) (fun v9 H locs hv9 hS hz9 => ?_)
  obtain ⟨jy, rfl, hjy, rfl, c_2, hP⟩ := hv9
  have jy_cl : (nI jy).toNatClampNeg = jy := nI_clamp (by omega)
  refine lv_aload_n hx hb dX4_reason_10 rfl (lv_at hl 1 rfl) ?_
  refine lv_aload_n hx hb dX4_reason_11 rfl (lv_at hl 0 rfl) ?_
  refine lv_iload_n hx hb dX4_reason_12 rfl (lv_at hl 3 rfl) ?_
  refine ct_V E hS (c_X4_whyNot l g F A nb nl nr ne pr t jx (nI jy) hjx) ok_X4_whyNot lk_X4_106 hP (hP.recv hG) rfl hl ⟨rfl, rfl⟩ rfl ⟨Nat.le_of_ble_eq_true rfl, Nat.le_of_ble_eq_true rfl⟩ dX4_reason_13 rfl (fun v9 H locs hv9 hS hz9 => ?_)
  obtain ⟨rfl, hP⟩ := hv9
  have hcode : (if dcN (nI jx) nb = 0 then (if dcF (nI jy) = 0 then 0 else 1) else 1) = 0 := by simp only [eq_true c_1, eq_true c_2, jx_cl, jy_cl, if_true, if_false, reduceIte, true_and, and_true, false_and, and_false, true_or, or_true, false_or, or_false, not_true_eq_false, not_false_eq_true, decide_true, decide_false, Bool.true_and, Bool.and_true, Bool.false_and, Bool.and_false, Bool.not_true, Bool.not_false, Bool.or_false, Bool.false_or, Bool.or_true, Bool.true_or]
  have e1 : (dWhy t (nI jx).toNatClampNeg (nI jy)) = dWhy t jx (nI jy) := by simp only [jx_cl]
  exact vx_ret (ct_zret E hr dWhy_c hk hS ⟨(by rw [e1]), hcode, hP⟩ dX4_reason_16 (Nat.le_of_ble_eq_true rfl) (Nat.le_of_ble_eq_true rfl))

set_option maxHeartbeats 4000000 in
set_option maxRecDepth 100000 in
theorem c_X4_score (l : Launch) (g : cG) (F : Nat → Prop) (A : Nat → Nat → Nat) (nb nl nr ne : Nat) (pr : List Nat) (t : TT) (hl9 : l.stackTraces = false) (x y : Int32)  : CX l yX4_score cX4_score 4 (some .int) 7 111 (4) (24) g F [.ref (A 0 0), .int x, .int y] (PD g F A nb nl nr ne pr t)
    (fun v9 H9 => v9 = some (.int (dScore t pr x.toNatClampNeg y)) ∧ (if dcN x nl = 0 then (if dcF y = 0 then 0 else 1) else 1) = 0 ∧ PD g F A nb nl nr ne pr t H9)
    (fun E9 H9 => (0 < (if dcN x nl = 0 then (if dcF y = 0 then 0 else 1) else 1) ∧ [kIOB][(if dcN x nl = 0 then (if dcF y = 0 then 0 else 1) else 1) - 1]? = some E9) ∧ PD g F A nb nl nr ne pr t H9) := by
  refine CX.of (by decide) rfl ?_
  intro p e s m args below meth c E hr hk ht hP ls hl
  have hS : va_S (nF F) s.heap s.heap [] := va_S.rf
  have hx := E.1
  have hb := E.2.1
  have hE_ml := E.2.2.1
  have hown := E.2.2.2.1
  have hts := E.2.2.2.2.1
  have hG := E.2.2.2.2.2
  have hd0 := hP.di.1
  have hl : lv_has ls 4 [(0, .ref (A 0 0)), (1, .int x), (2, .int y)] := hl
  refine lv_aload_n hx hb dX4_score_0 rfl (lv_at hl 0 rfl) ?_
  refine lv_iload_n hx hb dX4_score_1 rfl (lv_at hl 1 rfl) ?_
  refine cx_V E hS (c_X4_liftNumbered l g F A nb nl nr ne pr t hl9 x) ok_X4_liftNumbered lk_X4_167 hP (hP.recv hG) rfl hl ⟨rfl, rfl⟩ rfl ⟨Nat.le_of_ble_eq_true rfl, Nat.le_of_ble_eq_true rfl⟩ dX4_score_2 rfl
    (fun E9 ce9 q9 H9 locs hX9 hz9 hS hc9 hv9 hf9 => by
      obtain ⟨⟨rfl, c_1⟩, hP9⟩ := hX9
      exact cx_out ht hk hc9 hv9 hf9 ⟨(by have hcode : (if dcN x nl = 0 then (if dcF y = 0 then 0 else 1) else 1) = 1 := (by simp only [eq_false c_1, if_true, if_false, reduceIte, true_and, and_true, false_and, and_false, true_or, or_true, false_or, or_false, not_true_eq_false, not_false_eq_true, decide_true, decide_false, Bool.true_and, Bool.and_true, Bool.false_and, Bool.and_false, Bool.not_true, Bool.not_false, Bool.or_false, Bool.false_or, Bool.or_true, Bool.true_or]); rw [hcode]; exact ⟨by decide, rfl⟩), hP9⟩ hS (Nat.le_of_ble_eq_true rfl) (Nat.le_of_ble_eq_true rfl)) (fun v9 H locs hv9 hS hz9 => ?_)
  obtain ⟨jx, rfl, hjx, rfl, c_1, hP⟩ := hv9
  have jx_cl : (nI jx).toNatClampNeg = jx := nI_clamp (by omega)
  refine lv_astore_n (lv' := [(3, .ref (A 5 jx)), (0, .ref (A 0 0)), (1, .int (nI jx)), (2, .int y)]) hx hb dX4_score_5 rfl hl (by decide) rfl (fun ls hl => ?_)
  refine lv_iload_n hx hb dX4_score_6 rfl (lv_at hl 3 rfl) ?_
  refine cx_S E hS (c_X4_checkFloor l g F A nb nl nr ne pr t hl9 y) ok_X4_checkFloor lk_X4_103 hP rfl hl ⟨rfl, rfl⟩ rfl ⟨Nat.le_of_ble_eq_true rfl, Nat.le_of_ble_eq_true rfl⟩ dX4_score_7 rfl
    (fun E9 ce9 q9 H9 locs hX9 hz9 hS hc9 hv9 hf9 => by
      obtain ⟨⟨rfl, c_2⟩, hP9⟩ := hX9
      exact cx_out ht hk hc9 hv9 hf9 ⟨(by have hcode : (if dcN (nI jx) nl = 0 then (if dcF y = 0 then 0 else 1) else 1) = 1 := (by simp only [eq_true c_1, eq_false c_2, jx_cl, if_true, if_false, reduceIte, true_and, and_true, false_and, and_false, true_or, or_true, false_or, or_false, not_true_eq_false, not_false_eq_true, decide_true, decide_false, Bool.true_and, Bool.and_true, Bool.false_and, Bool.and_false, Bool.not_true, Bool.not_false, Bool.or_false, Bool.false_or, Bool.or_true, Bool.true_or]); rw [hcode]; exact ⟨by decide, rfl⟩), hP9⟩ hS (Nat.le_of_ble_eq_true rfl) (Nat.le_of_ble_eq_true rfl)) (fun v9 H locs hv9 hS hz9 => ?_)
  obtain ⟨jy, rfl, hjy, rfl, c_2, hP⟩ := hv9
  have jy_cl : (nI jy).toNatClampNeg = jy := nI_clamp (by omega)
  refine lv_aload_n hx hb dX4_score_10 rfl (lv_at hl 1 rfl) ?_
  refine lv_aload_n hx hb dX4_score_11 rfl (lv_at hl 0 rfl) ?_
  refine lv_iload_n hx hb dX4_score_12 rfl (lv_at hl 3 rfl) ?_
  refine ct_V E hS (c_X4_scoreOf l g F A nb nl nr ne pr t jx (nI jy) hjx) ok_X4_scoreOf lk_X4_186 hP (hP.recv hG) rfl hl ⟨rfl, rfl⟩ rfl ⟨Nat.le_of_ble_eq_true rfl, Nat.le_of_ble_eq_true rfl⟩ dX4_score_13 rfl (fun v9 H locs hv9 hS hz9 => ?_)
  obtain ⟨rfl, hP⟩ := hv9
  have hcode : (if dcN (nI jx) nl = 0 then (if dcF (nI jy) = 0 then 0 else 1) else 1) = 0 := by simp only [eq_true c_1, eq_true c_2, jx_cl, jy_cl, if_true, if_false, reduceIte, true_and, and_true, false_and, and_false, true_or, or_true, false_or, or_false, not_true_eq_false, not_false_eq_true, decide_true, decide_false, Bool.true_and, Bool.and_true, Bool.false_and, Bool.and_false, Bool.not_true, Bool.not_false, Bool.or_false, Bool.false_or, Bool.or_true, Bool.true_or]
  have e1 : (dScore t pr (nI jx).toNatClampNeg (nI jy)) = dScore t pr jx (nI jy) := by simp only [jx_cl]
  exact vx_ret (ct_iret E hr hk hS ⟨(by rw [e1]), hcode, hP⟩ dX4_score_16 (Nat.le_of_ble_eq_true rfl) (Nat.le_of_ble_eq_true rfl))

set_option maxHeartbeats 4000000 in
set_option maxRecDepth 100000 in
theorem c_X4_turn (l : Launch) (g : cG) (F : Nat → Prop) (A : Nat → Nat → Nat) (nb nl nr ne : Nat) (pr : List Nat) (t : TT) (hl9 : l.stackTraces = false)   : CX l yX4_turn cX4_turn 2 (some .int) 6 108 (4) (24) g F [.ref (A 0 0)] (PD g F A nb nl nr ne pr t)
    (fun v9 H9 => v9 = some (.int (dTurn t pr)) ∧ (if dTurn t pr = -1 then 1 else 0) = 0 ∧ PD g F A nb nl nr ne pr t H9)
    (fun E9 H9 => (0 < (if dTurn t pr = -1 then 1 else 0) ∧ [kNSE][(if dTurn t pr = -1 then 1 else 0) - 1]? = some E9) ∧ PD g F A nb nl nr ne pr t H9) := by
  refine CX.of (by decide) rfl ?_
  intro p e s m args below meth c E hr hk ht hP ls hl
  have hS : va_S (nF F) s.heap s.heap [] := va_S.rf
  have hx := E.1
  have hb := E.2.1
  have hE_ml := E.2.2.1
  have hown := E.2.2.2.1
  have hts := E.2.2.2.2.1
  have hG := E.2.2.2.2.2
  have hd0 := hP.di.1
  have hl : lv_has ls 2 [(0, .ref (A 0 0))] := hl
  refine lv_aload_n hx hb dX4_turn_0 rfl (lv_at hl 0 rfl) ?_
  refine ct_V E hS (c_X4_floorInTurn l g F A nb nl nr ne pr t ) ok_X4_floorInTurn lk_X4_204 hP (hP.recv hG) rfl hl ⟨rfl, rfl⟩ rfl ⟨Nat.le_of_ble_eq_true rfl, Nat.le_of_ble_eq_true rfl⟩ dX4_turn_1 rfl (fun v9 H locs hv9 hS hz9 => ?_)
  obtain ⟨rfl, hP⟩ := hv9
  refine lv_istore_n (lv' := [(1, .int (dTurn t pr)), (0, .ref (A 0 0))]) hx hb dX4_turn_4 rfl hl (by decide) rfl (fun ls hl => ?_)
  refine lv_iload_n hx hb dX4_turn_5 rfl (lv_at hl 0 rfl) ?_
  refine lv_iconst (v := (-1)) hx hb dX4_turn_6 (by decide) ?_
  refine lv_icmp_ne (tgt := 20) hx hb dX4_turn_7 (by decide) (fun c_1 => ?_) (fun c_1 => ?_)
  · refine lv_iload_n hx hb dX4_turn_20 rfl (lv_at hl 0 rfl) ?_
    have hcode : (if dTurn t pr = -1 then 1 else 0) = 0 := by simp only [eq_false c_1, if_true, if_false, reduceIte, true_and, and_true, false_and, and_false, true_or, or_true, false_or, or_false, not_true_eq_false, not_false_eq_true, decide_true, decide_false, Bool.true_and, Bool.and_true, Bool.false_and, Bool.and_false, Bool.not_true, Bool.not_false, Bool.or_false, Bool.false_or, Bool.or_true, Bool.true_or]
    exact vx_ret (ct_iret E hr hk hS ⟨rfl, hcode, hP⟩ dX4_turn_21 (Nat.le_of_ble_eq_true rfl) (Nat.le_of_ble_eq_true rfl))
  · exact cx_throw E hl9 hS ht hk dx_NSE (text := "no floor has its turn") (by simp [lw_str]) hl dX4_turn_10 dX4_turn_13 dX4_turn_14 dX4_turn_16 dX4_turn_19 ⟨rfl, rfl⟩ rfl ⟨Nat.le_of_ble_eq_true rfl, Nat.le_of_ble_eq_true rfl⟩ (Nat.le_of_ble_eq_true rfl) (Nat.le_of_ble_eq_true rfl) (fun H1 hz1 oq1 => ⟨(by have hcode : (if dTurn t pr = -1 then 1 else 0) = 1 := (by simp only [eq_true c_1, if_true, if_false, reduceIte, true_and, and_true, false_and, and_false, true_or, or_true, false_or, or_false, not_true_eq_false, not_false_eq_true, decide_true, decide_false, Bool.true_and, Bool.and_true, Bool.false_and, Bool.and_false, Bool.not_true, Bool.not_false, Bool.or_false, Bool.false_or, Bool.or_true, Bool.true_or]); rw [hcode]; exact ⟨by decide, rfl⟩), hP.keep oq1 hz1⟩)

set_option maxHeartbeats 4000000 in
set_option maxRecDepth 100000 in
theorem c_X4_callOff (l : Launch) (g : cG) (F : Nat → Prop) (A : Nat → Nat → Nat) (nb nl nr ne : Nat) (pr : List Nat) (t : TT) (hl9 : l.stackTraces = false) (x : Int32)  : CX l yX4_callOff cX4_callOff 3 (some .int) 7 111 (4) (24) g F [.ref (A 0 0), .int x] (PD g F A nb nl nr ne pr t)
    (fun v9 H9 => v9 = some (.int ((dLose (tu t 20 x.toNatClampNeg 111) pr x.toNatClampNeg pr.length).2)) ∧ (if dcN x nl = 0 then (if t 20 x.toNatClampNeg = 115 then (if t 60 0 = -1 then 0 else 2) else 2) else 1) = 0 ∧ PD g F A nb nl nr ne pr ((dLose (tu t 20 x.toNatClampNeg 111) pr x.toNatClampNeg pr.length).1) H9)
    (fun E9 H9 => (0 < (if dcN x nl = 0 then (if t 20 x.toNatClampNeg = 115 then (if t 60 0 = -1 then 0 else 2) else 2) else 1) ∧ [kIOB, kISE][(if dcN x nl = 0 then (if t 20 x.toNatClampNeg = 115 then (if t 60 0 = -1 then 0 else 2) else 2) else 1) - 1]? = some E9) ∧ PD g F A nb nl nr ne pr t H9) := by
  refine CX.of (by decide) rfl ?_
  intro p e s m args below meth c E hr hk ht hP ls hl
  have hS : va_S (nF F) s.heap s.heap [] := va_S.rf
  have hx := E.1
  have hb := E.2.1
  have hE_ml := E.2.2.1
  have hown := E.2.2.2.1
  have hts := E.2.2.2.2.1
  have hG := E.2.2.2.2.2
  have hd0 := hP.di.1
  have hl : lv_has ls 3 [(0, .ref (A 0 0)), (1, .int x)] := hl
  refine lv_aload_n hx hb dX4_callOff_0 rfl (lv_at hl 0 rfl) ?_
  refine lv_iload_n hx hb dX4_callOff_1 rfl (lv_at hl 1 rfl) ?_
  refine cx_V E hS (c_X4_liftNumbered l g F A nb nl nr ne pr t hl9 x) ok_X4_liftNumbered lk_X4_167 hP (hP.recv hG) rfl hl ⟨rfl, rfl⟩ rfl ⟨Nat.le_of_ble_eq_true rfl, Nat.le_of_ble_eq_true rfl⟩ dX4_callOff_2 rfl
    (fun E9 ce9 q9 H9 locs hX9 hz9 hS hc9 hv9 hf9 => by
      obtain ⟨⟨rfl, c_1⟩, hP9⟩ := hX9
      exact cx_out ht hk hc9 hv9 hf9 ⟨(by have hcode : (if dcN x nl = 0 then (if t 20 x.toNatClampNeg = 115 then (if t 60 0 = -1 then 0 else 2) else 2) else 1) = 1 := (by simp only [eq_false c_1, if_true, if_false, reduceIte, true_and, and_true, false_and, and_false, true_or, or_true, false_or, or_false, not_true_eq_false, not_false_eq_true, decide_true, decide_false, Bool.true_and, Bool.and_true, Bool.false_and, Bool.and_false, Bool.not_true, Bool.not_false, Bool.or_false, Bool.false_or, Bool.or_true, Bool.true_or]); rw [hcode]; exact ⟨by decide, rfl⟩), hP9⟩ hS (Nat.le_of_ble_eq_true rfl) (Nat.le_of_ble_eq_true rfl)) (fun v9 H locs hv9 hS hz9 => ?_)
  obtain ⟨jx, rfl, hjx, rfl, c_1, hP⟩ := hv9
  have jx_cl : (nI jx).toNatClampNeg = jx := nI_clamp (by omega)
  refine lv_astore_n (lv' := [(2, .ref (A 5 jx)), (0, .ref (A 0 0)), (1, .int (nI jx))]) hx hb dX4_callOff_5 rfl hl (by decide) rfl (fun ls hl => ?_)
  refine lv_aload_n hx hb dX4_callOff_6 rfl (lv_at hl 0 rfl) ?_
  refine dgn E hP 5 jx hjx kcX2 4 fn_X4_171 dX4_callOff_7 (v := .int (t 20 jx)) (kk := ?_)
  refine lv_bipush (v := 115) hx hb dX4_callOff_10 (by decide) ?_
  refine lv_icmp_ne (tgt := 23) hx hb dX4_callOff_12 (by decide) (fun c_2 => ?_) (fun c_2 => ?_)
  · exact cx_throw E hl9 hS ht hk dx_ISE (text := "the lift can't be called off now") (by simp [lw_str]) hl dX4_callOff_23 dX4_callOff_26 dX4_callOff_27 dX4_callOff_29 dX4_callOff_32 ⟨rfl, rfl⟩ rfl ⟨Nat.le_of_ble_eq_true rfl, Nat.le_of_ble_eq_true rfl⟩ (Nat.le_of_ble_eq_true rfl) (Nat.le_of_ble_eq_true rfl) (fun H1 hz1 oq1 => ⟨(by have hcode : (if dcN (nI jx) nl = 0 then (if t 20 (nI jx).toNatClampNeg = 115 then (if t 60 0 = -1 then 0 else 2) else 2) else 1) = 2 := (by simp only [jx_cl, eq_true c_1, eq_false c_2, if_true, if_false, reduceIte, true_and, and_true, false_and, and_false, true_or, or_true, false_or, or_false, not_true_eq_false, not_false_eq_true, decide_true, decide_false, Bool.true_and, Bool.and_true, Bool.false_and, Bool.and_false, Bool.not_true, Bool.not_false, Bool.or_false, Bool.false_or, Bool.or_true, Bool.true_or]); rw [hcode]; exact ⟨by decide, rfl⟩), hP.keep oq1 hz1⟩)
  · refine lv_aload_n hx hb dX4_callOff_15 rfl (lv_at hl 1 rfl) ?_
    refine dg E hP 9 fk_X4_42 dX4_callOff_16 (v := .int (t 60 0)) (kk := ?_)
    refine lv_iconst (v := (-1)) hx hb dX4_callOff_19 (by decide) ?_
    refine lv_icmp_eq (tgt := 33) hx hb dX4_callOff_20 (by decide) (fun c_3 => ?_) (fun c_3 => ?_)
    · refine lv_aload_n hx hb dX4_callOff_33 rfl (lv_at hl 0 rfl) ?_
      refine lv_bipush (v := 111) hx hb dX4_callOff_34 (by decide) ?_
      refine dpn E hS hP 5 jx hjx kcX2 4 20 fn_X4_171 hs_20 (hP.di.p20 (by decide)) (by decide) (fit_c (by decide)) dX4_callOff_36 (kk := fun H locs hS hP => ?_)
      refine lv_aload_n hx hb dX4_callOff_39 rfl (lv_at hl 1 rfl) ?_
      refine lv_aload_n hx hb dX4_callOff_40 rfl (lv_at hl 0 rfl) ?_
      refine ct_V E hS (c_X4_loseLift l g F A nb nl nr ne pr (tu t 20 jx 111) jx hjx) ok_X4_loseLift lk_X4_176 hP (hP.recv hG) rfl hl ⟨rfl, rfl⟩ rfl ⟨Nat.le_of_ble_eq_true rfl, Nat.le_of_ble_eq_true rfl⟩ dX4_callOff_41 rfl (fun v9 H locs hv9 hS hz9 => ?_)
      obtain ⟨rfl, hP⟩ := hv9
      have hcode : (if dcN (nI jx) nl = 0 then (if t 20 (nI jx).toNatClampNeg = 115 then (if t 60 0 = -1 then 0 else 2) else 2) else 1) = 0 := by simp only [jx_cl, eq_true c_1, eq_true c_2, eq_true c_3, if_true, if_false, reduceIte, true_and, and_true, false_and, and_false, true_or, or_true, false_or, or_false, not_true_eq_false, not_false_eq_true, decide_true, decide_false, Bool.true_and, Bool.and_true, Bool.false_and, Bool.and_false, Bool.not_true, Bool.not_false, Bool.or_false, Bool.false_or, Bool.or_true, Bool.true_or]
      have e1 : ((dLose (tu t 20 (nI jx).toNatClampNeg 111) pr (nI jx).toNatClampNeg pr.length).2) = (dLose (tu t 20 jx 111) pr jx pr.length).2 := by simp only [jx_cl]
      have e2 : ((dLose (tu t 20 (nI jx).toNatClampNeg 111) pr (nI jx).toNatClampNeg pr.length).1) = (dLose (tu t 20 jx 111) pr jx pr.length).1 := by simp only [jx_cl]
      exact vx_ret (ct_iret E hr hk hS ⟨(by rw [e1]), hcode, (by rw [e2]; exact hP)⟩ dX4_callOff_44 (Nat.le_of_ble_eq_true rfl) (Nat.le_of_ble_eq_true rfl))
    · exact cx_throw E hl9 hS ht hk dx_ISE (text := "the lift can't be called off now") (by simp [lw_str]) hl dX4_callOff_23 dX4_callOff_26 dX4_callOff_27 dX4_callOff_29 dX4_callOff_32 ⟨rfl, rfl⟩ rfl ⟨Nat.le_of_ble_eq_true rfl, Nat.le_of_ble_eq_true rfl⟩ (Nat.le_of_ble_eq_true rfl) (Nat.le_of_ble_eq_true rfl) (fun H1 hz1 oq1 => ⟨(by have hcode : (if dcN (nI jx) nl = 0 then (if t 20 (nI jx).toNatClampNeg = 115 then (if t 60 0 = -1 then 0 else 2) else 2) else 1) = 2 := (by simp only [jx_cl, eq_true c_1, eq_true c_2, eq_false c_3, if_true, if_false, reduceIte, true_and, and_true, false_and, and_false, true_or, or_true, false_or, or_false, not_true_eq_false, not_false_eq_true, decide_true, decide_false, Bool.true_and, Bool.and_true, Bool.false_and, Bool.and_false, Bool.not_true, Bool.not_false, Bool.or_false, Bool.false_or, Bool.or_true, Bool.true_or]); rw [hcode]; exact ⟨by decide, rfl⟩), hP.keep oq1 hz1⟩)
