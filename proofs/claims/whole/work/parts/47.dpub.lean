theorem dTicks_le {nl : Nat} {s : DS} : ∀ (n i : Nat), i ≤ n → (dTicks nl s i).2.2 ≤ (dTicks nl s n).2.2
  | 0, i, h => by rw [show i = 0 by omega]; exact Nat.le_refl _
  | n + 1, i, h => by
    by_cases c : i = n + 1
    · rw [c]; exact Nat.le_refl _
    · exact Nat.le_trans (dTicks_le n i (by omega)) (dTick_ok (nl := nl) (s := dTicks nl s n)).1

set_option maxHeartbeats 4000000 in
set_option maxRecDepth 100000 in
theorem c_X4_addLift (l : Launch) (g : cG) (F : Nat → Prop) (A : Nat → Nat → Nat) (nb nl nr ne : Nat) (pr : List Nat) (t : TT) (hl9 : l.stackTraces = false) (x : Int32)  : CX l yX4_addLift cX4_addLift 3 (some .int) 7 194 3 174 g F [.ref (A 0 0), .int x] (PD g F A nb nl nr ne pr t)
    (fun v9 H9 => v9 = some (.int (nI nl)) ∧ (if x < 1 then 1 else if x ≤ 4 then (if nI nl < 3 then 0 else 2) else 1) = 0 ∧ ∃ A2 : Nat → Nat → Nat, A2 0 0 = A 0 0 ∧ PD g F A2 nb (nl + 1) nr ne pr (tAddL t nl x) H9)
    (fun E9 H9 => (0 < (if x < 1 then 1 else if x ≤ 4 then (if nI nl < 3 then 0 else 2) else 1) ∧ [kIAE, kISE][(if x < 1 then 1 else if x ≤ 4 then (if nI nl < 3 then 0 else 2) else 1) - 1]? = some E9) ∧ PD g F A nb nl nr ne pr t H9) := by
  refine CX.of (by decide) rfl ?_
  intro p e s m args below meth c E hr hk ht hP ls hl
  have hS : va_S (nF F) s.heap s.heap [] := va_S.rf
  have hx := E.1
  have hb := E.2.1
  have hE_ml := E.2.2.1
  have hown := E.2.2.2.1
  have hts := E.2.2.2.2.1
  have hG := E.2.2.2.2.2
  have hd0 := hP.di.1
  have hl : lv_has ls 3 [(0, .ref (A 0 0)), (1, .int x)] := hl
  refine lv_iload_n hx hb dX4_addLift_0 rfl (lv_at hl 1 rfl) ?_
  refine lv_iconst (v := 1) hx hb dX4_addLift_1 (by decide) ?_
  refine lv_icmp_lt (tgt := 10) hx hb dX4_addLift_2 (by decide) (fun c_1 => ?_) (fun c_1 => ?_)
  · exact cx_throw E hl9 hS ht hk dx_IAE (text := "the capacity is out of range") (by simp [lw_str]) hl dX4_addLift_10 dX4_addLift_13 dX4_addLift_14 dX4_addLift_16 dX4_addLift_19 ⟨rfl, rfl⟩ rfl ⟨Nat.le_of_ble_eq_true rfl, Nat.le_of_ble_eq_true rfl⟩ (Nat.le_of_ble_eq_true rfl) (Nat.le_of_ble_eq_true rfl) (fun H1 hz1 oq1 => ⟨(by have hcode : (if x < 1 then 1 else if x ≤ 4 then (if nI nl < 3 then 0 else 2) else 1) = 1 := (by simp only [eq_true c_1, eq_false (Int32.not_le.mpr c_1), if_true, if_false, reduceIte, true_and, and_true, false_and, and_false, true_or, or_true, false_or, or_false, not_true_eq_false, not_false_eq_true, decide_true, decide_false, Bool.true_and, Bool.and_true, Bool.false_and, Bool.and_false, Bool.not_true, Bool.not_false, Bool.or_false, Bool.false_or, Bool.or_true, Bool.true_or]); rw [hcode]; exact ⟨by decide, rfl⟩), hP.keep oq1 hz1⟩)
  · refine lv_iload_n hx hb dX4_addLift_5 rfl (lv_at hl 1 rfl) ?_
    refine lv_iconst (v := 4) hx hb dX4_addLift_6 (by decide) ?_
    refine lv_icmp_le (tgt := 20) hx hb dX4_addLift_7 (by decide) (fun c_2 => ?_) (fun c_2 => ?_)
    · refine lv_aload_n hx hb dX4_addLift_20 rfl (lv_at hl 0 rfl) ?_
      refine dg E hP 4 fk_X4_26 dX4_addLift_21 (v := .ref (A 2 1)) (kk := ?_)
      refine d_len E hS hP 1 nl hl ⟨rfl, rfl⟩ ⟨Nat.le_of_ble_eq_true rfl, Nat.le_of_ble_eq_true rfl⟩ dX4_addLift_24 (kk := fun locs hS => ?_)
      refine lv_iconst (v := 3) hx hb dX4_addLift_27 (by decide) ?_
      refine lv_icmp_lt (tgt := 41) hx hb dX4_addLift_28 (by decide) (fun c_3 => ?_) (fun c_3 => ?_)
      · refine d_new E kcX2 hS hP kl_X4_67 is_X2 in_X2 (fs := [.int 0, .int 0, .int 0, .int 0, .int 0, .int 0]) (by decide +kernel) (Nat.le_of_ble_eq_true rfl) (Nat.le_of_ble_eq_true rfl) dX4_addLift_41 (fun z H hPn hzF hz hS => ?_)
        have hP := hPn.pd
        refine lv_dup hx hb dX4_addLift_44 rfl ?_
        refine lv_aload_n hx hb dX4_addLift_45 rfl (lv_at hl 0 rfl) ?_
        refine dg E hP 4 fk_X4_26 dX4_addLift_46 (v := .ref (A 2 1)) (kk := ?_)
        refine d_len E hS hP 1 nl hl ⟨rfl, rfl⟩ ⟨Nat.le_of_ble_eq_true rfl, Nat.le_of_ble_eq_true rfl⟩ dX4_addLift_49 (kk := fun locs hS => ?_)
        refine lv_iload_n hx hb dX4_addLift_52 rfl (lv_at hl 1 rfl) ?_
        refine d_ninit E hS hPn (c_X2_init l g (fun q => F q ∨ q ≠ z) z (nI nl) x (fun q => q.elim hzF (fun q => q rfl))) ok_X2_init mn_X4_69 hz rfl hl ⟨rfl, rfl⟩ rfl ⟨Nat.le_of_ble_eq_true rfl, Nat.le_of_ble_eq_true rfl⟩ dX4_addLift_53 rfl (fun H locs hPn hz hS => ?_)
        have hP := hPn.pd
        refine lv_astore_n (lv' := [(2, .ref z), (0, .ref (A 0 0)), (1, .int x)]) hx hb dX4_addLift_56 rfl hl (by decide) rfl (fun ls hl => ?_)
        refine lv_aload_n hx hb dX4_addLift_57 rfl (lv_at hl 1 rfl) ?_
        refine dg E hP 4 fk_X4_26 dX4_addLift_58 (v := .ref (A 2 1)) (kk := ?_)
        refine lv_aload_n hx hb dX4_addLift_61 rfl (lv_at hl 0 rfl) ?_
        have hlim9 := ((nI_ltI (by omega) (by omega)).mp (show nI nl < nI 3 from c_3))
        refine d_addLift E hS hPn hz ((nI_ltI (by omega) (by omega)).mp (show nI nl < nI 3 from c_3)) hl ⟨rfl, rfl⟩ ⟨Nat.le_of_ble_eq_true rfl, Nat.le_of_ble_eq_true rfl⟩ dX4_addLift_62 rfl (fun A H locs hA hAi hAz hS hP => ?_)
        rw [← hA 0 (by decide)] at hl
        rw [← hAz] at hl
        have hG := E.2.2.2.2.2
        refine lv_pop hx hb dX4_addLift_65 rfl ?_
        refine lv_aload_n hx hb dX4_addLift_66 rfl (lv_at hl 0 rfl) ?_
        refine dgn E hP 5 nl (Nat.lt_succ_self nl) kcX2 0 fn_X4_76 dX4_addLift_67 (v := .int (nI nl)) (kk := ?_)
        have hcode : (if x < 1 then 1 else if x ≤ 4 then (if nI nl < 3 then 0 else 2) else 1) = 0 := by simp only [eq_false c_1, eq_true (Int32.not_lt.mp c_1), eq_true c_2, eq_false (Int32.not_lt.mpr c_2), eq_true c_3, eq_false (Int32.not_le.mpr c_3), if_true, if_false, reduceIte, true_and, and_true, false_and, and_false, true_or, or_true, false_or, or_false, not_true_eq_false, not_false_eq_true, decide_true, decide_false, Bool.true_and, Bool.and_true, Bool.false_and, Bool.and_false, Bool.not_true, Bool.not_false, Bool.or_false, Bool.false_or, Bool.or_true, Bool.true_or]
        exact vx_ret (ct_iret E hr hk hS ⟨rfl, hcode, ⟨_, congrFun (hA 0 (by decide)) 0, hP⟩⟩ dX4_addLift_70 (Nat.le_of_ble_eq_true rfl) (Nat.le_of_ble_eq_true rfl))
      · exact cx_throw E hl9 hS ht hk dx_ISE (text := "there are 3 lifts") (by simp [lw_str]) hl dX4_addLift_31 dX4_addLift_34 dX4_addLift_35 dX4_addLift_37 dX4_addLift_40 ⟨rfl, rfl⟩ rfl ⟨Nat.le_of_ble_eq_true rfl, Nat.le_of_ble_eq_true rfl⟩ (Nat.le_of_ble_eq_true rfl) (Nat.le_of_ble_eq_true rfl) (fun H1 hz1 oq1 => ⟨(by have hcode : (if x < 1 then 1 else if x ≤ 4 then (if nI nl < 3 then 0 else 2) else 1) = 2 := (by simp only [eq_false c_1, eq_true (Int32.not_lt.mp c_1), eq_true c_2, eq_false (Int32.not_lt.mpr c_2), eq_false c_3, eq_true (Int32.not_lt.mp c_3), if_true, if_false, reduceIte, true_and, and_true, false_and, and_false, true_or, or_true, false_or, or_false, not_true_eq_false, not_false_eq_true, decide_true, decide_false, Bool.true_and, Bool.and_true, Bool.false_and, Bool.and_false, Bool.not_true, Bool.not_false, Bool.or_false, Bool.false_or, Bool.or_true, Bool.true_or]); rw [hcode]; exact ⟨by decide, rfl⟩), hP.keep oq1 hz1⟩)
    · exact cx_throw E hl9 hS ht hk dx_IAE (text := "the capacity is out of range") (by simp [lw_str]) hl dX4_addLift_10 dX4_addLift_13 dX4_addLift_14 dX4_addLift_16 dX4_addLift_19 ⟨rfl, rfl⟩ rfl ⟨Nat.le_of_ble_eq_true rfl, Nat.le_of_ble_eq_true rfl⟩ (Nat.le_of_ble_eq_true rfl) (Nat.le_of_ble_eq_true rfl) (fun H1 hz1 oq1 => ⟨(by have hcode : (if x < 1 then 1 else if x ≤ 4 then (if nI nl < 3 then 0 else 2) else 1) = 1 := (by simp only [eq_false c_1, eq_true (Int32.not_lt.mp c_1), eq_false c_2, eq_true (Int32.not_le.mp c_2), if_true, if_false, reduceIte, true_and, and_true, false_and, and_false, true_or, or_true, false_or, or_false, not_true_eq_false, not_false_eq_true, decide_true, decide_false, Bool.true_and, Bool.and_true, Bool.false_and, Bool.and_false, Bool.not_true, Bool.not_false, Bool.or_false, Bool.false_or, Bool.or_true, Bool.true_or]); rw [hcode]; exact ⟨by decide, rfl⟩), hP.keep oq1 hz1⟩)

set_option maxHeartbeats 4000000 in
set_option maxRecDepth 100000 in
theorem c_X4_addBadge (l : Launch) (g : cG) (F : Nat → Prop) (A : Nat → Nat → Nat) (nb nl nr ne : Nat) (pr : List Nat) (t : TT) (hl9 : l.stackTraces = false) (x : Int32)  : CX l yX4_addBadge cX4_addBadge 3 (some .int) 7 194 3 170 g F [.ref (A 0 0), .int x] (PD g F A nb nl nr ne pr t)
    (fun v9 H9 => v9 = some (.int (nI nb)) ∧ (if x < 0 then 1 else if x < 4 then (if nI nb < 8 then 0 else 2) else 1) = 0 ∧ ∃ A2 : Nat → Nat → Nat, A2 0 0 = A 0 0 ∧ PD g F A2 (nb + 1) nl nr ne pr (tAddB t nb x) H9)
    (fun E9 H9 => (0 < (if x < 0 then 1 else if x < 4 then (if nI nb < 8 then 0 else 2) else 1) ∧ [kIAE, kISE][(if x < 0 then 1 else if x < 4 then (if nI nb < 8 then 0 else 2) else 1) - 1]? = some E9) ∧ PD g F A nb nl nr ne pr t H9) := by
  refine CX.of (by decide) rfl ?_
  intro p e s m args below meth c E hr hk ht hP ls hl
  have hS : va_S (nF F) s.heap s.heap [] := va_S.rf
  have hx := E.1
  have hb := E.2.1
  have hE_ml := E.2.2.1
  have hown := E.2.2.2.1
  have hts := E.2.2.2.2.1
  have hG := E.2.2.2.2.2
  have hd0 := hP.di.1
  have hl : lv_has ls 3 [(0, .ref (A 0 0)), (1, .int x)] := hl
  refine lv_iload_n hx hb dX4_addBadge_0 rfl (lv_at hl 1 rfl) ?_
  refine lv_if_lt (tgt := 9) hx hb dX4_addBadge_1 (by decide) (fun c_1 => ?_) (fun c_1 => ?_)
  · exact cx_throw E hl9 hS ht hk dx_IAE (text := "the tenant is out of range") (by simp [lw_str]) hl dX4_addBadge_9 dX4_addBadge_12 dX4_addBadge_13 dX4_addBadge_15 dX4_addBadge_18 ⟨rfl, rfl⟩ rfl ⟨Nat.le_of_ble_eq_true rfl, Nat.le_of_ble_eq_true rfl⟩ (Nat.le_of_ble_eq_true rfl) (Nat.le_of_ble_eq_true rfl) (fun H1 hz1 oq1 => ⟨(by have hcode : (if x < 0 then 1 else if x < 4 then (if nI nb < 8 then 0 else 2) else 1) = 1 := (by simp only [eq_true c_1, eq_false (Int32.not_le.mpr c_1), if_true, if_false, reduceIte, true_and, and_true, false_and, and_false, true_or, or_true, false_or, or_false, not_true_eq_false, not_false_eq_true, decide_true, decide_false, Bool.true_and, Bool.and_true, Bool.false_and, Bool.and_false, Bool.not_true, Bool.not_false, Bool.or_false, Bool.false_or, Bool.or_true, Bool.true_or]); rw [hcode]; exact ⟨by decide, rfl⟩), hP.keep oq1 hz1⟩)
  · refine lv_iload_n hx hb dX4_addBadge_4 rfl (lv_at hl 1 rfl) ?_
    refine lv_iconst (v := 4) hx hb dX4_addBadge_5 (by decide) ?_
    refine lv_icmp_lt (tgt := 19) hx hb dX4_addBadge_6 (by decide) (fun c_2 => ?_) (fun c_2 => ?_)
    · refine lv_aload_n hx hb dX4_addBadge_19 rfl (lv_at hl 0 rfl) ?_
      refine dg E hP 3 fk_X4_22 dX4_addBadge_20 (v := .ref (A 2 0)) (kk := ?_)
      refine d_len E hS hP 0 nb hl ⟨rfl, rfl⟩ ⟨Nat.le_of_ble_eq_true rfl, Nat.le_of_ble_eq_true rfl⟩ dX4_addBadge_23 (kk := fun locs hS => ?_)
      refine lv_bipush (v := 8) hx hb dX4_addBadge_26 (by decide) ?_
      refine lv_icmp_lt (tgt := 41) hx hb dX4_addBadge_28 (by decide) (fun c_3 => ?_) (fun c_3 => ?_)
      · refine lv_aload_n hx hb dX4_addBadge_41 rfl (lv_at hl 0 rfl) ?_
        refine dg E hP 3 fk_X4_22 dX4_addBadge_42 (v := .ref (A 2 0)) (kk := ?_)
        refine d_len E hS hP 0 nb hl ⟨rfl, rfl⟩ ⟨Nat.le_of_ble_eq_true rfl, Nat.le_of_ble_eq_true rfl⟩ dX4_addBadge_45 (kk := fun locs hS => ?_)
        refine lv_istore_n (lv' := [(2, .int (nI nb)), (0, .ref (A 0 0)), (1, .int x)]) hx hb dX4_addBadge_48 rfl hl (by decide) rfl (fun ls hl => ?_)
        refine lv_aload_n hx hb dX4_addBadge_49 rfl (lv_at hl 1 rfl) ?_
        refine dg E hP 3 fk_X4_22 dX4_addBadge_50 (v := .ref (A 2 0)) (kk := ?_)
        refine d_new E kcX0 hS hP kl_X4_90 is_X0 in_X0 (fs := [.int 0, .int 0]) (by decide +kernel) (Nat.le_of_ble_eq_true rfl) (Nat.le_of_ble_eq_true rfl) dX4_addBadge_53 (fun z H hPn hzF hz hS => ?_)
        have hP := hPn.pd
        refine lv_dup hx hb dX4_addBadge_56 rfl ?_
        refine lv_iload_n hx hb dX4_addBadge_57 rfl (lv_at hl 2 rfl) ?_
        refine d_ninit E hS hPn (c_X0_init l g (fun q => F q ∨ q ≠ z) z x (fun q => q.elim hzF (fun q => q rfl))) ok_X0_init mn_X4_92 hz rfl hl ⟨rfl, rfl⟩ rfl ⟨Nat.le_of_ble_eq_true rfl, Nat.le_of_ble_eq_true rfl⟩ dX4_addBadge_58 rfl (fun H locs hPn hz hS => ?_)
        have hP := hPn.pd
        have hlim9 := ((nI_ltI (by omega) (by omega)).mp (show nI nb < nI 8 from c_3))
        refine d_addBadge E hS hPn hz ((nI_ltI (by omega) (by omega)).mp (show nI nb < nI 8 from c_3)) hl ⟨rfl, rfl⟩ ⟨Nat.le_of_ble_eq_true rfl, Nat.le_of_ble_eq_true rfl⟩ dX4_addBadge_61 rfl (fun A H locs hA hAi hAz hS hP => ?_)
        rw [← hA 0 (by decide)] at hl
        have hG := E.2.2.2.2.2
        refine lv_pop hx hb dX4_addBadge_64 rfl ?_
        refine lv_iload_n hx hb dX4_addBadge_65 rfl (lv_at hl 0 rfl) ?_
        have hcode : (if x < 0 then 1 else if x < 4 then (if nI nb < 8 then 0 else 2) else 1) = 0 := by simp only [eq_false c_1, eq_true (Int32.not_lt.mp c_1), eq_true c_2, eq_false (Int32.not_le.mpr c_2), eq_true c_3, eq_false (Int32.not_le.mpr c_3), if_true, if_false, reduceIte, true_and, and_true, false_and, and_false, true_or, or_true, false_or, or_false, not_true_eq_false, not_false_eq_true, decide_true, decide_false, Bool.true_and, Bool.and_true, Bool.false_and, Bool.and_false, Bool.not_true, Bool.not_false, Bool.or_false, Bool.false_or, Bool.or_true, Bool.true_or]
        exact vx_ret (ct_iret E hr hk hS ⟨rfl, hcode, ⟨_, congrFun (hA 0 (by decide)) 0, hP⟩⟩ dX4_addBadge_66 (Nat.le_of_ble_eq_true rfl) (Nat.le_of_ble_eq_true rfl))
      · exact cx_throw E hl9 hS ht hk dx_ISE (text := "there are 8 badges") (by simp [lw_str]) hl dX4_addBadge_31 dX4_addBadge_34 dX4_addBadge_35 dX4_addBadge_37 dX4_addBadge_40 ⟨rfl, rfl⟩ rfl ⟨Nat.le_of_ble_eq_true rfl, Nat.le_of_ble_eq_true rfl⟩ (Nat.le_of_ble_eq_true rfl) (Nat.le_of_ble_eq_true rfl) (fun H1 hz1 oq1 => ⟨(by have hcode : (if x < 0 then 1 else if x < 4 then (if nI nb < 8 then 0 else 2) else 1) = 2 := (by simp only [eq_false c_1, eq_true (Int32.not_lt.mp c_1), eq_true c_2, eq_false (Int32.not_le.mpr c_2), eq_false c_3, eq_true (Int32.not_lt.mp c_3), if_true, if_false, reduceIte, true_and, and_true, false_and, and_false, true_or, or_true, false_or, or_false, not_true_eq_false, not_false_eq_true, decide_true, decide_false, Bool.true_and, Bool.and_true, Bool.false_and, Bool.and_false, Bool.not_true, Bool.not_false, Bool.or_false, Bool.false_or, Bool.or_true, Bool.true_or]); rw [hcode]; exact ⟨by decide, rfl⟩), hP.keep oq1 hz1⟩)
    · exact cx_throw E hl9 hS ht hk dx_IAE (text := "the tenant is out of range") (by simp [lw_str]) hl dX4_addBadge_9 dX4_addBadge_12 dX4_addBadge_13 dX4_addBadge_15 dX4_addBadge_18 ⟨rfl, rfl⟩ rfl ⟨Nat.le_of_ble_eq_true rfl, Nat.le_of_ble_eq_true rfl⟩ (Nat.le_of_ble_eq_true rfl) (Nat.le_of_ble_eq_true rfl) (fun H1 hz1 oq1 => ⟨(by have hcode : (if x < 0 then 1 else if x < 4 then (if nI nb < 8 then 0 else 2) else 1) = 1 := (by simp only [eq_false c_1, eq_true (Int32.not_lt.mp c_1), eq_false c_2, eq_true (Int32.not_lt.mp c_2), if_true, if_false, reduceIte, true_and, and_true, false_and, and_false, true_or, or_true, false_or, or_false, not_true_eq_false, not_false_eq_true, decide_true, decide_false, Bool.true_and, Bool.and_true, Bool.false_and, Bool.and_false, Bool.not_true, Bool.not_false, Bool.or_false, Bool.false_or, Bool.or_true, Bool.true_or]); rw [hcode]; exact ⟨by decide, rfl⟩), hP.keep oq1 hz1⟩)

set_option maxHeartbeats 4000000 in
set_option maxRecDepth 100000 in
theorem c_X4_call (l : Launch) (g : cG) (F : Nat → Prop) (A : Nat → Nat → Nat) (nb nl nr ne : Nat) (pr : List Nat) (t : TT) (hl9 : l.stackTraces = false) (x y z : Int32) (hpl : pr.length ≤ nr) (hne : ne < 99) : CX l yX4_call cX4_call 6 (some .int) 8 215 8 490 g F [.ref (A 0 0), .int x, .int y, .int z] (PD g F A nb nl nr ne pr t)
    (fun v9 H9 => v9 = some (.int (nI nr)) ∧ (if dcN x nb = 0 then (if dcF y = 0 then (if dcF z = 0 then (if y = z then 2 else if dWhy t x.toNatClampNeg z = 110 then (if dHas t pr x.toNatClampNeg pr.length = true then 4 else if t 60 0 = -1 then (if nI nr < 30 then 0 else 4) else 4) else 3) else 1) else 1) else 1) = 0 ∧ ∃ A2 : Nat → Nat → Nat, A2 0 0 = A 0 0 ∧ PD g F A2 nb nl (nr + 1) (ne + 1) (pr ++ [nr]) (dGive (dNote (tAddR t nr x.toNatClampNeg y z) ne nr) (pr ++ [nr]) nl nr) H9)
    (fun E9 H9 => (0 < (if dcN x nb = 0 then (if dcF y = 0 then (if dcF z = 0 then (if y = z then 2 else if dWhy t x.toNatClampNeg z = 110 then (if dHas t pr x.toNatClampNeg pr.length = true then 4 else if t 60 0 = -1 then (if nI nr < 30 then 0 else 4) else 4) else 3) else 1) else 1) else 1) ∧ [kIOB, kIAE, kUOE, kISE][(if dcN x nb = 0 then (if dcF y = 0 then (if dcF z = 0 then (if y = z then 2 else if dWhy t x.toNatClampNeg z = 110 then (if dHas t pr x.toNatClampNeg pr.length = true then 4 else if t 60 0 = -1 then (if nI nr < 30 then 0 else 4) else 4) else 3) else 1) else 1) else 1) - 1]? = some E9) ∧ PD g F A nb nl nr ne pr t H9) := by
  refine CX.of (by decide) rfl ?_
  intro p e s m args below meth c E hr hk ht hP ls hl
  have hS : va_S (nF F) s.heap s.heap [] := va_S.rf
  have hx := E.1
  have hb := E.2.1
  have hE_ml := E.2.2.1
  have hown := E.2.2.2.1
  have hts := E.2.2.2.2.1
  have hG := E.2.2.2.2.2
  have hd0 := hP.di.1
  have hl : lv_has ls 6 [(0, .ref (A 0 0)), (1, .int x), (2, .int y), (3, .int z)] := hl
  refine lv_aload_n hx hb dX4_call_0 rfl (lv_at hl 0 rfl) ?_
  refine lv_iload_n hx hb dX4_call_1 rfl (lv_at hl 1 rfl) ?_
  refine cx_V E hS (c_X4_badgeNumbered l g F A nb nl nr ne pr t hl9 x) ok_X4_badgeNumbered lk_X4_95 hP (hP.recv hG) rfl hl ⟨rfl, rfl⟩ rfl ⟨Nat.le_of_ble_eq_true rfl, Nat.le_of_ble_eq_true rfl⟩ dX4_call_2 rfl
    (fun E9 ce9 q9 H9 locs hX9 hz9 hS hc9 hv9 hf9 => by
      obtain ⟨⟨rfl, c_1⟩, hP9⟩ := hX9
      exact cx_out ht hk hc9 hv9 hf9 ⟨(by have hcode : (if dcN x nb = 0 then (if dcF y = 0 then (if dcF z = 0 then (if y = z then 2 else if dWhy t x.toNatClampNeg z = 110 then (if dHas t pr x.toNatClampNeg pr.length = true then 4 else if t 60 0 = -1 then (if nI nr < 30 then 0 else 4) else 4) else 3) else 1) else 1) else 1) = 1 := (by simp only [eq_false c_1, if_true, if_false, reduceIte, true_and, and_true, false_and, and_false, true_or, or_true, false_or, or_false, not_true_eq_false, not_false_eq_true, decide_true, decide_false, Bool.true_and, Bool.and_true, Bool.false_and, Bool.and_false, Bool.not_true, Bool.not_false, Bool.or_false, Bool.false_or, Bool.or_true, Bool.true_or]); rw [hcode]; exact ⟨by decide, rfl⟩), hP9⟩ hS (Nat.le_of_ble_eq_true rfl) (Nat.le_of_ble_eq_true rfl)) (fun v9 H locs hv9 hS hz9 => ?_)
  obtain ⟨jx, rfl, hjx, rfl, c_1, hP⟩ := hv9
  have jx_cl : (nI jx).toNatClampNeg = jx := nI_clamp (by omega)
  refine lv_astore (lv' := [(4, .ref (A 4 jx)), (0, .ref (A 0 0)), (1, .int (nI jx)), (2, .int y), (3, .int z)]) hx hb dX4_call_5 hl (by decide) rfl (fun ls hl => ?_)
  refine lv_iload_n hx hb dX4_call_7 rfl (lv_at hl 3 rfl) ?_
  refine cx_S E hS (c_X4_checkFloor l g F A nb nl nr ne pr t hl9 y) ok_X4_checkFloor lk_X4_103 hP rfl hl ⟨rfl, rfl⟩ rfl ⟨Nat.le_of_ble_eq_true rfl, Nat.le_of_ble_eq_true rfl⟩ dX4_call_8 rfl
    (fun E9 ce9 q9 H9 locs hX9 hz9 hS hc9 hv9 hf9 => by
      obtain ⟨⟨rfl, c_2⟩, hP9⟩ := hX9
      exact cx_out ht hk hc9 hv9 hf9 ⟨(by have hcode : (if dcN (nI jx) nb = 0 then (if dcF y = 0 then (if dcF z = 0 then (if y = z then 2 else if dWhy t (nI jx).toNatClampNeg z = 110 then (if dHas t pr (nI jx).toNatClampNeg pr.length = true then 4 else if t 60 0 = -1 then (if nI nr < 30 then 0 else 4) else 4) else 3) else 1) else 1) else 1) = 1 := (by simp only [jx_cl, eq_true c_1, eq_false c_2, if_true, if_false, reduceIte, true_and, and_true, false_and, and_false, true_or, or_true, false_or, or_false, not_true_eq_false, not_false_eq_true, decide_true, decide_false, Bool.true_and, Bool.and_true, Bool.false_and, Bool.and_false, Bool.not_true, Bool.not_false, Bool.or_false, Bool.false_or, Bool.or_true, Bool.true_or]); rw [hcode]; exact ⟨by decide, rfl⟩), hP9⟩ hS (Nat.le_of_ble_eq_true rfl) (Nat.le_of_ble_eq_true rfl)) (fun v9 H locs hv9 hS hz9 => ?_)
  obtain ⟨jy, rfl, hjy, rfl, c_2, hP⟩ := hv9
  have jy_cl : (nI jy).toNatClampNeg = jy := nI_clamp (by omega)
  refine lv_iload_n hx hb dX4_call_11 rfl (lv_at hl 4 rfl) ?_
  refine cx_S E hS (c_X4_checkFloor l g F A nb nl nr ne pr t hl9 z) ok_X4_checkFloor lk_X4_103 hP rfl hl ⟨rfl, rfl⟩ rfl ⟨Nat.le_of_ble_eq_true rfl, Nat.le_of_ble_eq_true rfl⟩ dX4_call_12 rfl
    (fun E9 ce9 q9 H9 locs hX9 hz9 hS hc9 hv9 hf9 => by
      obtain ⟨⟨rfl, c_3⟩, hP9⟩ := hX9
      exact cx_out ht hk hc9 hv9 hf9 ⟨(by have hcode : (if dcN (nI jx) nb = 0 then (if dcF (nI jy) = 0 then (if dcF z = 0 then (if (nI jy) = z then 2 else if dWhy t (nI jx).toNatClampNeg z = 110 then (if dHas t pr (nI jx).toNatClampNeg pr.length = true then 4 else if t 60 0 = -1 then (if nI nr < 30 then 0 else 4) else 4) else 3) else 1) else 1) else 1) = 1 := (by simp only [jx_cl, eq_true c_1, eq_true c_2, eq_false c_3, if_true, if_false, reduceIte, true_and, and_true, false_and, and_false, true_or, or_true, false_or, or_false, not_true_eq_false, not_false_eq_true, decide_true, decide_false, Bool.true_and, Bool.and_true, Bool.false_and, Bool.and_false, Bool.not_true, Bool.not_false, Bool.or_false, Bool.false_or, Bool.or_true, Bool.true_or]); rw [hcode]; exact ⟨by decide, rfl⟩), hP9⟩ hS (Nat.le_of_ble_eq_true rfl) (Nat.le_of_ble_eq_true rfl)) (fun v9 H locs hv9 hS hz9 => ?_)
  obtain ⟨jz, rfl, hjz, rfl, c_3, hP⟩ := hv9
  have jz_cl : (nI jz).toNatClampNeg = jz := nI_clamp (by omega)
  refine lv_iload_n hx hb dX4_call_15 rfl (lv_at hl 3 rfl) ?_
  refine lv_iload_n hx hb dX4_call_16 rfl (lv_at hl 4 rfl) ?_
  refine lv_icmp_ne (tgt := 30) hx hb dX4_call_17 (by decide) (fun c_4 => ?_) (fun c_4 => ?_)
  · have n_c_4 : jy ≠ jz := fun h9 => c_4 (by rw [h9])
    refine lv_aload_n hx hb dX4_call_30 rfl (lv_at hl 1 rfl) ?_
    refine lv_aload hx hb dX4_call_31 (lv_at hl 0 rfl) ?_
    refine lv_iload_n hx hb dX4_call_33 rfl (lv_at hl 4 rfl) ?_
    refine ct_V E hS (c_X4_whyNot l g F A nb nl nr ne pr t jx (nI jz) hjx) ok_X4_whyNot lk_X4_106 hP (hP.recv hG) rfl hl ⟨rfl, rfl⟩ rfl ⟨Nat.le_of_ble_eq_true rfl, Nat.le_of_ble_eq_true rfl⟩ dX4_call_34 rfl (fun v9 H locs hv9 hS hz9 => ?_)
    obtain ⟨rfl, hP⟩ := hv9
    refine lv_bipush (v := 110) hx hb dX4_call_37 (by decide) ?_
    refine lv_icmp_eq (tgt := 52) hx hb dX4_call_39 (by decide) (fun c_5 => ?_) (fun c_5 => ?_)
    · refine lv_aload_n hx hb dX4_call_52 rfl (lv_at hl 1 rfl) ?_
      refine lv_aload hx hb dX4_call_53 (lv_at hl 0 rfl) ?_
      refine ct_V E hS (c_X4_hasRider l g F A nb nl nr ne pr t jx hjx) ok_X4_hasRider lk_X4_117 hP (hP.recv hG) rfl hl ⟨rfl, rfl⟩ rfl ⟨Nat.le_of_ble_eq_true rfl, Nat.le_of_ble_eq_true rfl⟩ dX4_call_55 rfl (fun v9 H locs hv9 hS hz9 => ?_)
      obtain ⟨rfl, hP⟩ := hv9
      refine bz_ne (tgt := 81) hx hb dX4_call_58 (by decide) (fun c_6 => ?_) (fun c_6 => ?_)
      · exact cx_throw E hl9 hS ht hk dx_ISE (text := "no rider can call with this badge now") (by simp [lw_str]) hl dX4_call_81 dX4_call_84 dX4_call_85 dX4_call_87 dX4_call_90 ⟨rfl, rfl⟩ rfl ⟨Nat.le_of_ble_eq_true rfl, Nat.le_of_ble_eq_true rfl⟩ (Nat.le_of_ble_eq_true rfl) (Nat.le_of_ble_eq_true rfl) (fun H1 hz1 oq1 => ⟨(by have hcode : (if dcN (nI jx) nb = 0 then (if dcF (nI jy) = 0 then (if dcF (nI jz) = 0 then (if (nI jy) = (nI jz) then 2 else if dWhy t (nI jx).toNatClampNeg (nI jz) = 110 then (if dHas t pr (nI jx).toNatClampNeg pr.length = true then 4 else if t 60 0 = -1 then (if nI nr < 30 then 0 else 4) else 4) else 3) else 1) else 1) else 1) = 4 := (by simp only [jx_cl, eq_true c_1, eq_true c_2, eq_true c_3, eq_false c_4, eq_true c_5, eq_true c_6, if_true, if_false, reduceIte, true_and, and_true, false_and, and_false, true_or, or_true, false_or, or_false, not_true_eq_false, not_false_eq_true, decide_true, decide_false, Bool.true_and, Bool.and_true, Bool.false_and, Bool.and_false, Bool.not_true, Bool.not_false, Bool.or_false, Bool.false_or, Bool.or_true, Bool.true_or]); rw [hcode]; exact ⟨by decide, rfl⟩), hP.keep oq1 hz1⟩)
      · refine lv_aload_n hx hb dX4_call_61 rfl (lv_at hl 1 rfl) ?_
        refine dg E hP 9 fk_X4_42 dX4_call_62 (v := .int (t 60 0)) (kk := ?_)
        refine lv_iconst (v := (-1)) hx hb dX4_call_65 (by decide) ?_
        refine lv_icmp_ne (tgt := 81) hx hb dX4_call_66 (by decide) (fun c_7 => ?_) (fun c_7 => ?_)
        · exact cx_throw E hl9 hS ht hk dx_ISE (text := "no rider can call with this badge now") (by simp [lw_str]) hl dX4_call_81 dX4_call_84 dX4_call_85 dX4_call_87 dX4_call_90 ⟨rfl, rfl⟩ rfl ⟨Nat.le_of_ble_eq_true rfl, Nat.le_of_ble_eq_true rfl⟩ (Nat.le_of_ble_eq_true rfl) (Nat.le_of_ble_eq_true rfl) (fun H1 hz1 oq1 => ⟨(by have hcode : (if dcN (nI jx) nb = 0 then (if dcF (nI jy) = 0 then (if dcF (nI jz) = 0 then (if (nI jy) = (nI jz) then 2 else if dWhy t (nI jx).toNatClampNeg (nI jz) = 110 then (if dHas t pr (nI jx).toNatClampNeg pr.length = true then 4 else if t 60 0 = -1 then (if nI nr < 30 then 0 else 4) else 4) else 3) else 1) else 1) else 1) = 4 := (by simp only [jx_cl, eq_true c_1, eq_true c_2, eq_true c_3, eq_false c_4, eq_true c_5, eq_false c_6, eq_false c_7, if_true, if_false, reduceIte, true_and, and_true, false_and, and_false, true_or, or_true, false_or, or_false, not_true_eq_false, not_false_eq_true, decide_true, decide_false, Bool.true_and, Bool.and_true, Bool.false_and, Bool.and_false, Bool.not_true, Bool.not_false, Bool.or_false, Bool.false_or, Bool.or_true, Bool.true_or]); rw [hcode]; exact ⟨by decide, rfl⟩), hP.keep oq1 hz1⟩)
        · refine lv_aload_n hx hb dX4_call_69 rfl (lv_at hl 1 rfl) ?_
          refine dg E hP 5 fk_X4_29 dX4_call_70 (v := .ref (A 2 2)) (kk := ?_)
          refine d_len E hS hP 2 nr hl ⟨rfl, rfl⟩ ⟨Nat.le_of_ble_eq_true rfl, Nat.le_of_ble_eq_true rfl⟩ dX4_call_73 (kk := fun locs hS => ?_)
          refine lv_bipush (v := 30) hx hb dX4_call_76 (by decide) ?_
          refine lv_icmp_lt (tgt := 91) hx hb dX4_call_78 (by decide) (fun c_8 => ?_) (fun c_8 => ?_)
          · refine d_new E kcX3 hS hP kl_X4_123 is_X3 in_X3 (fs := [.int 0, .null, .int 0, .int 0, .int 0, .null, .int 0]) (by decide +kernel) (Nat.le_of_ble_eq_true rfl) (Nat.le_of_ble_eq_true rfl) dX4_call_91 (fun z H hPn hzF hz hS => ?_)
            have hP := hPn.pd
            refine lv_dup hx hb dX4_call_94 rfl ?_
            refine lv_aload_n hx hb dX4_call_95 rfl (lv_at hl 1 rfl) ?_
            refine dg E hP 5 fk_X4_29 dX4_call_96 (v := .ref (A 2 2)) (kk := ?_)
            refine d_len E hS hP 2 nr hl ⟨rfl, rfl⟩ ⟨Nat.le_of_ble_eq_true rfl, Nat.le_of_ble_eq_true rfl⟩ dX4_call_99 (kk := fun locs hS => ?_)
            refine lv_aload hx hb dX4_call_102 (lv_at hl 0 rfl) ?_
            refine lv_iload_n hx hb dX4_call_104 rfl (lv_at hl 3 rfl) ?_
            refine lv_iload_n hx hb dX4_call_105 rfl (lv_at hl 4 rfl) ?_
            refine d_ninit E hS hPn (c_X3_init l g (fun q => F q ∨ q ≠ z) z (nI nr) (A 4 jx) (nI jy) (nI jz) (fun q => q.elim hzF (fun q => q rfl))) ok_X3_init mn_X4_125 hz rfl hl ⟨rfl, rfl⟩ rfl ⟨Nat.le_of_ble_eq_true rfl, Nat.le_of_ble_eq_true rfl⟩ dX4_call_106 rfl (fun H locs hPn hz hS => ?_)
            have hP := hPn.pd
            refine lv_astore (lv' := [(5, .ref z), (4, .ref (A 4 jx)), (0, .ref (A 0 0)), (1, .int (nI jx)), (2, .int (nI jy)), (3, .int (nI jz))]) hx hb dX4_call_109 hl (by decide) rfl (fun ls hl => ?_)
            refine lv_aload_n hx hb dX4_call_111 rfl (lv_at hl 2 rfl) ?_
            refine dg E hP 5 fk_X4_29 dX4_call_112 (v := .ref (A 2 2)) (kk := ?_)
            refine lv_aload hx hb dX4_call_115 (lv_at hl 0 rfl) ?_
            have hlim9 := ((nI_ltI (by omega) (by omega)).mp (show nI nr < nI 30 from c_8))
            refine d_addRider E hS hPn hz ((nI_ltI (by omega) (by omega)).mp (show nI nr < nI 30 from c_8)) hjx hl ⟨rfl, rfl⟩ ⟨Nat.le_of_ble_eq_true rfl, Nat.le_of_ble_eq_true rfl⟩ dX4_call_117 rfl (fun A H locs hA hAi hAz hS hP => ?_)
            rw [← hA 0 (by decide)] at hl
            rw [← hA 4 (by decide)] at hl
            rw [← hAz] at hl
            have hG := E.2.2.2.2.2
            refine lv_pop hx hb dX4_call_120 rfl ?_
            refine lv_aload_n hx hb dX4_call_121 rfl (lv_at hl 2 rfl) ?_
            refine dg E hP 6 fk_X4_32 dX4_call_122 (v := .ref (A 2 3)) (kk := ?_)
            refine lv_aload hx hb dX4_call_125 (lv_at hl 0 rfl) ?_
            refine d_addP E hS hP nr (Nat.lt_succ_self nr) (by omega) hl ⟨rfl, rfl⟩ ⟨Nat.le_of_ble_eq_true rfl, Nat.le_of_ble_eq_true rfl⟩ dX4_call_127 (kk := fun H locs hS hP hz9 => ?_)
            refine lv_pop hx hb dX4_call_130 rfl ?_
            refine lv_aload_n hx hb dX4_call_131 rfl (lv_at hl 2 rfl) ?_
            refine lv_aload hx hb dX4_call_132 (lv_at hl 0 rfl) ?_
            refine ct_V E hS (c_X4_note l g F A nb nl (nr + 1) ne (pr ++ [nr]) (tAddR t nr jx (nI jy) (nI jz)) nr (Nat.lt_succ_self nr) hne) ok_X4_note lk_X4_128 hP (hP.recv hG) rfl hl ⟨rfl, rfl⟩ rfl ⟨Nat.le_of_ble_eq_true rfl, Nat.le_of_ble_eq_true rfl⟩ dX4_call_134 rfl (fun v9 H locs hv9 hS hz9 => ?_)
            obtain ⟨rfl, hP⟩ := hv9
            refine lv_aload_n hx hb dX4_call_137 rfl (lv_at hl 2 rfl) ?_
            refine lv_aload hx hb dX4_call_138 (lv_at hl 0 rfl) ?_
            refine ct_V E hS (c_X4_giveLift l g F A nb nl (nr + 1) (ne + 1) (pr ++ [nr]) (dNote (tAddR t nr jx (nI jy) (nI jz)) ne nr) nr (Nat.lt_succ_self nr)) ok_X4_giveLift lk_X4_132 hP (hP.recv hG) rfl hl ⟨rfl, rfl⟩ rfl ⟨Nat.le_of_ble_eq_true rfl, Nat.le_of_ble_eq_true rfl⟩ dX4_call_140 rfl (fun v9 H locs hv9 hS hz9 => ?_)
            obtain ⟨rfl, hP⟩ := hv9
            refine lv_aload hx hb dX4_call_143 (lv_at hl 0 rfl) ?_
            refine dgn E hP 6 nr (Nat.lt_succ_self nr) kcX3 0 fn_X4_135 dX4_call_145 (v := .int (nI nr)) (kk := ?_)
            have hcode : (if dcN (nI jx) nb = 0 then (if dcF (nI jy) = 0 then (if dcF (nI jz) = 0 then (if (nI jy) = (nI jz) then 2 else if dWhy t (nI jx).toNatClampNeg (nI jz) = 110 then (if dHas t pr (nI jx).toNatClampNeg pr.length = true then 4 else if t 60 0 = -1 then (if nI nr < 30 then 0 else 4) else 4) else 3) else 1) else 1) else 1) = 0 := by simp only [jx_cl, eq_true c_1, eq_true c_2, eq_true c_3, eq_false c_4, eq_true c_5, eq_false c_6, eq_true c_7, eq_true c_8, if_true, if_false, reduceIte, true_and, and_true, false_and, and_false, true_or, or_true, false_or, or_false, not_true_eq_false, not_false_eq_true, decide_true, decide_false, Bool.true_and, Bool.and_true, Bool.false_and, Bool.and_false, Bool.not_true, Bool.not_false, Bool.or_false, Bool.false_or, Bool.or_true, Bool.true_or]
            exact vx_ret (ct_iret E hr hk hS ⟨rfl, hcode, ⟨_, congrFun (hA 0 (by decide)) 0, by rw [jx_cl]; exact hP⟩⟩ dX4_call_148 (Nat.le_of_ble_eq_true rfl) (Nat.le_of_ble_eq_true rfl))
          · exact cx_throw E hl9 hS ht hk dx_ISE (text := "no rider can call with this badge now") (by simp [lw_str]) hl dX4_call_81 dX4_call_84 dX4_call_85 dX4_call_87 dX4_call_90 ⟨rfl, rfl⟩ rfl ⟨Nat.le_of_ble_eq_true rfl, Nat.le_of_ble_eq_true rfl⟩ (Nat.le_of_ble_eq_true rfl) (Nat.le_of_ble_eq_true rfl) (fun H1 hz1 oq1 => ⟨(by have hcode : (if dcN (nI jx) nb = 0 then (if dcF (nI jy) = 0 then (if dcF (nI jz) = 0 then (if (nI jy) = (nI jz) then 2 else if dWhy t (nI jx).toNatClampNeg (nI jz) = 110 then (if dHas t pr (nI jx).toNatClampNeg pr.length = true then 4 else if t 60 0 = -1 then (if nI nr < 30 then 0 else 4) else 4) else 3) else 1) else 1) else 1) = 4 := (by simp only [jx_cl, eq_true c_1, eq_true c_2, eq_true c_3, eq_false c_4, eq_true c_5, eq_false c_6, eq_true c_7, eq_false c_8, if_true, if_false, reduceIte, true_and, and_true, false_and, and_false, true_or, or_true, false_or, or_false, not_true_eq_false, not_false_eq_true, decide_true, decide_false, Bool.true_and, Bool.and_true, Bool.false_and, Bool.and_false, Bool.not_true, Bool.not_false, Bool.or_false, Bool.false_or, Bool.or_true, Bool.true_or]); rw [hcode]; exact ⟨by decide, rfl⟩), hP.keep oq1 hz1⟩)
    · exact cx_throw E hl9 hS ht hk dx_UOE (text := "the badge may not enter the floor") (by simp [lw_str]) hl dX4_call_42 dX4_call_45 dX4_call_46 dX4_call_48 dX4_call_51 ⟨rfl, rfl⟩ rfl ⟨Nat.le_of_ble_eq_true rfl, Nat.le_of_ble_eq_true rfl⟩ (Nat.le_of_ble_eq_true rfl) (Nat.le_of_ble_eq_true rfl) (fun H1 hz1 oq1 => ⟨(by have hcode : (if dcN (nI jx) nb = 0 then (if dcF (nI jy) = 0 then (if dcF (nI jz) = 0 then (if (nI jy) = (nI jz) then 2 else if dWhy t (nI jx).toNatClampNeg (nI jz) = 110 then (if dHas t pr (nI jx).toNatClampNeg pr.length = true then 4 else if t 60 0 = -1 then (if nI nr < 30 then 0 else 4) else 4) else 3) else 1) else 1) else 1) = 3 := (by simp only [jx_cl, eq_true c_1, eq_true c_2, eq_true c_3, eq_false c_4, eq_false c_5, if_true, if_false, reduceIte, true_and, and_true, false_and, and_false, true_or, or_true, false_or, or_false, not_true_eq_false, not_false_eq_true, decide_true, decide_false, Bool.true_and, Bool.and_true, Bool.false_and, Bool.and_false, Bool.not_true, Bool.not_false, Bool.or_false, Bool.false_or, Bool.or_true, Bool.true_or]); rw [hcode]; exact ⟨by decide, rfl⟩), hP.keep oq1 hz1⟩)
  · have n_c_4 : jy = jz := (nI_eq (by omega) (by omega)).mp c_4
    exact cx_throw E hl9 hS ht hk dx_IAE (text := "both floors are the same") (by simp [lw_str]) hl dX4_call_20 dX4_call_23 dX4_call_24 dX4_call_26 dX4_call_29 ⟨rfl, rfl⟩ rfl ⟨Nat.le_of_ble_eq_true rfl, Nat.le_of_ble_eq_true rfl⟩ (Nat.le_of_ble_eq_true rfl) (Nat.le_of_ble_eq_true rfl) (fun H1 hz1 oq1 => ⟨(by have hcode : (if dcN (nI jx) nb = 0 then (if dcF (nI jy) = 0 then (if dcF (nI jz) = 0 then (if (nI jy) = (nI jz) then 2 else if dWhy t (nI jx).toNatClampNeg (nI jz) = 110 then (if dHas t pr (nI jx).toNatClampNeg pr.length = true then 4 else if t 60 0 = -1 then (if nI nr < 30 then 0 else 4) else 4) else 3) else 1) else 1) else 1) = 2 := (by simp only [jx_cl, eq_true c_1, eq_true c_2, eq_true c_3, eq_true c_4, if_true, if_false, reduceIte, true_and, and_true, false_and, and_false, true_or, or_true, false_or, or_false, not_true_eq_false, not_false_eq_true, decide_true, decide_false, Bool.true_and, Bool.and_true, Bool.false_and, Bool.and_false, Bool.not_true, Bool.not_false, Bool.or_false, Bool.false_or, Bool.or_true, Bool.true_or]); rw [hcode]; exact ⟨by decide, rfl⟩), hP.keep oq1 hz1⟩)

set_option maxHeartbeats 4000000 in
set_option maxRecDepth 100000 in
theorem c_X4_alarm (l : Launch) (g : cG) (F : Nat → Prop) (A : Nat → Nat → Nat) (nb nl nr ne : Nat) (pr : List Nat) (t : TT) (hl9 : l.stackTraces = false) (x : Int32) (s2 : DS) (hs2 : s2 = dSe pr.length (tu t 60 0 x, pr, ne)) (hph : ne + dPh (t 13) pr ≤ 95) : CX l yX4_alarm cX4_alarm 2 (some .int) 10 259 (2 * (s2.2.2 - ne) + 2) (153 * (s2.2.2 - ne) + 12) g F [.ref (A 0 0), .int x] (PD g F A nb nl nr ne pr t)
    (fun v9 H9 => v9 = some (.int (nI s2.2.1.length)) ∧ (if dcF x = 0 then (if t 60 0 = -1 then (if nI pr.length = 0 then 2 else 0) else 2) else 1) = 0 ∧ PD g F A nb nl nr s2.2.2 s2.2.1 s2.1 H9)
    (fun E9 H9 => (0 < (if dcF x = 0 then (if t 60 0 = -1 then (if nI pr.length = 0 then 2 else 0) else 2) else 1) ∧ [kIOB, kISE][(if dcF x = 0 then (if t 60 0 = -1 then (if nI pr.length = 0 then 2 else 0) else 2) else 1) - 1]? = some E9) ∧ PD g F A nb nl nr ne pr t H9) := by
  refine CX.of (by decide) rfl ?_
  intro p e s m args below meth c E hr hk ht hP ls hl
  have hS : va_S (nF F) s.heap s.heap [] := va_S.rf
  have hx := E.1
  have hb := E.2.1
  have hE_ml := E.2.2.1
  have hown := E.2.2.2.1
  have hts := E.2.2.2.2.1
  have hG := E.2.2.2.2.2
  have hd0 := hP.di.1
  have hl : lv_has ls 2 [(0, .ref (A 0 0)), (1, .int x)] := hl
  refine lv_iload_n hx hb dX4_alarm_0 rfl (lv_at hl 1 rfl) ?_
  refine cx_S E hS (c_X4_checkFloor l g F A nb nl nr ne pr t hl9 x) ok_X4_checkFloor lk_X4_103 hP rfl hl ⟨rfl, rfl⟩ rfl ⟨by show _ ≤ 2 * (s2.2.2 - ne) + 2; omega, by show _ ≤ 153 * (s2.2.2 - ne) + 12; omega⟩ dX4_alarm_1 rfl
    (fun E9 ce9 q9 H9 locs hX9 hz9 hS hc9 hv9 hf9 => by
      obtain ⟨⟨rfl, c_1⟩, hP9⟩ := hX9
      exact cx_out ht hk hc9 hv9 hf9 ⟨(by have hcode : (if dcF x = 0 then (if t 60 0 = -1 then (if nI pr.length = 0 then 2 else 0) else 2) else 1) = 1 := (by simp only [eq_false c_1, if_true, if_false, reduceIte, true_and, and_true, false_and, and_false, true_or, or_true, false_or, or_false, not_true_eq_false, not_false_eq_true, decide_true, decide_false, Bool.true_and, Bool.and_true, Bool.false_and, Bool.and_false, Bool.not_true, Bool.not_false, Bool.or_false, Bool.false_or, Bool.or_true, Bool.true_or]); rw [hcode]; exact ⟨by decide, rfl⟩), hP9⟩ hS (by show _ ≤ 2 * (s2.2.2 - ne) + 2; omega) (by show _ ≤ 153 * (s2.2.2 - ne) + 12; omega)) (fun v9 H locs hv9 hS hz9 => ?_)
  obtain ⟨jx, rfl, hjx, rfl, c_1, hP⟩ := hv9
  have jx_cl : (nI jx).toNatClampNeg = jx := nI_clamp (by omega)
  refine lv_aload_n hx hb dX4_alarm_4 rfl (lv_at hl 0 rfl) ?_
  refine dg E hP 9 fk_X4_42 dX4_alarm_5 (v := .int (t 60 0)) (kk := ?_)
  refine lv_iconst (v := (-1)) hx hb dX4_alarm_8 (by decide) ?_
  refine lv_icmp_ne (tgt := 22) hx hb dX4_alarm_9 (by decide) (fun c_2 => ?_) (fun c_2 => ?_)
  · exact cx_throw E hl9 hS ht hk dx_ISE (text := "no alarm can begin now") (by simp [lw_str]) hl dX4_alarm_22 dX4_alarm_25 dX4_alarm_26 dX4_alarm_28 dX4_alarm_31 ⟨rfl, rfl⟩ rfl ⟨by show _ ≤ 2 * (s2.2.2 - ne) + 2; omega, by show _ ≤ 153 * (s2.2.2 - ne) + 12; omega⟩ (by show _ ≤ 2 * (s2.2.2 - ne) + 2; omega) (by show _ ≤ 153 * (s2.2.2 - ne) + 12; omega) (fun H1 hz1 oq1 => ⟨(by have hcode : (if dcF (nI jx) = 0 then (if t 60 0 = -1 then (if nI pr.length = 0 then 2 else 0) else 2) else 1) = 2 := (by simp only [eq_true c_1, eq_false c_2, if_true, if_false, reduceIte, true_and, and_true, false_and, and_false, true_or, or_true, false_or, or_false, not_true_eq_false, not_false_eq_true, decide_true, decide_false, Bool.true_and, Bool.and_true, Bool.false_and, Bool.and_false, Bool.not_true, Bool.not_false, Bool.or_false, Bool.false_or, Bool.or_true, Bool.true_or]); rw [hcode]; exact ⟨by decide, rfl⟩), hP.keep oq1 hz1⟩)
  · refine lv_aload_n hx hb dX4_alarm_12 rfl (lv_at hl 0 rfl) ?_
    refine dg E hP 6 fk_X4_32 dX4_alarm_13 (v := .ref (A 2 3)) (kk := ?_)
    refine d_emp E hS hP 3 pr.length hl ⟨rfl, rfl⟩ ⟨by show _ ≤ 2 * (s2.2.2 - ne) + 2; omega, by show _ ≤ 153 * (s2.2.2 - ne) + 12; omega⟩ dX4_alarm_16 (kk := fun locs hS => ?_)
    refine bz_eq (tgt := 32) hx hb dX4_alarm_19 (by decide) (fun c_3 => ?_) (fun c_3 => ?_)
    · refine lv_aload_n hx hb dX4_alarm_32 rfl (lv_at hl 0 rfl) ?_
      refine lv_iload_n hx hb dX4_alarm_33 rfl (lv_at hl 1 rfl) ?_
      refine dp E hS hP 9 60 fk_X4_42 hs_alarm hP.di.p dX4_alarm_34 (kk := fun H locs hS hP => ?_)
      refine lv_aload_n hx hb dX4_alarm_37 rfl (lv_at hl 0 rfl) ?_
      refine ct_V E hS (c_X4_sendAllToLobby l g F A nb nl nr ne pr (tu t 60 0 (nI jx)) s2 hs2 (by rw [tu_r (by decide)]; exact hph)) ok_X4_sendAllToLobby lk_X4_201 hP (hP.recv hG) rfl hl ⟨rfl, rfl⟩ rfl ⟨by show 0 + 1 + 2 * (s2.2.2 - ne) ≤ 2 * (s2.2.2 - ne) + 2; omega, by show 0 + 6 + 153 * (s2.2.2 - ne) ≤ 153 * (s2.2.2 - ne) + 12; omega⟩ dX4_alarm_38 rfl (fun v9 H locs hv9 hS hz9 => ?_)
      obtain ⟨rfl, hP⟩ := hv9
      refine lv_aload_n hx hb dX4_alarm_41 rfl (lv_at hl 0 rfl) ?_
      refine dg E hP 6 fk_X4_32 dX4_alarm_42 (v := .ref (A 2 3)) (kk := ?_)
      refine d_len E hS hP 3 s2.2.1.length hl ⟨rfl, rfl⟩ ⟨by show _ ≤ 2 * (s2.2.2 - ne) + 2; omega, by show _ ≤ 153 * (s2.2.2 - ne) + 12; omega⟩ dX4_alarm_45 (kk := fun locs hS => ?_)
      have hcode : (if dcF (nI jx) = 0 then (if t 60 0 = -1 then (if nI pr.length = 0 then 2 else 0) else 2) else 1) = 0 := by simp only [eq_true c_1, eq_true c_2, eq_false c_3, if_true, if_false, reduceIte, true_and, and_true, false_and, and_false, true_or, or_true, false_or, or_false, not_true_eq_false, not_false_eq_true, decide_true, decide_false, Bool.true_and, Bool.and_true, Bool.false_and, Bool.and_false, Bool.not_true, Bool.not_false, Bool.or_false, Bool.false_or, Bool.or_true, Bool.true_or]
      exact vx_ret (ct_iret E hr hk hS ⟨rfl, hcode, hP⟩ dX4_alarm_48 (by show 0 + 1 + 2 * (s2.2.2 - ne) ≤ 2 * (s2.2.2 - ne) + 2; omega) (by show 0 + 6 + 153 * (s2.2.2 - ne) ≤ 153 * (s2.2.2 - ne) + 12; omega))
    · exact cx_throw E hl9 hS ht hk dx_ISE (text := "no alarm can begin now") (by simp [lw_str]) hl dX4_alarm_22 dX4_alarm_25 dX4_alarm_26 dX4_alarm_28 dX4_alarm_31 ⟨rfl, rfl⟩ rfl ⟨by show _ ≤ 2 * (s2.2.2 - ne) + 2; omega, by show _ ≤ 153 * (s2.2.2 - ne) + 12; omega⟩ (by show _ ≤ 2 * (s2.2.2 - ne) + 2; omega) (by show _ ≤ 153 * (s2.2.2 - ne) + 12; omega) (fun H1 hz1 oq1 => ⟨(by have hcode : (if dcF (nI jx) = 0 then (if t 60 0 = -1 then (if nI pr.length = 0 then 2 else 0) else 2) else 1) = 2 := (by simp only [eq_true c_1, eq_true c_2, eq_true c_3, if_true, if_false, reduceIte, true_and, and_true, false_and, and_false, true_or, or_true, false_or, or_false, not_true_eq_false, not_false_eq_true, decide_true, decide_false, Bool.true_and, Bool.and_true, Bool.false_and, Bool.and_false, Bool.not_true, Bool.not_false, Bool.or_false, Bool.false_or, Bool.or_true, Bool.true_or]); rw [hcode]; exact ⟨by decide, rfl⟩), hP.keep oq1 hz1⟩)

set_option maxHeartbeats 4000000 in
set_option maxRecDepth 100000 in
theorem c_X4_pass (l : Launch) (g : cG) (F : Nat → Prop) (A : Nat → Nat → Nat) (nb nl nr ne : Nat) (pr : List Nat) (t : TT) (hl9 : l.stackTraces = false) (x : Int32) (s2 : DS) (hs2 : s2 = dTicks nl (t, pr, ne) x.toNatClampNeg) (hph : ne + dPh (t 13) pr ≤ 95) : CX l yX4_pass cX4_pass 4 (some .int) 12 305 (2 * (s2.2.2 - ne) + 1) (153 * (s2.2.2 - ne) + 6) g F [.ref (A 0 0), .int x] (PD g F A nb nl nr ne pr t)
    (fun v9 H9 => v9 = some (.int (nI pr.length - nI s2.2.1.length)) ∧ (if x < 1 then 1 else if x ≤ 100 then 0 else 1) = 0 ∧ PD g F A nb nl nr s2.2.2 s2.2.1 s2.1 H9)
    (fun E9 H9 => (0 < (if x < 1 then 1 else if x ≤ 100 then 0 else 1) ∧ [kIAE][(if x < 1 then 1 else if x ≤ 100 then 0 else 1) - 1]? = some E9) ∧ PD g F A nb nl nr ne pr t H9) := by
  refine CX.of (by decide) rfl ?_
  intro p e s m args below meth c E hr hk ht hP ls hl
  have hS : va_S (nF F) s.heap s.heap [] := va_S.rf
  have hx := E.1
  have hb := E.2.1
  have hE_ml := E.2.2.1
  have hown := E.2.2.2.1
  have hts := E.2.2.2.2.1
  have hG := E.2.2.2.2.2
  have hd0 := hP.di.1
  have hl : lv_has ls 4 [(0, .ref (A 0 0)), (1, .int x)] := hl
  refine lv_iload_n hx hb dX4_pass_0 rfl (lv_at hl 1 rfl) ?_
  refine lv_iconst (v := 1) hx hb dX4_pass_1 (by decide) ?_
  refine lv_icmp_lt (tgt := 11) hx hb dX4_pass_2 (by decide) (fun c1 => ?_) (fun c1 => ?_)
  · exact cx_throw E hl9 hS ht hk dx_IAE (text := "the number of ticks is out of range") (by simp [lw_str]) hl dX4_pass_11 dX4_pass_14 dX4_pass_15 dX4_pass_17 dX4_pass_20 ⟨rfl, rfl⟩ rfl ⟨by show _ ≤ 2 * (s2.2.2 - ne) + 1; omega, by show _ ≤ 153 * (s2.2.2 - ne) + 6; omega⟩ (by omega) (by omega) (fun H1 hz1 oq1 => ⟨by rw [if_pos c1]; exact ⟨by decide, rfl⟩, hP.keep oq1 hz1⟩)
  · refine lv_iload_n hx hb dX4_pass_5 rfl (lv_at hl 1 rfl) ?_
    refine lv_bipush (v := 100) hx hb dX4_pass_6 (by decide) ?_
    refine lv_icmp_le (tgt := 21) hx hb dX4_pass_8 (by decide) (fun c2 => ?_) (fun c2 => ?_)
    · have hcode : (if x < 1 then 1 else if x ≤ 100 then 0 else 1) = 0 := by rw [if_neg c1, if_pos c2]
      obtain ⟨j, rfl, j_lo, j_hi⟩ := bet_nI 1 100 1 100 ⟨Int32.not_lt.mp c1, c2⟩ (by decide) (by decide)
      rw [nI_clamp (by omega)] at hs2
      refine lv_aload_n hx hb dX4_pass_21 rfl (lv_at hl 0 rfl) ?_
      refine dg E hP 6 fk_X4_32 dX4_pass_22 (v := .ref (A 2 3)) (kk := ?_)
      refine d_len E hS hP 3 pr.length hl ⟨rfl, rfl⟩ ⟨Nat.zero_le _, Nat.zero_le _⟩ dX4_pass_25 (kk := fun locs hS => ?_)
      refine lv_istore_n (lv' := [(2, .int (nI pr.length)), (0, .ref (A 0 0)), (1, .int (nI j))]) hx hb dX4_pass_28 rfl hl (by decide) rfl (fun ls hl => ?_)
      refine lv_iconst (v := 0) hx hb dX4_pass_29 (by decide) ?_
      refine lv_istore_n (lv' := [(3, .int 0), (2, .int (nI pr.length)), (0, .ref (A 0 0)), (1, .int (nI j))]) hx hb dX4_pass_30 rfl hl (by decide) rfl (fun ls hl => ?_)
      have LP : ∀ (n9 i : Nat) (sd : DS), i ≤ j → j < i + n9 → sd = dTicks nl (t, pr, ne) i → dOkS (t, pr, ne) sd → ∀ (H : Heap) (locs : List Loc), va_S (nF F) s.heap H locs → PD g F A nb nl nr sd.2.2 sd.2.1 sd.1 H → ∀ (ls : Array Slot), lv_has ls 4 [(3, .int (nI i)), (2, .int (nI pr.length)), (0, .ref (A 0 0)), (1, .int (nI j))] →
          W p l e { frames := 12, cells := 2 * (s2.2.2 - ne) + 1, slots := 153 * (s2.2.2 - ne) + 6, locals := 305 } s m args below meth c H locs (2 * (sd.2.2 - ne)) (153 * (sd.2.2 - ne)) (vx_MQ below (Qg F (fun v9 H9 => v9 = some (.int (nI pr.length - nI s2.2.1.length)) ∧ (if (nI j) < 1 then 1 else if (nI j) ≤ 100 then 0 else 1) = 0 ∧ PD g F A nb nl nr s2.2.2 s2.2.1 s2.1 H9)) (Xg F (fun E9 H9 => (0 < (if (nI j) < 1 then 1 else if (nI j) ≤ 100 then 0 else 1) ∧ [kIAE][(if (nI j) < 1 then 1 else if (nI j) ≤ 100 then 0 else 1) - 1]? = some E9) ∧ PD g F A nb nl nr ne pr t H9)) args s (2 * (s2.2.2 - ne) + 1) (153 * (s2.2.2 - ne) + 6) (nF F)) (F0 m 31 ls []) := by
        intro n9
        induction n9 with
        | zero => intro i sd hi9 hn9; exact absurd hn9 (by omega)
        | succ n9 ih =>
          intro i sd hi hn hres hok H locs hS hP ls hl
          have hmo : sd.2.2 ≤ s2.2.2 := by rw [hs2, hres]; exact dTicks_le j i hi
          have hn0 : ne ≤ sd.2.2 := hok.1
          have hph2 : sd.2.2 + dPh (sd.1 13) sd.2.1 ≤ ne + dPh (t 13) pr := hok.2.1
          refine lv_iload_n hx hb dX4_pass_31 rfl (lv_at hl 0 rfl) ?_
          refine lv_iload_n hx hb dX4_pass_32 rfl (lv_at hl 3 rfl) ?_
          refine lv_icmp_ge (tgt := 46) hx hb dX4_pass_33 (by decide) (fun c3 => ?_) (fun c3 => ?_)
          · have e_i : i = j := by
              have := (nI_leI (by omega) (by omega)).mp c3
              omega
            subst e_i
            have hfin : s2 = sd := by rw [hs2, hres]
            refine lv_iload_n hx hb dX4_pass_46 rfl (lv_at hl 1 rfl) ?_
            refine lv_aload_n hx hb dX4_pass_47 rfl (lv_at hl 2 rfl) ?_
            refine dg E hP 6 fk_X4_32 dX4_pass_48 (v := .ref (A 2 3)) (kk := ?_)
            refine d_len E hS hP 3 sd.2.1.length hl ⟨rfl, rfl⟩ ⟨by show _ ≤ 2 * (s2.2.2 - ne) + 1; omega, by show _ ≤ 153 * (s2.2.2 - ne) + 6; omega⟩ dX4_pass_51 (kk := fun locs hS => ?_)
            refine lv_isub hx hb dX4_pass_54 ?_
            exact vx_ret (ct_iret E hr hk hS ⟨by rw [hfin], hcode, by rw [hfin]; exact hP⟩ dX4_pass_55 (by omega) (by omega))
          · have hij : i < j := Nat.lt_of_not_le (fun q => c3 (nI_le q (by omega)))
            obtain ⟨sR, hsR⟩ : ∃ y9, y9 = dTick nl (sd.1, sd.2.1, sd.2.2) := ⟨_, rfl⟩
            have hsR2 : sR = dTicks nl (t, pr, ne) (i + 1) := by rw [hsR, show dTicks nl (t, pr, ne) (i + 1) = dTick nl (dTicks nl (t, pr, ne) i) from rfl, ← hres]
            have hR1 : sd.2.2 ≤ sR.2.2 := by rw [hsR]; exact (dTick_ok (nl := nl) (s := (sd.1, sd.2.1, sd.2.2))).1
            have hokR : dOkS (t, pr, ne) sR := hok.tr (by rw [hsR]; exact dTick_ok)
            have hmo2 : sR.2.2 ≤ s2.2.2 := by rw [hs2, hsR2]; exact dTicks_le j (i + 1) hij
            refine lv_aload_n hx hb dX4_pass_36 rfl (lv_at hl 2 rfl) ?_
            refine ct_V E hS (c_X4_passOneTick l g F A nb nl nr sd.2.2 sd.2.1 sd.1 sR hsR (by omega)) ok_X4_passOneTick lk_X4_192 hP (hP.recv E.2.2.2.2.2) rfl hl ⟨rfl, rfl⟩ rfl ⟨by show _ ≤ 2 * (s2.2.2 - ne) + 1; omega, by show _ ≤ 153 * (s2.2.2 - ne) + 6; omega⟩ dX4_pass_37 rfl (fun v9 H locs hv9 hS hz9 => ?_)
            obtain ⟨rfl, hP⟩ := hv9
            refine lv_iinc (v := (nI (i + 1))) (lv' := [(3, .int (nI (i + 1))), (2, .int (nI pr.length)), (0, .ref (A 0 0)), (1, .int (nI j))]) hx hb dX4_pass_40 hl (k := 0) rfl (by rw [nI_succ]; rfl) (by decide) rfl (fun ls hl => ?_)
            refine lv_goto (tgt := 31) hx hb dX4_pass_43 (by decide) ?_
            exact W.widen (by omega) (by omega) (ih (i + 1) sR (by omega) (by omega) hsR2 hokR H locs hS hP ls hl)
      exact W.widen (Nat.zero_le _) (Nat.zero_le _) (LP (j + 1) 0 (t, pr, ne) (Nat.zero_le _) (by omega) rfl dOkS.rf _ _ hS hP ls hl)
    · exact cx_throw E hl9 hS ht hk dx_IAE (text := "the number of ticks is out of range") (by simp [lw_str]) hl dX4_pass_11 dX4_pass_14 dX4_pass_15 dX4_pass_17 dX4_pass_20 ⟨rfl, rfl⟩ rfl ⟨by show _ ≤ 2 * (s2.2.2 - ne) + 1; omega, by show _ ≤ 153 * (s2.2.2 - ne) + 6; omega⟩ (by omega) (by omega) (fun H1 hz1 oq1 => ⟨by rw [if_neg c1, if_neg c2]; exact ⟨by decide, rfl⟩, hP.keep oq1 hz1⟩)
