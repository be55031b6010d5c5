theorem lt10_bet {f : Int32} (h : ¬ f ≤ 0) (h2 : f < 10) : bet f 1 9 := by
  have a : ¬ f.toInt ≤ (0 : Int32).toInt := fun z => h (Int32.le_iff_toInt_le.mpr z)
  have b := Int32.lt_iff_toInt_lt.mp h2
  have e0 : (0 : Int32).toInt = 0 := rfl
  have e1 : (10 : Int32).toInt = 10 := rfl
  have e2 : (1 : Int32).toInt = 1 := rfl
  have e3 : (9 : Int32).toInt = 9 := rfl
  exact ⟨Int32.le_iff_toInt_le.mpr (by omega), Int32.le_iff_toInt_le.mpr (by omega)⟩

set_option maxHeartbeats 4000000 in
set_option maxRecDepth 100000 in
theorem c_X4_time (l : Launch) (g : cG) (F : Nat → Prop) (A : Nat → Nat → Nat) (nb nl nr ne : Nat) (pr : List Nat) (t : TT)   : CT l yX4_time cX4_time 1 (some .int) 0 0 0 0 g F [.ref (A 0 0)] (PD g F A nb nl nr ne pr t) (fun v9 H9 => v9 = some (.int (t 23 0)) ∧ PD g F A nb nl nr ne pr t H9) := by
  refine CT.of (by decide) rfl ?_
  intro p e s m args below meth c E hr hk hnm hP ls hl
  have hS : va_S (nF F) s.heap s.heap [] := va_S.rf
  have hx := E.1
  have hb := E.2.1
  have hE_ml := E.2.2.1
  have hown := E.2.2.2.1
  have hts := E.2.2.2.2.1
  have hG := E.2.2.2.2.2
  have hd0 := hP.di.1
  have hl : lv_has ls 1 [(0, .ref (A 0 0))] := hl
  refine lv_aload_n hx hb dX4_time_0 rfl (lv_at hl 0 rfl) ?_
  refine dg E hP 8 fk_X4_38 dX4_time_1 (v := .int (t 23 0)) (kk := ?_)
  exact ct_iret E hr hk hS ⟨rfl, hP⟩ dX4_time_4

set_option maxHeartbeats 4000000 in
set_option maxRecDepth 100000 in
theorem c_X4_opened (l : Launch) (g : cG) (F : Nat → Prop) (A : Nat → Nat → Nat) (nb nl nr ne : Nat) (pr : List Nat) (t : TT)   : CT l yX4_opened cX4_opened 1 (some .int) 0 0 0 0 g F [.ref (A 0 0)] (PD g F A nb nl nr ne pr t) (fun v9 H9 => v9 = some (.int (t 24 0)) ∧ PD g F A nb nl nr ne pr t H9) := by
  refine CT.of (by decide) rfl ?_
  intro p e s m args below meth c E hr hk hnm hP ls hl
  have hS : va_S (nF F) s.heap s.heap [] := va_S.rf
  have hx := E.1
  have hb := E.2.1
  have hE_ml := E.2.2.1
  have hown := E.2.2.2.1
  have hts := E.2.2.2.2.1
  have hG := E.2.2.2.2.2
  have hd0 := hP.di.1
  have hl : lv_has ls 1 [(0, .ref (A 0 0))] := hl
  refine lv_aload_n hx hb dX4_opened_0 rfl (lv_at hl 0 rfl) ?_
  refine dg E hP 10 fk_X4_45 dX4_opened_1 (v := .int (t 24 0)) (kk := ?_)
  exact ct_iret E hr hk hS ⟨rfl, hP⟩ dX4_opened_4

set_option maxHeartbeats 4000000 in
set_option maxRecDepth 100000 in
theorem c_X4_refused (l : Launch) (g : cG) (F : Nat → Prop) (A : Nat → Nat → Nat) (nb nl nr ne : Nat) (pr : List Nat) (t : TT)   : CT l yX4_refused cX4_refused 1 (some .int) 0 0 0 0 g F [.ref (A 0 0)] (PD g F A nb nl nr ne pr t) (fun v9 H9 => v9 = some (.int (t 25 0)) ∧ PD g F A nb nl nr ne pr t H9) := by
  refine CT.of (by decide) rfl ?_
  intro p e s m args below meth c E hr hk hnm hP ls hl
  have hS : va_S (nF F) s.heap s.heap [] := va_S.rf
  have hx := E.1
  have hb := E.2.1
  have hE_ml := E.2.2.1
  have hown := E.2.2.2.1
  have hts := E.2.2.2.2.1
  have hG := E.2.2.2.2.2
  have hd0 := hP.di.1
  have hl : lv_has ls 1 [(0, .ref (A 0 0))] := hl
  refine lv_aload_n hx hb dX4_refused_0 rfl (lv_at hl 0 rfl) ?_
  refine dg E hP 11 fk_X4_48 dX4_refused_1 (v := .int (t 25 0)) (kk := ?_)
  exact ct_iret E hr hk hS ⟨rfl, hP⟩ dX4_refused_4

set_option maxHeartbeats 4000000 in
set_option maxRecDepth 100000 in
theorem c_X4_entries (l : Launch) (g : cG) (F : Nat → Prop) (A : Nat → Nat → Nat) (nb nl nr ne : Nat) (pr : List Nat) (t : TT)   : CT l yX4_entries cX4_entries 1 (some .int) 1 20 0 0 g F [.ref (A 0 0)] (PD g F A nb nl nr ne pr t) (fun v9 H9 => v9 = some (.int (nI ne)) ∧ PD g F A nb nl nr ne pr t H9) := by
  refine CT.of (by decide) rfl ?_
  intro p e s m args below meth c E hr hk hnm hP ls hl
  have hS : va_S (nF F) s.heap s.heap [] := va_S.rf
  have hx := E.1
  have hb := E.2.1
  have hE_ml := E.2.2.1
  have hown := E.2.2.2.1
  have hts := E.2.2.2.2.1
  have hG := E.2.2.2.2.2
  have hd0 := hP.di.1
  have hl : lv_has ls 1 [(0, .ref (A 0 0))] := hl
  refine lv_aload_n hx hb dX4_entries_0 rfl (lv_at hl 0 rfl) ?_
  refine dg E hP 7 fk_X4_35 dX4_entries_1 (v := .ref (A 2 4)) (kk := ?_)
  refine d_len E hS hP 4 ne hl ⟨rfl, rfl⟩ ⟨Nat.le_refl _, Nat.le_refl _⟩ dX4_entries_4 (kk := fun locs hS => ?_)
  exact ct_iret E hr hk hS ⟨rfl, hP⟩ dX4_entries_7

set_option maxHeartbeats 4000000 in
set_option maxRecDepth 100000 in
theorem c_X4_isAlarm (l : Launch) (g : cG) (F : Nat → Prop) (A : Nat → Nat → Nat) (nb nl nr ne : Nat) (pr : List Nat) (t : TT)   : CT l yX4_isAlarm cX4_isAlarm 1 (some .boolean) 0 0 0 0 g F [.ref (A 0 0)] (PD g F A nb nl nr ne pr t) (fun v9 H9 => v9 = some (.int (b2i (¬ t 60 0 = -1))) ∧ PD g F A nb nl nr ne pr t H9) := by
  refine CT.of (by decide) rfl ?_
  intro p e s m args below meth c E hr hk hnm hP ls hl
  have hS : va_S (nF F) s.heap s.heap [] := va_S.rf
  have hx := E.1
  have hb := E.2.1
  have hE_ml := E.2.2.1
  have hown := E.2.2.2.1
  have hts := E.2.2.2.2.1
  have hG := E.2.2.2.2.2
  have hd0 := hP.di.1
  have hl : lv_has ls 1 [(0, .ref (A 0 0))] := hl
  refine lv_aload_n hx hb dX4_isAlarm_0 rfl (lv_at hl 0 rfl) ?_
  refine dg E hP 9 fk_X4_42 dX4_isAlarm_1 (v := .int (t 60 0)) (kk := ?_)
  refine lv_iconst (v := (-1)) hx hb dX4_isAlarm_4 (by decide) ?_
  refine lv_icmp_eq (tgt := 12) hx hb dX4_isAlarm_5 (by decide) (fun c_1 => ?_) (fun c_1 => ?_)
  · refine lv_iconst (v := 0) hx hb dX4_isAlarm_12 (by decide) ?_
    have e1 : (b2i (¬ t 60 0 = -1)) = 0 := by simp only [b2i, eq_true c_1, if_true, if_false, reduceIte, true_and, and_true, false_and, and_false, true_or, or_true, false_or, or_false, not_true_eq_false, not_false_eq_true, decide_true, decide_false, Bool.true_and, Bool.and_true, Bool.false_and, Bool.and_false, Bool.not_true, Bool.not_false, Bool.or_false, Bool.false_or, Bool.or_true, Bool.true_or]
    exact ct_zret E hr (by decide) hk hS ⟨(by rw [e1]), hP⟩ dX4_isAlarm_13
  · refine lv_iconst (v := 1) hx hb dX4_isAlarm_8 (by decide) ?_
    refine lv_goto (tgt := 13) hx hb dX4_isAlarm_9 (by decide) ?_
    have e1 : (b2i (¬ t 60 0 = -1)) = 1 := by simp only [b2i, eq_false c_1, if_true, if_false, reduceIte, true_and, and_true, false_and, and_false, true_or, or_true, false_or, or_false, not_true_eq_false, not_false_eq_true, decide_true, decide_false, Bool.true_and, Bool.and_true, Bool.false_and, Bool.and_false, Bool.not_true, Bool.not_false, Bool.or_false, Bool.false_or, Bool.or_true, Bool.true_or]
    exact ct_zret E hr (by decide) hk hS ⟨(by rw [e1]), hP⟩ dX4_isAlarm_13

set_option maxHeartbeats 4000000 in
set_option maxRecDepth 100000 in
theorem c_X4_whyNot (l : Launch) (g : cG) (F : Nat → Prop) (A : Nat → Nat → Nat) (nb nl nr ne : Nat) (pr : List Nat) (t : TT) (b : Nat) (f : Int32) (hb9 : b < nb) : CT l yX4_whyNot cX4_whyNot 4 (some .char) 0 0 0 0 g F [.ref (A 0 0), .ref (A 4 b), .int f] (PD g F A nb nl nr ne pr t) (fun v9 H9 => v9 = some (.int (dWhy t b f)) ∧ PD g F A nb nl nr ne pr t H9) := by
  refine CT.of (by decide) rfl ?_
  intro p e s m args below meth c E hr hk hnm hP ls hl
  have hS : va_S (nF F) s.heap s.heap [] := va_S.rf
  have hx := E.1
  have hb := E.2.1
  have hE_ml := E.2.2.1
  have hown := E.2.2.2.1
  have hts := E.2.2.2.2.1
  have hG := E.2.2.2.2.2
  have hd0 := hP.di.1
  have hl : lv_has ls 4 [(0, .ref (A 0 0)), (1, .ref (A 4 b)), (2, .int f)] := hl
  refine lv_iload_n hx hb dX4_whyNot_0 rfl (lv_at hl 2 rfl) ?_
  refine lv_if_le (tgt := 10) hx hb dX4_whyNot_1 (by decide) (fun c_1 => ?_) (fun c_1 => ?_)
  · refine lv_bipush (v := 110) hx hb dX4_whyNot_10 (by decide) ?_
    have e1 : (dWhy t b f) = 110 := by simp only [dWhy, mTod, eq_true c_1, eq_false (Int32.not_lt.mpr c_1), if_true, if_false, reduceIte, true_and, and_true, false_and, and_false, true_or, or_true, false_or, or_false, not_true_eq_false, not_false_eq_true, decide_true, decide_false, Bool.true_and, Bool.and_true, Bool.false_and, Bool.and_false, Bool.not_true, Bool.not_false, Bool.or_false, Bool.false_or, Bool.or_true, Bool.true_or]
    exact ct_zret E hr (by decide) hk hS ⟨(by rw [e1]), hP⟩ dX4_whyNot_12
  · refine lv_iload_n hx hb dX4_whyNot_4 rfl (lv_at hl 2 rfl) ?_
    refine lv_bipush (v := 10) hx hb dX4_whyNot_5 (by decide) ?_
    refine lv_icmp_lt (tgt := 13) hx hb dX4_whyNot_7 (by decide) (fun c_2 => ?_) (fun c_2 => ?_)
    · obtain ⟨f9, rfl, hf9_lo, hf9_hi⟩ := bet_nI 1 9 1 9 (lt10_bet c_1 c_2) (by decide) (by decide)
      have f9_cl : (nI f9).toNatClampNeg = f9 := nI_clamp (by omega)
      refine lv_aload_n hx hb dX4_whyNot_13 rfl (lv_at hl 1 rfl) ?_
      refine dgn E hP 4 b hb9 kcX0 1 fn_X4_99 dX4_whyNot_14 (v := .int (t 5 b)) (kk := ?_)
      refine lv_if_eq (tgt := 23) hx hb dX4_whyNot_17 (by decide) (fun c_3 => ?_) (fun c_3 => ?_)
      · refine lv_aload_n hx hb dX4_whyNot_23 rfl (lv_at hl 0 rfl) ?_
        refine dg E hP 0 fk_X4_9 dX4_whyNot_24 (v := .ref (A 1 0)) (kk := ?_)
        refine lv_iload_n hx hb dX4_whyNot_27 rfl (lv_at hl 2 rfl) ?_
        refine dai E hP 0 f9 (v := t 1 f9) dX4_whyNot_28 rfl (show f9 < 10 by omega) rfl (kk := ?_)
        refine lv_iconst (v := (-1)) hx hb dX4_whyNot_29 (by decide) ?_
        refine lv_icmp_eq (tgt := 54) hx hb dX4_whyNot_30 (by decide) (fun c_4 => ?_) (fun c_4 => ?_)
        · refine lv_aload_n hx hb dX4_whyNot_54 rfl (lv_at hl 0 rfl) ?_
          refine dg E hP 8 fk_X4_38 dX4_whyNot_55 (v := .int (t 23 0)) (kk := ?_)
          refine lv_bipush (v := 100) hx hb dX4_whyNot_58 (by decide) ?_
          refine lv_irem hx hb dX4_whyNot_60 (by decide) ?_
          refine lv_istore_n (lv' := [(3, .int ((t 23 0) - (t 23 0) / 100 * 100)), (0, .ref (A 0 0)), (1, .ref (A 4 b)), (2, .int (nI f9))]) hx hb dX4_whyNot_61 rfl hl (by decide) rfl (fun ls hl => ?_)
          refine lv_aload_n hx hb dX4_whyNot_62 rfl (lv_at hl 1 rfl) ?_
          refine dg E hP 1 fk_X4_13 dX4_whyNot_63 (v := .ref (A 1 1)) (kk := ?_)
          refine lv_iload_n hx hb dX4_whyNot_66 rfl (lv_at hl 3 rfl) ?_
          refine dai E hP 1 f9 (v := t 2 f9) dX4_whyNot_67 rfl (show f9 < 10 by omega) rfl (kk := ?_)
          refine lv_iload_n hx hb dX4_whyNot_68 rfl (lv_at hl 0 rfl) ?_
          refine lv_icmp_gt (tgt := 87) hx hb dX4_whyNot_69 (by decide) (fun c_5 => ?_) (fun c_5 => ?_)
          · refine lv_bipush (v := 104) hx hb dX4_whyNot_87 (by decide) ?_
            have e1 : (dWhy t b (nI f9)) = 104 := by simp only [dWhy, mTod, eq_false c_1, eq_true (Int32.not_le.mp c_1), eq_true c_2, eq_false (Int32.not_le.mpr c_2), eq_true c_3, eq_true c_4, eq_true c_5, eq_false (Int32.not_le.mpr c_5), f9_cl, if_true, if_false, reduceIte, true_and, and_true, false_and, and_false, true_or, or_true, false_or, or_false, not_true_eq_false, not_false_eq_true, decide_true, decide_false, Bool.true_and, Bool.and_true, Bool.false_and, Bool.and_false, Bool.not_true, Bool.not_false, Bool.or_false, Bool.false_or, Bool.or_true, Bool.true_or]
            exact ct_zret E hr (by decide) hk hS ⟨(by rw [e1]), hP⟩ dX4_whyNot_89
          · refine lv_iload_n hx hb dX4_whyNot_72 rfl (lv_at hl 0 rfl) ?_
            refine lv_aload_n hx hb dX4_whyNot_73 rfl (lv_at hl 1 rfl) ?_
            refine dg E hP 2 fk_X4_16 dX4_whyNot_74 (v := .ref (A 1 2)) (kk := ?_)
            refine lv_iload_n hx hb dX4_whyNot_77 rfl (lv_at hl 3 rfl) ?_
            refine dai E hP 2 f9 (v := t 3 f9) dX4_whyNot_78 rfl (show f9 < 10 by omega) rfl (kk := ?_)
            refine lv_icmp_ge (tgt := 87) hx hb dX4_whyNot_79 (by decide) (fun c_6 => ?_) (fun c_6 => ?_)
            · refine lv_bipush (v := 104) hx hb dX4_whyNot_87 (by decide) ?_
              have e1 : (dWhy t b (nI f9)) = 104 := by simp only [dWhy, mTod, eq_false c_1, eq_true (Int32.not_le.mp c_1), eq_true c_2, eq_false (Int32.not_le.mpr c_2), eq_true c_3, eq_true c_4, eq_false c_5, eq_true (Int32.not_lt.mp c_5), eq_true c_6, eq_false (Int32.not_lt.mpr c_6), f9_cl, if_true, if_false, reduceIte, true_and, and_true, false_and, and_false, true_or, or_true, false_or, or_false, not_true_eq_false, not_false_eq_true, decide_true, decide_false, Bool.true_and, Bool.and_true, Bool.false_and, Bool.and_false, Bool.not_true, Bool.not_false, Bool.or_false, Bool.false_or, Bool.or_true, Bool.true_or]
              exact ct_zret E hr (by decide) hk hS ⟨(by rw [e1]), hP⟩ dX4_whyNot_89
            · refine lv_bipush (v := 110) hx hb dX4_whyNot_82 (by decide) ?_
              refine lv_goto (tgt := 89) hx hb dX4_whyNot_84 (by decide) ?_
              have e1 : (dWhy t b (nI f9)) = 110 := by simp only [dWhy, mTod, eq_false c_1, eq_true (Int32.not_le.mp c_1), eq_true c_2, eq_false (Int32.not_le.mpr c_2), eq_true c_3, eq_true c_4, eq_false c_5, eq_true (Int32.not_lt.mp c_5), eq_false c_6, eq_true (Int32.not_le.mp c_6), f9_cl, if_true, if_false, reduceIte, true_and, and_true, false_and, and_false, true_or, or_true, false_or, or_false, not_true_eq_false, not_false_eq_true, decide_true, decide_false, Bool.true_and, Bool.and_true, Bool.false_and, Bool.and_false, Bool.not_true, Bool.not_false, Bool.or_false, Bool.false_or, Bool.or_true, Bool.true_or]
              exact ct_zret E hr (by decide) hk hS ⟨(by rw [e1]), hP⟩ dX4_whyNot_89
        · refine lv_aload_n hx hb dX4_whyNot_33 rfl (lv_at hl 0 rfl) ?_
          refine dg E hP 0 fk_X4_9 dX4_whyNot_34 (v := .ref (A 1 0)) (kk := ?_)
          refine lv_iload_n hx hb dX4_whyNot_37 rfl (lv_at hl 2 rfl) ?_
          refine dai E hP 0 f9 (v := t 1 f9) dX4_whyNot_38 rfl (show f9 < 10 by omega) rfl (kk := ?_)
          refine lv_aload_n hx hb dX4_whyNot_39 rfl (lv_at hl 1 rfl) ?_
          refine dgn E hP 4 b hb9 kcX0 0 fn_X4_224 dX4_whyNot_40 (v := .int (t 4 b)) (kk := ?_)
          refine lv_icmp_ne (tgt := 51) hx hb dX4_whyNot_43 (by decide) (fun c_7 => ?_) (fun c_7 => ?_)
          · refine lv_bipush (v := 116) hx hb dX4_whyNot_51 (by decide) ?_
            have e1 : (dWhy t b (nI f9)) = 116 := by simp only [dWhy, mTod, eq_false c_1, eq_true (Int32.not_le.mp c_1), eq_true c_2, eq_false (Int32.not_le.mpr c_2), eq_true c_3, eq_false c_4, eq_false c_7, f9_cl, if_true, if_false, reduceIte, true_and, and_true, false_and, and_false, true_or, or_true, false_or, or_false, not_true_eq_false, not_false_eq_true, decide_true, decide_false, Bool.true_and, Bool.and_true, Bool.false_and, Bool.and_false, Bool.not_true, Bool.not_false, Bool.or_false, Bool.false_or, Bool.or_true, Bool.true_or]
            exact ct_zret E hr (by decide) hk hS ⟨(by rw [e1]), hP⟩ dX4_whyNot_53
          · refine lv_bipush (v := 110) hx hb dX4_whyNot_46 (by decide) ?_
            refine lv_goto (tgt := 53) hx hb dX4_whyNot_48 (by decide) ?_
            have e1 : (dWhy t b (nI f9)) = 110 := by simp only [dWhy, mTod, eq_false c_1, eq_true (Int32.not_le.mp c_1), eq_true c_2, eq_false (Int32.not_le.mpr c_2), eq_true c_3, eq_false c_4, eq_true c_7, f9_cl, if_true, if_false, reduceIte, true_and, and_true, false_and, and_false, true_or, or_true, false_or, or_false, not_true_eq_false, not_false_eq_true, decide_true, decide_false, Bool.true_and, Bool.and_true, Bool.false_and, Bool.and_false, Bool.not_true, Bool.not_false, Bool.or_false, Bool.false_or, Bool.or_true, Bool.true_or]
            exact ct_zret E hr (by decide) hk hS ⟨(by rw [e1]), hP⟩ dX4_whyNot_53
      · refine lv_bipush (v := 114) hx hb dX4_whyNot_20 (by decide) ?_
        have e1 : (dWhy t b (nI f9)) = 114 := by simp only [dWhy, mTod, eq_false c_1, eq_true (Int32.not_le.mp c_1), eq_true c_2, eq_false (Int32.not_le.mpr c_2), eq_false c_3, f9_cl, if_true, if_false, reduceIte, true_and, and_true, false_and, and_false, true_or, or_true, false_or, or_false, not_true_eq_false, not_false_eq_true, decide_true, decide_false, Bool.true_and, Bool.and_true, Bool.false_and, Bool.and_false, Bool.not_true, Bool.not_false, Bool.or_false, Bool.false_or, Bool.or_true, Bool.true_or]
        exact ct_zret E hr (by decide) hk hS ⟨(by rw [e1]), hP⟩ dX4_whyNot_22
    · refine lv_bipush (v := 110) hx hb dX4_whyNot_10 (by decide) ?_
      have e1 : (dWhy t b f) = 110 := by simp only [dWhy, mTod, eq_false c_1, eq_true (Int32.not_le.mp c_1), eq_false c_2, eq_true (Int32.not_lt.mp c_2), if_true, if_false, reduceIte, true_and, and_true, false_and, and_false, true_or, or_true, false_or, or_false, not_true_eq_false, not_false_eq_true, decide_true, decide_false, Bool.true_and, Bool.and_true, Bool.false_and, Bool.and_false, Bool.not_true, Bool.not_false, Bool.or_false, Bool.false_or, Bool.or_true, Bool.true_or]
      exact ct_zret E hr (by decide) hk hS ⟨(by rw [e1]), hP⟩ dX4_whyNot_12

set_option maxHeartbeats 4000000 in
set_option maxRecDepth 100000 in
theorem c_X4_hasRider (l : Launch) (g : cG) (F : Nat → Prop) (A : Nat → Nat → Nat) (nb nl nr ne : Nat) (pr : List Nat) (t : TT) (b : Nat) (hb9 : b < nb) : CT l yX4_hasRider cX4_hasRider 3 (some .boolean) 3 64 0 0 g F [.ref (A 0 0), .ref (A 4 b)] (PD g F A nb nl nr ne pr t) (fun v9 H9 => v9 = some (.int (b2i (dHas t pr b pr.length = true))) ∧ PD g F A nb nl nr ne pr t H9) := by
  refine CT.of (by decide) rfl ?_
  intro p e s m args below meth c E hr hk hnm hP ls hl
  have hS : va_S (nF F) s.heap s.heap [] := va_S.rf
  have hx := E.1
  have hb := E.2.1
  have hE_ml := E.2.2.1
  have hown := E.2.2.2.1
  have hts := E.2.2.2.2.1
  have hG := E.2.2.2.2.2
  have hd0 := hP.di.1
  have hl : lv_has ls 3 [(0, .ref (A 0 0)), (1, .ref (A 4 b))] := hl
  refine lv_iconst (v := 0) hx hb dX4_hasRider_0 (by decide) ?_
  refine lv_istore_n (lv' := [(2, .int 0), (0, .ref (A 0 0)), (1, .ref (A 4 b))]) hx hb dX4_hasRider_1 rfl hl (by decide) rfl (fun ls hl => ?_)
  have LP : ∀ (n9 i : Nat) , i ≤ pr.length → pr.length < i + n9 → (exB (fun i => decide (t 7 (pg pr i) = nI b)) i = false) → ∀ (H : Heap) (locs : List Loc), va_S (nF F) s.heap H locs → PD g F A nb nl nr ne pr t H → ∀ (ls : Array Slot), lv_has ls 3 [(0, .ref (A 0 0)), (1, .ref (A 4 b)), (2, .int (nI i))] → W p l e { frames := 3, cells := 0, slots := 0, locals := 64 } s m args below meth c H locs 0 0 (MQ below (Qg F (fun v9 H9 => v9 = some (.int (b2i (dHas t pr b pr.length = true))) ∧ PD g F A nb nl nr ne pr t H9)) args s 0 0 (nF F)) (F0 m 2 ls []) := by
    intro n9
    induction n9 with
    | zero => intro i  hi9 hn9; exact absurd hn9 (by omega)
    | succ n9 ihLP =>
      intro i  hi_LP hn_LP hno H locs hS hP ls hl
      have hd1 := hP.di.1
      refine lv_iload_n hx hb dX4_hasRider_2 rfl (lv_at hl 2 rfl) ?_
      refine lv_aload_n hx hb dX4_hasRider_3 rfl (lv_at hl 0 rfl) ?_
      refine dg E hP 6 fk_X4_32 dX4_hasRider_4 (v := .ref (A 2 3)) (kk := ?_)
      refine d_len E hS hP 3 pr.length hl ⟨rfl, rfl⟩ ⟨Nat.le_refl _, Nat.le_refl _⟩ dX4_hasRider_7 (kk := fun locs hS => ?_)
      refine lv_icmp_ge (tgt := 39) hx hb dX4_hasRider_10 (by decide) (fun c_1 => ?_) (fun c_1 => ?_)
      · have n_c_1 : pr.length ≤ i := (nI_leI (by omega) (by omega)).mp c_1
        refine lv_iconst (v := 0) hx hb dX4_hasRider_39 (by decide) ?_
        have e1 : (b2i (dHas t pr b pr.length = true)) = 0 := by exact b2i_f (by rw [dHas, show pr.length = i by omega, hno]; decide)
        exact ct_zret E hr (by decide) hk hS ⟨(by rw [e1]), hP⟩ dX4_hasRider_40
      · have n_c_1 : i < pr.length := Nat.lt_of_not_le (fun h9 => c_1 (nI_le h9 (by omega)))
        refine lv_aload_n hx hb dX4_hasRider_13 rfl (lv_at hl 0 rfl) ?_
        refine dg E hP 6 fk_X4_32 dX4_hasRider_14 (v := .ref (A 2 3)) (kk := ?_)
        refine lv_iload_n hx hb dX4_hasRider_17 rfl (lv_at hl 2 rfl) ?_
        refine d_getP E hS hP i rfl (by omega) hl ⟨rfl, rfl⟩ ⟨Nat.le_refl _, Nat.le_refl _⟩ dX4_hasRider_18 dX4_hasRider_21 (kk := fun r_2 hr_2 ir_2 pr_2 locs hS => ?_)
        obtain ⟨b_3, hb_3, eb_3⟩ := hP.di.2.2.2.1 r_2 hr_2
        have lb_3 := hP.di.1.1
        refine dgn E hP 6 r_2 hr_2 kcX3 1 fn_X4_227 dX4_hasRider_24 (v := .ref (A 4 b_3)) (hv := by show some (Value.ref (A 4 (t 7 r_2).toNatClampNeg)) = _; rw [eb_3, nI_clamp (by omega)]) (kk := ?_)
        refine lv_aload_n hx hb dX4_hasRider_27 rfl (lv_at hl 1 rfl) ?_
        refine lv_acmp_ne (tgt := 33) (rx := (some (A 4 b_3))) (ry := (some (A 4 b))) hx hb dX4_hasRider_28 (by decide) (fun c_4 => ?_) (fun c_4 => ?_)
        · rw [← nI_clamp (show b_3 < 2 ^ 31 by omega), ← eb_3, badge_iff hP hr_2 hb9] at c_4
          refine lv_iinc (v := (nI (i + 1))) (lv' := [(2, .int (nI (i + 1))), (0, .ref (A 0 0)), (1, .ref (A 4 b))]) hx hb dX4_hasRider_33 hl (k := 2) rfl (by rw [nI_succ]; rfl) (by decide) rfl (fun ls hl => ?_)
          refine lv_goto (tgt := 2) hx hb dX4_hasRider_36 (by decide) ?_
          exact ihLP (i + 1) (by omega) (by omega) (by simp only [exB, hno, pr_2, eq_false c_1, eq_false c_4, if_true, if_false, reduceIte, true_and, and_true, false_and, and_false, true_or, or_true, false_or, or_false, not_true_eq_false, not_false_eq_true, decide_true, decide_false, Bool.true_and, Bool.and_true, Bool.false_and, Bool.and_false, Bool.not_true, Bool.not_false, Bool.or_false, Bool.false_or, Bool.or_true, Bool.true_or]) H locs hS hP ls (lv_sub hl [1, 2, 0] rfl)
        · rw [← nI_clamp (show b_3 < 2 ^ 31 by omega), ← eb_3, badge_iff hP hr_2 hb9] at c_4
          refine lv_iconst (v := 1) hx hb dX4_hasRider_31 (by decide) ?_
          have e1 : (b2i (dHas t pr b pr.length = true)) = 1 := by exact b2i_t (exB_of (i := i) (by omega) (by simp only [pr_2, eq_false c_1, eq_true c_4, if_true, if_false, reduceIte, true_and, and_true, false_and, and_false, true_or, or_true, false_or, or_false, not_true_eq_false, not_false_eq_true, decide_true, decide_false, Bool.true_and, Bool.and_true, Bool.false_and, Bool.and_false, Bool.not_true, Bool.not_false, Bool.or_false, Bool.false_or, Bool.or_true, Bool.true_or]))
          exact ct_zret E hr (by decide) hk hS ⟨(by rw [e1]), hP⟩ dX4_hasRider_32
  exact LP (pr.length + 1) 0 (Nat.zero_le _) (by omega) rfl _ _ hS hP ls (lv_sub hl [1, 2, 0] rfl)

set_option maxHeartbeats 4000000 in
set_option maxRecDepth 100000 in
theorem c_X4_countAboard (l : Launch) (g : cG) (F : Nat → Prop) (A : Nat → Nat → Nat) (nb nl nr ne : Nat) (pr : List Nat) (t : TT) (q : Nat) (hq : q < nl) : CT l yX4_countAboard cX4_countAboard 4 (some .int) 3 64 0 0 g F [.ref (A 0 0), .ref (A 5 q)] (PD g F A nb nl nr ne pr t) (fun v9 H9 => v9 = some (.int (dAb t pr q pr.length)) ∧ PD g F A nb nl nr ne pr t H9) := by
  refine CT.of (by decide) rfl ?_
  intro p e s m args below meth c E hr hk hnm hP ls hl
  have hS : va_S (nF F) s.heap s.heap [] := va_S.rf
  have hx := E.1
  have hb := E.2.1
  have hE_ml := E.2.2.1
  have hown := E.2.2.2.1
  have hts := E.2.2.2.2.1
  have hG := E.2.2.2.2.2
  have hd0 := hP.di.1
  have hl : lv_has ls 4 [(0, .ref (A 0 0)), (1, .ref (A 5 q))] := hl
  refine lv_iconst (v := 0) hx hb dX4_countAboard_0 (by decide) ?_
  refine lv_istore_n (lv' := [(2, .int 0), (0, .ref (A 0 0)), (1, .ref (A 5 q))]) hx hb dX4_countAboard_1 rfl hl (by decide) rfl (fun ls hl => ?_)
  refine lv_iconst (v := 0) hx hb dX4_countAboard_2 (by decide) ?_
  refine lv_istore_n (lv' := [(3, .int 0), (2, .int 0), (0, .ref (A 0 0)), (1, .ref (A 5 q))]) hx hb dX4_countAboard_3 rfl hl (by decide) rfl (fun ls hl => ?_)
  have LP : ∀ (n9 i : Nat) (a9 : Int32), i ≤ pr.length → pr.length < i + n9 → (a9 = dAb t pr q i) → ∀ (H : Heap) (locs : List Loc), va_S (nF F) s.heap H locs → PD g F A nb nl nr ne pr t H → ∀ (ls : Array Slot), lv_has ls 4 [(0, .ref (A 0 0)), (1, .ref (A 5 q)), (2, .int a9), (3, .int (nI i))] → W p l e { frames := 3, cells := 0, slots := 0, locals := 64 } s m args below meth c H locs 0 0 (MQ below (Qg F (fun v9 H9 => v9 = some (.int (dAb t pr q pr.length)) ∧ PD g F A nb nl nr ne pr t H9)) args s 0 0 (nF F)) (F0 m 4 ls []) := by
    intro n9
    induction n9 with
    | zero => intro i a9 hi9 hn9; exact absurd hn9 (by omega)
    | succ n9 ihLP =>
      intro i a9 hi_LP hn_LP ha H locs hS hP ls hl
      have hd1 := hP.di.1
      refine lv_iload_n hx hb dX4_countAboard_4 rfl (lv_at hl 3 rfl) ?_
      refine lv_aload_n hx hb dX4_countAboard_5 rfl (lv_at hl 0 rfl) ?_
      refine dg E hP 6 fk_X4_32 dX4_countAboard_6 (v := .ref (A 2 3)) (kk := ?_)
      refine d_len E hS hP 3 pr.length hl ⟨rfl, rfl⟩ ⟨Nat.le_refl _, Nat.le_refl _⟩ dX4_countAboard_9 (kk := fun locs hS => ?_)
      refine lv_icmp_ge (tgt := 42) hx hb dX4_countAboard_12 (by decide) (fun c_1 => ?_) (fun c_1 => ?_)
      · have n_c_1 : pr.length ≤ i := (nI_leI (by omega) (by omega)).mp c_1
        refine lv_iload_n hx hb dX4_countAboard_42 rfl (lv_at hl 2 rfl) ?_
        have e1 : (dAb t pr q pr.length) = a9 := by rw [ha, show i = pr.length by omega]
        exact ct_iret E hr hk hS ⟨(by rw [e1]), hP⟩ dX4_countAboard_43
      · have n_c_1 : i < pr.length := Nat.lt_of_not_le (fun h9 => c_1 (nI_le h9 (by omega)))
        refine lv_aload_n hx hb dX4_countAboard_15 rfl (lv_at hl 0 rfl) ?_
        refine dg E hP 6 fk_X4_32 dX4_countAboard_16 (v := .ref (A 2 3)) (kk := ?_)
        refine lv_iload_n hx hb dX4_countAboard_19 rfl (lv_at hl 3 rfl) ?_
        refine d_getP E hS hP i rfl (by omega) hl ⟨rfl, rfl⟩ ⟨Nat.le_refl _, Nat.le_refl _⟩ dX4_countAboard_20 dX4_countAboard_23 (kk := fun r_2 hr_2 ir_2 pr_2 locs hS => ?_)
        refine lv_aload_n hx hb dX4_countAboard_26 rfl (lv_at hl 1 rfl) ?_
        refine d_isIn E hS hP hr_2 hq hl ⟨rfl, rfl⟩ ⟨Nat.le_refl _, Nat.le_refl _⟩ dX4_countAboard_27 (kk := fun locs hS => ?_)
        refine bz_eq (tgt := 36) hx hb dX4_countAboard_30 (by decide) (fun c_3 => ?_) (fun c_3 => ?_)
        · refine lv_iinc (v := (nI (i + 1))) (lv' := [(3, .int (nI (i + 1))), (0, .ref (A 0 0)), (1, .ref (A 5 q)), (2, .int a9)]) hx hb dX4_countAboard_36 hl (k := 3) rfl (by rw [nI_succ]; rfl) (by decide) rfl (fun ls hl => ?_)
          refine lv_goto (tgt := 4) hx hb dX4_countAboard_39 (by decide) ?_
          exact ihLP (i + 1) _ (by omega) (by omega) (by rw [show dAb t pr q (i + 1) = dAb t pr q i + _ from rfl, ← ha]; simp only [pr_2, eq_false c_1, eq_false c_3, if_true, if_false, reduceIte, true_and, and_true, false_and, and_false, true_or, or_true, false_or, or_false, not_true_eq_false, not_false_eq_true, decide_true, decide_false, Bool.true_and, Bool.and_true, Bool.false_and, Bool.and_false, Bool.not_true, Bool.not_false, Bool.or_false, Bool.false_or, Bool.or_true, Bool.true_or, Int32.add_zero]) H locs hS hP ls (lv_sub hl [1, 2, 3, 0] rfl)
        · refine lv_iinc (v := a9 + 1) (lv' := [(2, .int (a9 + 1)), (0, .ref (A 0 0)), (1, .ref (A 5 q)), (3, .int (nI i))]) hx hb dX4_countAboard_33 hl (k := 2) rfl (by rfl) (by decide) rfl (fun ls hl => ?_)
          refine lv_iinc (v := (nI (i + 1))) (lv' := [(3, .int (nI (i + 1))), (2, .int (a9 + 1)), (0, .ref (A 0 0)), (1, .ref (A 5 q))]) hx hb dX4_countAboard_36 hl (k := 3) rfl (by rw [nI_succ]; rfl) (by decide) rfl (fun ls hl => ?_)
          refine lv_goto (tgt := 4) hx hb dX4_countAboard_39 (by decide) ?_
          exact ihLP (i + 1) _ (by omega) (by omega) (by rw [show dAb t pr q (i + 1) = dAb t pr q i + _ from rfl, ← ha]; simp only [pr_2, eq_false c_1, eq_true c_3, if_true, if_false, reduceIte, true_and, and_true, false_and, and_false, true_or, or_true, false_or, or_false, not_true_eq_false, not_false_eq_true, decide_true, decide_false, Bool.true_and, Bool.and_true, Bool.false_and, Bool.and_false, Bool.not_true, Bool.not_false, Bool.or_false, Bool.false_or, Bool.or_true, Bool.true_or, Int32.add_zero]) H locs hS hP ls (lv_sub hl [2, 3, 1, 0] rfl)
  exact LP (pr.length + 1) 0 0 (Nat.zero_le _) (by omega) rfl _ _ hS hP ls (lv_sub hl [2, 3, 1, 0] rfl)

set_option maxHeartbeats 4000000 in
set_option maxRecDepth 100000 in
theorem c_X4_hasRoom (l : Launch) (g : cG) (F : Nat → Prop) (A : Nat → Nat → Nat) (nb nl nr ne : Nat) (pr : List Nat) (t : TT) (q : Nat) (hq : q < nl) : CT l yX4_hasRoom cX4_hasRoom 2 (some .boolean) 4 87 0 0 g F [.ref (A 0 0), .ref (A 5 q)] (PD g F A nb nl nr ne pr t) (fun v9 H9 => v9 = some (.int (b2i (dRoom t pr q))) ∧ PD g F A nb nl nr ne pr t H9) := by
  refine CT.of (by decide) rfl ?_
  intro p e s m args below meth c E hr hk hnm hP ls hl
  have hS : va_S (nF F) s.heap s.heap [] := va_S.rf
  have hx := E.1
  have hb := E.2.1
  have hE_ml := E.2.2.1
  have hown := E.2.2.2.1
  have hts := E.2.2.2.2.1
  have hG := E.2.2.2.2.2
  have hd0 := hP.di.1
  have hl : lv_has ls 2 [(0, .ref (A 0 0)), (1, .ref (A 5 q))] := hl
  refine lv_aload_n hx hb dX4_hasRoom_0 rfl (lv_at hl 1 rfl) ?_
  refine dgn E hP 5 q hq kcX2 4 fn_X4_171 dX4_hasRoom_1 (v := .int (t 20 q)) (kk := ?_)
  refine lv_bipush (v := 115) hx hb dX4_hasRoom_4 (by decide) ?_
  refine lv_icmp_ne (tgt := 25) hx hb dX4_hasRoom_6 (by decide) (fun c_1 => ?_) (fun c_1 => ?_)
  · refine lv_iconst (v := 0) hx hb dX4_hasRoom_25 (by decide) ?_
    have e1 : (b2i (dRoom t pr q)) = 0 := by simp only [dRoom, b2i, eq_false c_1, if_true, if_false, reduceIte, true_and, and_true, false_and, and_false, true_or, or_true, false_or, or_false, not_true_eq_false, not_false_eq_true, decide_true, decide_false, Bool.true_and, Bool.and_true, Bool.false_and, Bool.and_false, Bool.not_true, Bool.not_false, Bool.or_false, Bool.false_or, Bool.or_true, Bool.true_or]
    exact ct_zret E hr (by decide) hk hS ⟨(by rw [e1]), hP⟩ dX4_hasRoom_26
  · refine lv_aload_n hx hb dX4_hasRoom_9 rfl (lv_at hl 0 rfl) ?_
    refine lv_aload_n hx hb dX4_hasRoom_10 rfl (lv_at hl 1 rfl) ?_
    refine ct_V E hS (c_X4_countAboard l g F A nb nl nr ne pr t q hq) ok_X4_countAboard lk_X4_183 hP (hP.recv hG) rfl hl ⟨rfl, rfl⟩ rfl ⟨Nat.le_refl _, Nat.le_refl _⟩ dX4_hasRoom_11 rfl (fun v9 H locs hv9 hS hz9 => ?_)
    obtain ⟨rfl, hP⟩ := hv9
    refine lv_aload_n hx hb dX4_hasRoom_14 rfl (lv_at hl 1 rfl) ?_
    refine dgn E hP 5 q hq kcX2 1 fn_X4_235 dX4_hasRoom_15 (v := .int (t 17 q)) (kk := ?_)
    refine lv_icmp_ge (tgt := 25) hx hb dX4_hasRoom_18 (by decide) (fun c_2 => ?_) (fun c_2 => ?_)
    · refine lv_iconst (v := 0) hx hb dX4_hasRoom_25 (by decide) ?_
      have e1 : (b2i (dRoom t pr q)) = 0 := by simp only [dRoom, b2i, eq_true c_1, eq_true c_2, eq_false (Int32.not_lt.mpr c_2), if_true, if_false, reduceIte, true_and, and_true, false_and, and_false, true_or, or_true, false_or, or_false, not_true_eq_false, not_false_eq_true, decide_true, decide_false, Bool.true_and, Bool.and_true, Bool.false_and, Bool.and_false, Bool.not_true, Bool.not_false, Bool.or_false, Bool.false_or, Bool.or_true, Bool.true_or]
      exact ct_zret E hr (by decide) hk hS ⟨(by rw [e1]), hP⟩ dX4_hasRoom_26
    · refine lv_iconst (v := 1) hx hb dX4_hasRoom_21 (by decide) ?_
      refine lv_goto (tgt := 26) hx hb dX4_hasRoom_22 (by decide) ?_
      have e1 : (b2i (dRoom t pr q)) = 1 := by simp only [dRoom, b2i, eq_true c_1, eq_false c_2, eq_true (Int32.not_le.mp c_2), if_true, if_false, reduceIte, true_and, and_true, false_and, and_false, true_or, or_true, false_or, or_false, not_true_eq_false, not_false_eq_true, decide_true, decide_false, Bool.true_and, Bool.and_true, Bool.false_and, Bool.and_false, Bool.not_true, Bool.not_false, Bool.or_false, Bool.false_or, Bool.or_true, Bool.true_or]
      exact ct_zret E hr (by decide) hk hS ⟨(by rw [e1]), hP⟩ dX4_hasRoom_26

set_option maxHeartbeats 4000000 in
set_option maxRecDepth 100000 in
theorem c_X4_isWaitedOn (l : Launch) (g : cG) (F : Nat → Prop) (A : Nat → Nat → Nat) (nb nl nr ne : Nat) (pr : List Nat) (t : TT) (f : Int32)  : CT l yX4_isWaitedOn cX4_isWaitedOn 4 (some .boolean) 3 64 0 0 g F [.ref (A 0 0), .int f] (PD g F A nb nl nr ne pr t) (fun v9 H9 => v9 = some (.int (b2i (dWt t pr f = true))) ∧ PD g F A nb nl nr ne pr t H9) := by
  refine CT.of (by decide) rfl ?_
  intro p e s m args below meth c E hr hk hnm hP ls hl
  have hS : va_S (nF F) s.heap s.heap [] := va_S.rf
  have hx := E.1
  have hb := E.2.1
  have hE_ml := E.2.2.1
  have hown := E.2.2.2.1
  have hts := E.2.2.2.2.1
  have hG := E.2.2.2.2.2
  have hd0 := hP.di.1
  have hl : lv_has ls 4 [(0, .ref (A 0 0)), (1, .int f)] := hl
  refine lv_iconst (v := 0) hx hb dX4_isWaitedOn_0 (by decide) ?_
  refine lv_istore_n (lv' := [(2, .int 0), (0, .ref (A 0 0)), (1, .int f)]) hx hb dX4_isWaitedOn_1 rfl hl (by decide) rfl (fun ls hl => ?_)
  have LP : ∀ (n9 i : Nat) , i ≤ pr.length → pr.length < i + n9 → (exB (fun i => decide (t 13 (pg pr i) = 119) && decide (t 8 (pg pr i) = f)) i = false) → ∀ (H : Heap) (locs : List Loc), va_S (nF F) s.heap H locs → PD g F A nb nl nr ne pr t H → ∀ (ls : Array Slot), lv_has ls 4 [(0, .ref (A 0 0)), (1, .int f), (2, .int (nI i))] → W p l e { frames := 3, cells := 0, slots := 0, locals := 64 } s m args below meth c H locs 0 0 (MQ below (Qg F (fun v9 H9 => v9 = some (.int (b2i (dWt t pr f = true))) ∧ PD g F A nb nl nr ne pr t H9)) args s 0 0 (nF F)) (F0 m 2 ls []) := by
    intro n9
    induction n9 with
    | zero => intro i  hi9 hn9; exact absurd hn9 (by omega)
    | succ n9 ihLP =>
      intro i  hi_LP hn_LP hno H locs hS hP ls hl
      have hd1 := hP.di.1
      refine lv_iload_n hx hb dX4_isWaitedOn_2 rfl (lv_at hl 2 rfl) ?_
      refine lv_aload_n hx hb dX4_isWaitedOn_3 rfl (lv_at hl 0 rfl) ?_
      refine dg E hP 6 fk_X4_32 dX4_isWaitedOn_4 (v := .ref (A 2 3)) (kk := ?_)
      refine d_len E hS hP 3 pr.length hl ⟨rfl, rfl⟩ ⟨Nat.le_refl _, Nat.le_refl _⟩ dX4_isWaitedOn_7 (kk := fun locs hS => ?_)
      refine lv_icmp_ge (tgt := 50) hx hb dX4_isWaitedOn_10 (by decide) (fun c_1 => ?_) (fun c_1 => ?_)
      · have n_c_1 : pr.length ≤ i := (nI_leI (by omega) (by omega)).mp c_1
        refine lv_iconst (v := 0) hx hb dX4_isWaitedOn_50 (by decide) ?_
        have e1 : (b2i (dWt t pr f = true)) = 0 := by exact b2i_f (by rw [dWt, show pr.length = i by omega, hno]; decide)
        exact ct_zret E hr (by decide) hk hS ⟨(by rw [e1]), hP⟩ dX4_isWaitedOn_51
      · have n_c_1 : i < pr.length := Nat.lt_of_not_le (fun h9 => c_1 (nI_le h9 (by omega)))
        refine lv_aload_n hx hb dX4_isWaitedOn_13 rfl (lv_at hl 0 rfl) ?_
        refine dg E hP 6 fk_X4_32 dX4_isWaitedOn_14 (v := .ref (A 2 3)) (kk := ?_)
        refine lv_iload_n hx hb dX4_isWaitedOn_17 rfl (lv_at hl 2 rfl) ?_
        refine d_getP E hS hP i rfl (by omega) hl ⟨rfl, rfl⟩ ⟨Nat.le_refl _, Nat.le_refl _⟩ dX4_isWaitedOn_18 dX4_isWaitedOn_21 (kk := fun r_2 hr_2 ir_2 pr_2 locs hS => ?_)
        refine lv_astore_n (lv' := [(3, .ref (A 6 r_2)), (0, .ref (A 0 0)), (1, .int f), (2, .int (nI i))]) hx hb dX4_isWaitedOn_24 rfl hl (by decide) rfl (fun ls hl => ?_)
        refine lv_aload_n hx hb dX4_isWaitedOn_25 rfl (lv_at hl 0 rfl) ?_
        refine dgn E hP 6 r_2 hr_2 kcX3 4 fn_X4_140 dX4_isWaitedOn_26 (v := .int (t 13 r_2)) (kk := ?_)
        refine lv_bipush (v := 119) hx hb dX4_isWaitedOn_29 (by decide) ?_
        refine lv_icmp_ne (tgt := 44) hx hb dX4_isWaitedOn_31 (by decide) (fun c_3 => ?_) (fun c_3 => ?_)
        · refine lv_iinc (v := (nI (i + 1))) (lv' := [(2, .int (nI (i + 1))), (3, .ref (A 6 r_2)), (0, .ref (A 0 0)), (1, .int f)]) hx hb dX4_isWaitedOn_44 hl (k := 3) rfl (by rw [nI_succ]; rfl) (by decide) rfl (fun ls hl => ?_)
          refine lv_goto (tgt := 2) hx hb dX4_isWaitedOn_47 (by decide) ?_
          exact ihLP (i + 1) (by omega) (by omega) (by simp only [exB, hno, pr_2, eq_false c_1, eq_false c_3, if_true, if_false, reduceIte, true_and, and_true, false_and, and_false, true_or, or_true, false_or, or_false, not_true_eq_false, not_false_eq_true, decide_true, decide_false, Bool.true_and, Bool.and_true, Bool.false_and, Bool.and_false, Bool.not_true, Bool.not_false, Bool.or_false, Bool.false_or, Bool.or_true, Bool.true_or]) H locs hS hP ls (lv_sub hl [2, 3, 0] rfl)
        · refine lv_aload_n hx hb dX4_isWaitedOn_34 rfl (lv_at hl 0 rfl) ?_
          refine dgn E hP 6 r_2 hr_2 kcX3 2 fn_X4_151 dX4_isWaitedOn_35 (v := .int (t 8 r_2)) (kk := ?_)
          refine lv_iload_n hx hb dX4_isWaitedOn_38 rfl (lv_at hl 2 rfl) ?_
          refine lv_icmp_ne (tgt := 44) hx hb dX4_isWaitedOn_39 (by decide) (fun c_4 => ?_) (fun c_4 => ?_)
          · refine lv_iinc (v := (nI (i + 1))) (lv' := [(2, .int (nI (i + 1))), (3, .ref (A 6 r_2)), (0, .ref (A 0 0)), (1, .int f)]) hx hb dX4_isWaitedOn_44 hl (k := 3) rfl (by rw [nI_succ]; rfl) (by decide) rfl (fun ls hl => ?_)
            refine lv_goto (tgt := 2) hx hb dX4_isWaitedOn_47 (by decide) ?_
            exact ihLP (i + 1) (by omega) (by omega) (by simp only [exB, hno, pr_2, eq_false c_1, eq_true c_3, eq_false c_4, if_true, if_false, reduceIte, true_and, and_true, false_and, and_false, true_or, or_true, false_or, or_false, not_true_eq_false, not_false_eq_true, decide_true, decide_false, Bool.true_and, Bool.and_true, Bool.false_and, Bool.and_false, Bool.not_true, Bool.not_false, Bool.or_false, Bool.false_or, Bool.or_true, Bool.true_or]) H locs hS hP ls (lv_sub hl [2, 3, 0] rfl)
          · refine lv_iconst (v := 1) hx hb dX4_isWaitedOn_42 (by decide) ?_
            have e1 : (b2i (dWt t pr f = true)) = 1 := by exact b2i_t (exB_of (i := i) (by omega) (by simp only [pr_2, eq_false c_1, eq_true c_3, eq_true c_4, if_true, if_false, reduceIte, true_and, and_true, false_and, and_false, true_or, or_true, false_or, or_false, not_true_eq_false, not_false_eq_true, decide_true, decide_false, Bool.true_and, Bool.and_true, Bool.false_and, Bool.and_false, Bool.not_true, Bool.not_false, Bool.or_false, Bool.false_or, Bool.or_true, Bool.true_or]))
            exact ct_zret E hr (by decide) hk hS ⟨(by rw [e1]), hP⟩ dX4_isWaitedOn_43
  exact LP (pr.length + 1) 0 (Nat.zero_le _) (by omega) rfl _ _ hS hP ls (lv_sub hl [1, 2, 0] rfl)

set_option maxHeartbeats 4000000 in
set_option maxRecDepth 100000 in
theorem c_X4_floorInTurn (l : Launch) (g : cG) (F : Nat → Prop) (A : Nat → Nat → Nat) (nb nl nr ne : Nat) (pr : List Nat) (t : TT)   : CT l yX4_floorInTurn cX4_floorInTurn 2 (some .int) 4 87 0 0 g F [.ref (A 0 0)] (PD g F A nb nl nr ne pr t) (fun v9 H9 => v9 = some (.int (dTurn t pr)) ∧ PD g F A nb nl nr ne pr t H9) := by
  refine CT.of (by decide) rfl ?_
  intro p e s m args below meth c E hr hk hnm hP ls hl
  have hS : va_S (nF F) s.heap s.heap [] := va_S.rf
  have hx := E.1
  have hb := E.2.1
  have hE_ml := E.2.2.1
  have hown := E.2.2.2.1
  have hts := E.2.2.2.2.1
  have hG := E.2.2.2.2.2
  have hd0 := hP.di.1
  have hl : lv_has ls 2 [(0, .ref (A 0 0))] := hl
  refine lv_aload_n hx hb dX4_floorInTurn_0 rfl (lv_at hl 0 rfl) ?_
  refine dg E hP 9 fk_X4_42 dX4_floorInTurn_1 (v := .int (t 60 0)) (kk := ?_)
  refine lv_iconst (v := (-1)) hx hb dX4_floorInTurn_4 (by decide) ?_
  refine lv_icmp_ne (tgt := 10) hx hb dX4_floorInTurn_5 (by decide) (fun c_1 => ?_) (fun c_1 => ?_)
  · refine lv_iconst (v := 0) hx hb dX4_floorInTurn_10 (by decide) ?_
    refine lv_istore_n (lv' := [(1, .int 0), (0, .ref (A 0 0))]) hx hb dX4_floorInTurn_11 rfl hl (by decide) rfl (fun ls hl => ?_)
    have LP : ∀ (n9 i : Nat) , i ≤ 10 → 10 < i + n9 → (dTn t pr 10 0 = dTn t pr (10 - i) i) → ∀ (H : Heap) (locs : List Loc), va_S (nF F) s.heap H locs → PD g F A nb nl nr ne pr t H → ∀ (ls : Array Slot), lv_has ls 2 [(0, .ref (A 0 0)), (1, .int (nI i))] → W p l e { frames := 4, cells := 0, slots := 0, locals := 87 } s m args below meth c H locs 0 0 (MQ below (Qg F (fun v9 H9 => v9 = some (.int (dTurn t pr)) ∧ PD g F A nb nl nr ne pr t H9)) args s 0 0 (nF F)) (F0 m 12 ls []) := by
      intro n9
      induction n9 with
      | zero => intro i  hi9 hn9; exact absurd hn9 (by omega)
      | succ n9 ihLP =>
        intro i  hi_LP hn_LP hres H locs hS hP ls hl
        have hd1 := hP.di.1
        refine lv_iload_n hx hb dX4_floorInTurn_12 rfl (lv_at hl 1 rfl) ?_
        refine lv_bipush (v := 10) hx hb dX4_floorInTurn_13 (by decide) ?_
        refine lv_icmp_ge (tgt := 64) hx hb dX4_floorInTurn_15 (by decide) (fun c_2 => ?_) (fun c_2 => ?_)
        · have n_c_2 : 10 ≤ i := (nI_leI (by omega) (by omega)).mp (show nI 10 ≤ nI i from c_2)
          refine lv_iconst (v := (-1)) hx hb dX4_floorInTurn_64 (by decide) ?_
          have e1 : (dTurn t pr) = (-1) := by rw [dTurn, if_neg c_1, hres]; rw [show 10 - i = 0 by omega]; rfl
          exact ct_iret E hr hk hS ⟨(by rw [e1]), hP⟩ dX4_floorInTurn_65
        · have n_c_2 : i < 10 := Nat.lt_of_not_le (fun h9 => c_2 (show nI 10 ≤ nI i from nI_le h9 (by omega)))
          have e_k : 10 - i = (9 - i) + 1 := by omega
          rw [e_k] at hres
          refine lv_aload_n hx hb dX4_floorInTurn_18 rfl (lv_at hl 0 rfl) ?_
          refine lv_aload_n hx hb dX4_floorInTurn_19 rfl (lv_at hl 0 rfl) ?_
          refine dg E hP 9 fk_X4_42 dX4_floorInTurn_20 (v := .int (t 60 0)) (kk := ?_)
          refine lv_iload_n hx hb dX4_floorInTurn_23 rfl (lv_at hl 1 rfl) ?_
          refine lv_iadd hx hb dX4_floorInTurn_24 ?_
          refine ct_V E hS (c_X4_isWaitedOn l g F A nb nl nr ne pr t ((t 60 0) + (nI i))) ok_X4_isWaitedOn lk_X4_304 hP (hP.recv hG) rfl hl ⟨rfl, rfl⟩ rfl ⟨Nat.le_refl _, Nat.le_refl _⟩ dX4_floorInTurn_25 rfl (fun v9 H locs hv9 hS hz9 => ?_)
          obtain ⟨rfl, hP⟩ := hv9
          refine bz_eq (tgt := 38) hx hb dX4_floorInTurn_28 (by decide) (fun c_3 => ?_) (fun c_3 => ?_)
          · refine lv_aload_n hx hb dX4_floorInTurn_38 rfl (lv_at hl 0 rfl) ?_
            refine lv_aload_n hx hb dX4_floorInTurn_39 rfl (lv_at hl 0 rfl) ?_
            refine dg E hP 9 fk_X4_42 dX4_floorInTurn_40 (v := .int (t 60 0)) (kk := ?_)
            refine lv_iload_n hx hb dX4_floorInTurn_43 rfl (lv_at hl 1 rfl) ?_
            refine lv_isub hx hb dX4_floorInTurn_44 ?_
            refine ct_V E hS (c_X4_isWaitedOn l g F A nb nl nr ne pr t ((t 60 0) - (nI i))) ok_X4_isWaitedOn lk_X4_304 hP (hP.recv hG) rfl hl ⟨rfl, rfl⟩ rfl ⟨Nat.le_refl _, Nat.le_refl _⟩ dX4_floorInTurn_45 rfl (fun v9 H locs hv9 hS hz9 => ?_)
            obtain ⟨rfl, hP⟩ := hv9
            refine bz_eq (tgt := 58) hx hb dX4_floorInTurn_48 (by decide) (fun c_4 => ?_) (fun c_4 => ?_)
            · refine lv_iinc (v := (nI (i + 1))) (lv' := [(1, .int (nI (i + 1))), (0, .ref (A 0 0))]) hx hb dX4_floorInTurn_58 hl (k := 1) rfl (by rw [nI_succ]; rfl) (by decide) rfl (fun ls hl => ?_)
              refine lv_goto (tgt := 12) hx hb dX4_floorInTurn_61 (by decide) ?_
              exact ihLP (i + 1) (by omega) (by omega) (by rw [hres]; simp only [dTn, eq_false c_3, eq_false c_4, Bool.false_eq_true, if_true, if_false, reduceIte, true_and, and_true, false_and, and_false, true_or, or_true, false_or, or_false, not_true_eq_false, not_false_eq_true, decide_true, decide_false, Bool.true_and, Bool.and_true, Bool.false_and, Bool.and_false, Bool.not_true, Bool.not_false, Bool.or_false, Bool.false_or, Bool.or_true, Bool.true_or]; rw [show 10 - (i + 1) = 9 - i by omega]) H locs hS hP ls (lv_sub hl [1, 0] rfl)
            · refine lv_aload_n hx hb dX4_floorInTurn_51 rfl (lv_at hl 0 rfl) ?_
              refine dg E hP 9 fk_X4_42 dX4_floorInTurn_52 (v := .int (t 60 0)) (kk := ?_)
              refine lv_iload_n hx hb dX4_floorInTurn_55 rfl (lv_at hl 1 rfl) ?_
              refine lv_isub hx hb dX4_floorInTurn_56 ?_
              have e1 : (dTurn t pr) = (t 60 0) - (nI i) := by rw [dTurn, if_neg c_1, hres]; simp only [dTn, eq_false c_3, eq_true c_4, Bool.false_eq_true, if_true, if_false, reduceIte, true_and, and_true, false_and, and_false, true_or, or_true, false_or, or_false, not_true_eq_false, not_false_eq_true, decide_true, decide_false, Bool.true_and, Bool.and_true, Bool.false_and, Bool.and_false, Bool.not_true, Bool.not_false, Bool.or_false, Bool.false_or, Bool.or_true, Bool.true_or]
              exact ct_iret E hr hk hS ⟨(by rw [e1]), hP⟩ dX4_floorInTurn_57
          · refine lv_aload_n hx hb dX4_floorInTurn_31 rfl (lv_at hl 0 rfl) ?_
            refine dg E hP 9 fk_X4_42 dX4_floorInTurn_32 (v := .int (t 60 0)) (kk := ?_)
            refine lv_iload_n hx hb dX4_floorInTurn_35 rfl (lv_at hl 1 rfl) ?_
            refine lv_iadd hx hb dX4_floorInTurn_36 ?_
            have e1 : (dTurn t pr) = (t 60 0) + (nI i) := by rw [dTurn, if_neg c_1, hres]; simp only [dTn, eq_true c_3, Bool.false_eq_true, if_true, if_false, reduceIte, true_and, and_true, false_and, and_false, true_or, or_true, false_or, or_false, not_true_eq_false, not_false_eq_true, decide_true, decide_false, Bool.true_and, Bool.and_true, Bool.false_and, Bool.and_false, Bool.not_true, Bool.not_false, Bool.or_false, Bool.false_or, Bool.or_true, Bool.true_or]
            exact ct_iret E hr hk hS ⟨(by rw [e1]), hP⟩ dX4_floorInTurn_37
    exact LP (10 + 1) 0 (Nat.zero_le _) (by omega) rfl _ _ hS hP ls (lv_sub hl [1, 0] rfl)
  · refine lv_iconst (v := (-1)) hx hb dX4_floorInTurn_8 (by decide) ?_
    have e1 : (dTurn t pr) = (-1) := by rw [dTurn, if_pos c_1]
    exact ct_iret E hr hk hS ⟨(by rw [e1]), hP⟩ dX4_floorInTurn_9

set_option maxHeartbeats 4000000 in
set_option maxRecDepth 100000 in
theorem c_X4_scoreOf (l : Launch) (g : cG) (F : Nat → Prop) (A : Nat → Nat → Nat) (nb nl nr ne : Nat) (pr : List Nat) (t : TT) (q : Nat) (f : Int32) (hq : q < nl) : CT l yX4_scoreOf cX4_scoreOf 5 (some .int) 3 64 0 0 g F [.ref (A 0 0), .ref (A 5 q), .int f] (PD g F A nb nl nr ne pr t) (fun v9 H9 => v9 = some (.int (dScore t pr q f)) ∧ PD g F A nb nl nr ne pr t H9) := by
  refine CT.of (by decide) rfl ?_
  intro p e s m args below meth c E hr hk hnm hP ls hl
  have hS : va_S (nF F) s.heap s.heap [] := va_S.rf
  have hx := E.1
  have hb := E.2.1
  have hE_ml := E.2.2.1
  have hown := E.2.2.2.1
  have hts := E.2.2.2.2.1
  have hG := E.2.2.2.2.2
  have hd0 := hP.di.1
  have hl : lv_has ls 5 [(0, .ref (A 0 0)), (1, .ref (A 5 q)), (2, .int f)] := hl
  refine lv_aload_n hx hb dX4_scoreOf_0 rfl (lv_at hl 1 rfl) ?_
  refine dgn E hP 5 q hq kcX2 2 fn_X4_148 dX4_scoreOf_1 (v := .int (t 18 q)) (kk := ?_)
  refine lv_iload_n hx hb dX4_scoreOf_4 rfl (lv_at hl 2 rfl) ?_
  refine lv_isub hx hb dX4_scoreOf_5 ?_
  refine va_mabs hx hb (hE_ml.trans hl.1.symm) hown (hts _ lk_X4_250) (hts _ st_abs) (hts _ in_J9) (hts _ cd_abs) (by decide) (by decide) (by decide) (by decide) dX4_scoreOf_6 ?_
  refine lv_istore_n (lv' := [(3, .int (if 0 ≤ ((t 18 q) - f) then ((t 18 q) - f) else 0 - ((t 18 q) - f))), (0, .ref (A 0 0)), (1, .ref (A 5 q)), (2, .int f)]) hx hb dX4_scoreOf_9 rfl hl (by decide) rfl (fun ls hl => ?_)
  refine lv_iconst (v := 0) hx hb dX4_scoreOf_10 (by decide) ?_
  refine lv_istore (lv' := [(4, .int 0), (3, .int (if 0 ≤ ((t 18 q) - f) then ((t 18 q) - f) else 0 - ((t 18 q) - f))), (0, .ref (A 0 0)), (1, .ref (A 5 q)), (2, .int f)]) hx hb dX4_scoreOf_11 hl (by decide) rfl (fun ls hl => ?_)
  have LP : ∀ (n9 i : Nat) (a9 : Int32), i ≤ pr.length → pr.length < i + n9 → (a9 = dSc t pr q f i) → ∀ (H : Heap) (locs : List Loc), va_S (nF F) s.heap H locs → PD g F A nb nl nr ne pr t H → ∀ (ls : Array Slot), lv_has ls 5 [(0, .ref (A 0 0)), (1, .ref (A 5 q)), (2, .int f), (3, .int a9), (4, .int (nI i))] → W p l e { frames := 3, cells := 0, slots := 0, locals := 64 } s m args below meth c H locs 0 0 (MQ below (Qg F (fun v9 H9 => v9 = some (.int (dScore t pr q f)) ∧ PD g F A nb nl nr ne pr t H9)) args s 0 0 (nF F)) (F0 m 13 ls []) := by
    intro n9
    induction n9 with
    | zero => intro i a9 hi9 hn9; exact absurd hn9 (by omega)
    | succ n9 ihLP =>
      intro i a9 hi_LP hn_LP ha H locs hS hP ls hl
      have hd1 := hP.di.1
      refine lv_iload hx hb dX4_scoreOf_13 (lv_at hl 4 rfl) ?_
      refine lv_aload_n hx hb dX4_scoreOf_15 rfl (lv_at hl 0 rfl) ?_
      refine dg E hP 6 fk_X4_32 dX4_scoreOf_16 (v := .ref (A 2 3)) (kk := ?_)
      refine d_len E hS hP 3 pr.length hl ⟨rfl, rfl⟩ ⟨Nat.le_refl _, Nat.le_refl _⟩ dX4_scoreOf_19 (kk := fun locs hS => ?_)
      refine lv_icmp_ge (tgt := 53) hx hb dX4_scoreOf_22 (by decide) (fun c_1 => ?_) (fun c_1 => ?_)
      · have n_c_1 : pr.length ≤ i := (nI_leI (by omega) (by omega)).mp c_1
        refine lv_iload_n hx hb dX4_scoreOf_53 rfl (lv_at hl 3 rfl) ?_
        have e1 : (dScore t pr q f) = a9 := by rw [ha, dScore, show i = pr.length by omega]
        exact ct_iret E hr hk hS ⟨(by rw [e1]), hP⟩ dX4_scoreOf_54
      · have n_c_1 : i < pr.length := Nat.lt_of_not_le (fun h9 => c_1 (nI_le h9 (by omega)))
        refine lv_aload_n hx hb dX4_scoreOf_25 rfl (lv_at hl 0 rfl) ?_
        refine dg E hP 6 fk_X4_32 dX4_scoreOf_26 (v := .ref (A 2 3)) (kk := ?_)
        refine lv_iload hx hb dX4_scoreOf_29 (lv_at hl 4 rfl) ?_
        refine d_getP E hS hP i rfl (by omega) hl ⟨rfl, rfl⟩ ⟨Nat.le_refl _, Nat.le_refl _⟩ dX4_scoreOf_31 dX4_scoreOf_34 (kk := fun r_2 hr_2 ir_2 pr_2 locs hS => ?_)
        refine dgn E hP 6 r_2 hr_2 kcX3 5 fn_X4_144 dX4_scoreOf_37 (v := va_rf (lref A (t 10 r_2))) (kk := ?_)
        refine lv_aload_n hx hb dX4_scoreOf_40 rfl (lv_at hl 1 rfl) ?_
        refine lv_acmp_ne (tgt := 47) (rx := (lref A (t 10 r_2))) (ry := (some (A 5 q))) hx hb dX4_scoreOf_41 (by decide) (fun c_3 => ?_) (fun c_3 => ?_)
        · rw [lref_iff hP hr_2 hq] at c_3
          refine lv_iinc (v := (nI (i + 1))) (lv' := [(4, .int (nI (i + 1))), (0, .ref (A 0 0)), (1, .ref (A 5 q)), (2, .int f), (3, .int a9)]) hx hb dX4_scoreOf_47 hl (k := 4) rfl (by rw [nI_succ]; rfl) (by decide) rfl (fun ls hl => ?_)
          refine lv_goto (tgt := 13) hx hb dX4_scoreOf_50 (by decide) ?_
          exact ihLP (i + 1) _ (by omega) (by omega) (by rw [show dSc t pr q f (i + 1) = dSc t pr q f i + _ from rfl, ← ha]; simp only [pr_2, eq_false c_1, eq_false c_3, if_true, if_false, reduceIte, true_and, and_true, false_and, and_false, true_or, or_true, false_or, or_false, not_true_eq_false, not_false_eq_true, decide_true, decide_false, Bool.true_and, Bool.and_true, Bool.false_and, Bool.and_false, Bool.not_true, Bool.not_false, Bool.or_false, Bool.false_or, Bool.or_true, Bool.true_or, Int32.add_zero]) H locs hS hP ls (lv_sub hl [1, 2, 3, 4, 0] rfl)
        · rw [lref_iff hP hr_2 hq] at c_3
          refine lv_iinc (v := a9 + 2) (lv' := [(3, .int (a9 + 2)), (0, .ref (A 0 0)), (1, .ref (A 5 q)), (2, .int f), (4, .int (nI i))]) hx hb dX4_scoreOf_44 hl (k := 3) rfl (by rfl) (by decide) rfl (fun ls hl => ?_)
          refine lv_iinc (v := (nI (i + 1))) (lv' := [(4, .int (nI (i + 1))), (3, .int (a9 + 2)), (0, .ref (A 0 0)), (1, .ref (A 5 q)), (2, .int f)]) hx hb dX4_scoreOf_47 hl (k := 4) rfl (by rw [nI_succ]; rfl) (by decide) rfl (fun ls hl => ?_)
          refine lv_goto (tgt := 13) hx hb dX4_scoreOf_50 (by decide) ?_
          exact ihLP (i + 1) _ (by omega) (by omega) (by rw [show dSc t pr q f (i + 1) = dSc t pr q f i + _ from rfl, ← ha]; simp only [pr_2, eq_false c_1, eq_true c_3, if_true, if_false, reduceIte, true_and, and_true, false_and, and_false, true_or, or_true, false_or, or_false, not_true_eq_false, not_false_eq_true, decide_true, decide_false, Bool.true_and, Bool.and_true, Bool.false_and, Bool.and_false, Bool.not_true, Bool.not_false, Bool.or_false, Bool.false_or, Bool.or_true, Bool.true_or, Int32.add_zero]) H locs hS hP ls (lv_sub hl [2, 3, 4, 1, 0] rfl)
  exact LP (pr.length + 1) 0 (dSc t pr q f 0) (Nat.zero_le _) (by omega) rfl _ _ hS hP ls (lv_sub hl [2, 3, 4, 1, 0] rfl)
