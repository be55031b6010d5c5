set_option maxHeartbeats 4000000 in
set_option maxRecDepth 100000 in
theorem c_X5_addLift (l : Launch) (g : cG) (F : Nat → Prop) (o : Nat) (ad : Nat → Nat) (M : TT) (nL : Nat) (x : Int32) (hL : M 22 0 = nI nL) (hL3 : nL ≤ 3) : CT l yX5_addLift cX5_addLift 2 (some .int) 1 22 0 0 g F [.ref o, .int x] (PM g F o ad M) (fun v9 H9 => v9 = some (.int ((mAddLift M nL x).1)) ∧ PM g F o ad ((mAddLift M nL x).2) H9) := by
  refine CT.of (by decide) rfl ?_
  intro p e s m args below meth c E hr hk hnm hP ls hl
  have hS : va_S (nF F) s.heap s.heap [] := va_S.rf
  have hx := E.1
  have hb := E.2.1
  have hE_ml := E.2.2.1
  have hown := E.2.2.2.1
  have hts := E.2.2.2.2.1
  have hG := E.2.2.2.2.2
  have hl : lv_has ls 2 [(0, .ref o), (1, .int x)] := hl
  refine lv_aload_n hx hb dX5_addLift_0 rfl (lv_at hl 0 rfl) ?_
  refine lv_iconst (v := 0) hx hb dX5_addLift_1 (by decide) ?_
  refine mp E hS hP 0 dX5_addLift_2 rfl (kk := fun H locs hS hP => ?_)
  refine lv_iload_n hx hb dX5_addLift_5 rfl (lv_at hl 1 rfl) ?_
  refine lv_iconst (v := 1) hx hb dX5_addLift_6 (by decide) ?_
  refine lv_iconst (v := 4) hx hb dX5_addLift_7 (by decide) ?_
  refine ct_S E hS (c_X5_isBetween l g F _ x 1 4) ok_X5_isBetween lk_X5_7 hP rfl hl ⟨rfl, rfl⟩ rfl ⟨Nat.le_refl _, Nat.le_refl _⟩ dX5_addLift_8 rfl (fun v9 H locs hv9 hS hz9 => ?_)
  obtain ⟨rfl, hP⟩ := hv9
  refine bz_ne (tgt := 20) hx hb dX5_addLift_11 (by decide) (fun c_1 => ?_) (fun c_1 => ?_)
  · refine lv_aload_n hx hb dX5_addLift_20 rfl (lv_at hl 0 rfl) ?_
    refine mg E hP 22 (v := (nI nL)) dX5_addLift_21 (by simp [tu, hL]) (kk := ?_)
    refine lv_iconst (v := 3) hx hb dX5_addLift_24 (by decide) ?_
    refine lv_icmp_ne (tgt := 34) hx hb dX5_addLift_25 (by decide) (fun c_2 => ?_) (fun c_2 => ?_)
    · have n_c_2 : nL ≠ 3 := fun h9 => c_2 (by rw [h9]; rfl)
      refine lv_aload_n hx hb dX5_addLift_34 rfl (lv_at hl 0 rfl) ?_
      refine mga E hP 17 dX5_addLift_35 (kk := ?_)
      refine lv_aload_n hx hb dX5_addLift_38 rfl (lv_at hl 0 rfl) ?_
      refine mg E hP 22 (v := (nI nL)) dX5_addLift_39 (by simp [tu, hL]) (kk := ?_)
      refine lv_iload_n hx hb dX5_addLift_42 rfl (lv_at hl 1 rfl) ?_
      refine msi E hS hP 17 nL dX5_addLift_43 rfl (show nL < 3 by omega) (kk := fun H locs hS hP => ?_)
      refine lv_aload_n hx hb dX5_addLift_44 rfl (lv_at hl 0 rfl) ?_
      refine mga E hP 20 dX5_addLift_45 (kk := ?_)
      refine lv_aload_n hx hb dX5_addLift_48 rfl (lv_at hl 0 rfl) ?_
      refine mg E hP 22 (v := (nI nL)) dX5_addLift_49 (by simp [tu, hL]) (kk := ?_)
      refine lv_bipush (v := 115) hx hb dX5_addLift_52 (by decide) ?_
      refine msc E hS hP 20 nL dX5_addLift_54 rfl (show nL < 3 by omega) (by decide) (kk := fun H locs hS hP => ?_)
      refine lv_aload_n hx hb dX5_addLift_55 rfl (lv_at hl 0 rfl) ?_
      refine mga E hP 21 dX5_addLift_56 (kk := ?_)
      refine lv_aload_n hx hb dX5_addLift_59 rfl (lv_at hl 0 rfl) ?_
      refine mg E hP 22 (v := (nI nL)) dX5_addLift_60 (by simp [tu, hL]) (kk := ?_)
      refine lv_iconst (v := 1) hx hb dX5_addLift_63 (by decide) ?_
      refine msz E hS hP 21 nL dX5_addLift_64 rfl (show nL < 3 by omega) (by decide) (kk := fun H locs hS hP => ?_)
      refine lv_aload_n hx hb dX5_addLift_65 rfl (lv_at hl 0 rfl) ?_
      refine lv_dup hx hb dX5_addLift_66 rfl ?_
      refine mg E hP 22 (v := (nI nL)) dX5_addLift_67 (by simp [tu, hL]) (kk := ?_)
      refine lv_iconst (v := 1) hx hb dX5_addLift_70 (by decide) ?_
      refine lv_iadd hx hb dX5_addLift_71 ?_
      refine mp E hS hP 22 dX5_addLift_72 rfl (kk := fun H locs hS hP => ?_)
      refine lv_aload_n hx hb dX5_addLift_75 rfl (lv_at hl 0 rfl) ?_
      refine mg E hP 22 (v := (nI nL) + 1) dX5_addLift_76 (by simp [tu]) (kk := ?_)
      refine lv_iconst (v := 1) hx hb dX5_addLift_79 (by decide) ?_
      refine lv_isub hx hb dX5_addLift_80 ?_
      have e1 : ((mAddLift M nL x).1) = ((nI nL) + 1) - 1 := by simp only [mAddLift, mF, eq_true c_1, eq_false c_2, if_true, if_false, reduceIte, true_and, and_true, false_and, and_false, true_or, or_true, false_or, or_false, not_true_eq_false, not_false_eq_true, decide_true, decide_false, Bool.true_and, Bool.and_true, Bool.false_and, Bool.and_false, Bool.not_true, Bool.not_false, Bool.or_false, Bool.false_or, Bool.or_true, Bool.true_or]
      have e2 : ((mAddLift M nL x).2) = (tu (tu (tu (tu (tu M 0 0 0) 17 nL x) 20 nL 115) 21 nL 1) 22 0 ((nI nL) + 1)) := by simp only [mAddLift, mF, eq_true c_1, eq_false c_2, if_true, if_false, reduceIte, true_and, and_true, false_and, and_false, true_or, or_true, false_or, or_false, not_true_eq_false, not_false_eq_true, decide_true, decide_false, Bool.true_and, Bool.and_true, Bool.false_and, Bool.and_false, Bool.not_true, Bool.not_false, Bool.or_false, Bool.false_or, Bool.or_true, Bool.true_or]
      exact ct_iret E hr hk hS ⟨(by rw [e1]), (by rw [e2]; exact hP)⟩ dX5_addLift_81
    · have n_c_2 : nL = 3 := (nI_eq (by omega) (by decide)).mp (show nI nL = nI 3 from c_2)
      refine lv_aload_n hx hb dX5_addLift_28 rfl (lv_at hl 0 rfl) ?_
      refine lv_iconst (v := 2) hx hb dX5_addLift_29 (by decide) ?_
      refine ct_V E hS (c_X5_fails l g F o ad (tu M 0 0 0) 2) ok_X5_fails lk_X5_80 hP (PM.recv hG hP) rfl hl ⟨rfl, rfl⟩ rfl ⟨Nat.le_refl _, Nat.le_refl _⟩ dX5_addLift_30 rfl (fun v9 H locs hv9 hS hz9 => ?_)
      obtain ⟨rfl, hP⟩ := hv9
      have e1 : ((mAddLift M nL x).1) = 0 := by simp only [mAddLift, mF, eq_true c_1, eq_true c_2, if_true, if_false, reduceIte, true_and, and_true, false_and, and_false, true_or, or_true, false_or, or_false, not_true_eq_false, not_false_eq_true, decide_true, decide_false, Bool.true_and, Bool.and_true, Bool.false_and, Bool.and_false, Bool.not_true, Bool.not_false, Bool.or_false, Bool.false_or, Bool.or_true, Bool.true_or]
      have e2 : ((mAddLift M nL x).2) = (tu (tu M 0 0 0) 0 0 2) := by simp only [mAddLift, mF, eq_true c_1, eq_true c_2, if_true, if_false, reduceIte, true_and, and_true, false_and, and_false, true_or, or_true, false_or, or_false, not_true_eq_false, not_false_eq_true, decide_true, decide_false, Bool.true_and, Bool.and_true, Bool.false_and, Bool.and_false, Bool.not_true, Bool.not_false, Bool.or_false, Bool.false_or, Bool.or_true, Bool.true_or]
      exact ct_iret E hr hk hS ⟨(by rw [e1]), (by rw [e2]; exact hP)⟩ dX5_addLift_33
  · refine lv_aload_n hx hb dX5_addLift_14 rfl (lv_at hl 0 rfl) ?_
    refine lv_iconst (v := 1) hx hb dX5_addLift_15 (by decide) ?_
    refine ct_V E hS (c_X5_fails l g F o ad (tu M 0 0 0) 1) ok_X5_fails lk_X5_80 hP (PM.recv hG hP) rfl hl ⟨rfl, rfl⟩ rfl ⟨Nat.le_refl _, Nat.le_refl _⟩ dX5_addLift_16 rfl (fun v9 H locs hv9 hS hz9 => ?_)
    obtain ⟨rfl, hP⟩ := hv9
    have e1 : ((mAddLift M nL x).1) = 0 := by simp only [mAddLift, mF, eq_false c_1, if_true, if_false, reduceIte, true_and, and_true, false_and, and_false, true_or, or_true, false_or, or_false, not_true_eq_false, not_false_eq_true, decide_true, decide_false, Bool.true_and, Bool.and_true, Bool.false_and, Bool.and_false, Bool.not_true, Bool.not_false, Bool.or_false, Bool.false_or, Bool.or_true, Bool.true_or]
    have e2 : ((mAddLift M nL x).2) = (tu (tu M 0 0 0) 0 0 1) := by simp only [mAddLift, mF, eq_false c_1, if_true, if_false, reduceIte, true_and, and_true, false_and, and_false, true_or, or_true, false_or, or_false, not_true_eq_false, not_false_eq_true, decide_true, decide_false, Bool.true_and, Bool.and_true, Bool.false_and, Bool.and_false, Bool.not_true, Bool.not_false, Bool.or_false, Bool.false_or, Bool.or_true, Bool.true_or]
    exact ct_iret E hr hk hS ⟨(by rw [e1]), (by rw [e2]; exact hP)⟩ dX5_addLift_19

set_option maxHeartbeats 4000000 in
set_option maxRecDepth 100000 in
theorem c_X5_setTenant (l : Launch) (g : cG) (F : Nat → Prop) (o : Nat) (ad : Nat → Nat) (M : TT) (x y : Int32)  : CT l yX5_setTenant cX5_setTenant 4 (some .int) 1 22 0 0 g F [.ref o, .int x, .int y] (PM g F o ad M) (fun v9 H9 => v9 = some (.int ((mSetTenant M x y).1)) ∧ PM g F o ad ((mSetTenant M x y).2) H9) := by
  refine CT.of (by decide) rfl ?_
  intro p e s m args below meth c E hr hk hnm hP ls hl
  have hS : va_S (nF F) s.heap s.heap [] := va_S.rf
  have hx := E.1
  have hb := E.2.1
  have hE_ml := E.2.2.1
  have hown := E.2.2.2.1
  have hts := E.2.2.2.2.1
  have hG := E.2.2.2.2.2
  have hl : lv_has ls 4 [(0, .ref o), (1, .int x), (2, .int y)] := hl
  refine lv_aload_n hx hb dX5_setTenant_0 rfl (lv_at hl 0 rfl) ?_
  refine lv_iconst (v := 0) hx hb dX5_setTenant_1 (by decide) ?_
  refine mp E hS hP 0 dX5_setTenant_2 rfl (kk := fun H locs hS hP => ?_)
  refine lv_iload_n hx hb dX5_setTenant_5 rfl (lv_at hl 1 rfl) ?_
  refine lv_iconst (v := 1) hx hb dX5_setTenant_6 (by decide) ?_
  refine lv_bipush (v := 9) hx hb dX5_setTenant_7 (by decide) ?_
  refine ct_S E hS (c_X5_isBetween l g F _ x 1 9) ok_X5_isBetween lk_X5_7 hP rfl hl ⟨rfl, rfl⟩ rfl ⟨Nat.le_refl _, Nat.le_refl _⟩ dX5_setTenant_9 rfl (fun v9 H locs hv9 hS hz9 => ?_)
  obtain ⟨rfl, hP⟩ := hv9
  refine bz_ne (tgt := 21) hx hb dX5_setTenant_12 (by decide) (fun c_1 => ?_) (fun c_1 => ?_)
  · obtain ⟨f, rfl, f_lo, f_hi⟩ := bet_nI 1 9 1 9 c_1 (by decide) (by decide)
    have f_cl : (nI f).toNatClampNeg = f := nI_clamp (by omega)
    refine lv_iload_n hx hb dX5_setTenant_21 rfl (lv_at hl 2 rfl) ?_
    refine lv_iconst (v := (-1)) hx hb dX5_setTenant_22 (by decide) ?_
    refine lv_iconst (v := 3) hx hb dX5_setTenant_23 (by decide) ?_
    refine ct_S E hS (c_X5_isBetween l g F _ y (-1) 3) ok_X5_isBetween lk_X5_7 hP rfl hl ⟨rfl, rfl⟩ rfl ⟨Nat.le_refl _, Nat.le_refl _⟩ dX5_setTenant_24 rfl (fun v9 H locs hv9 hS hz9 => ?_)
    obtain ⟨rfl, hP⟩ := hv9
    refine bz_ne (tgt := 36) hx hb dX5_setTenant_27 (by decide) (fun c_2 => ?_) (fun c_2 => ?_)
    · refine lv_aload_n hx hb dX5_setTenant_36 rfl (lv_at hl 0 rfl) ?_
      refine mga E hP 1 dX5_setTenant_37 (kk := ?_)
      refine lv_iload_n hx hb dX5_setTenant_40 rfl (lv_at hl 1 rfl) ?_
      refine mli E hP 1 f (v := M 1 f) dX5_setTenant_41 rfl (show f < 10 by omega) (by simp [tu]) (kk := ?_)
      refine lv_istore_n (lv' := [(3, .int (M 1 f)), (0, .ref o), (1, .int (nI f)), (2, .int y)]) hx hb dX5_setTenant_42 rfl hl (by decide) rfl (fun ls hl => ?_)
      refine lv_aload_n hx hb dX5_setTenant_43 rfl (lv_at hl 1 rfl) ?_
      refine mga E hP 1 dX5_setTenant_44 (kk := ?_)
      refine lv_iload_n hx hb dX5_setTenant_47 rfl (lv_at hl 2 rfl) ?_
      refine lv_iload_n hx hb dX5_setTenant_48 rfl (lv_at hl 3 rfl) ?_
      refine msi E hS hP 1 f dX5_setTenant_49 rfl (show f < 10 by omega) (kk := fun H locs hS hP => ?_)
      refine lv_iload_n hx hb dX5_setTenant_50 rfl (lv_at hl 0 rfl) ?_
      have e1 : ((mSetTenant M (nI f) y).1) = M 1 f := by simp only [mSetTenant, mF, eq_true c_1, eq_true c_2, f_cl, if_true, if_false, reduceIte, true_and, and_true, false_and, and_false, true_or, or_true, false_or, or_false, not_true_eq_false, not_false_eq_true, decide_true, decide_false, Bool.true_and, Bool.and_true, Bool.false_and, Bool.and_false, Bool.not_true, Bool.not_false, Bool.or_false, Bool.false_or, Bool.or_true, Bool.true_or]
      have e2 : ((mSetTenant M (nI f) y).2) = (tu (tu M 0 0 0) 1 f y) := by simp only [mSetTenant, mF, eq_true c_1, eq_true c_2, f_cl, if_true, if_false, reduceIte, true_and, and_true, false_and, and_false, true_or, or_true, false_or, or_false, not_true_eq_false, not_false_eq_true, decide_true, decide_false, Bool.true_and, Bool.and_true, Bool.false_and, Bool.and_false, Bool.not_true, Bool.not_false, Bool.or_false, Bool.false_or, Bool.or_true, Bool.true_or]
      exact ct_iret E hr hk hS ⟨(by rw [e1]), (by rw [e2]; exact hP)⟩ dX5_setTenant_51
    · refine lv_aload_n hx hb dX5_setTenant_30 rfl (lv_at hl 0 rfl) ?_
      refine lv_iconst (v := 2) hx hb dX5_setTenant_31 (by decide) ?_
      refine ct_V E hS (c_X5_fails l g F o ad (tu M 0 0 0) 2) ok_X5_fails lk_X5_80 hP (PM.recv hG hP) rfl hl ⟨rfl, rfl⟩ rfl ⟨Nat.le_refl _, Nat.le_refl _⟩ dX5_setTenant_32 rfl (fun v9 H locs hv9 hS hz9 => ?_)
      obtain ⟨rfl, hP⟩ := hv9
      have e1 : ((mSetTenant M (nI f) y).1) = 0 := by simp only [mSetTenant, mF, eq_true c_1, eq_false c_2, f_cl, if_true, if_false, reduceIte, true_and, and_true, false_and, and_false, true_or, or_true, false_or, or_false, not_true_eq_false, not_false_eq_true, decide_true, decide_false, Bool.true_and, Bool.and_true, Bool.false_and, Bool.and_false, Bool.not_true, Bool.not_false, Bool.or_false, Bool.false_or, Bool.or_true, Bool.true_or]
      have e2 : ((mSetTenant M (nI f) y).2) = (tu (tu M 0 0 0) 0 0 2) := by simp only [mSetTenant, mF, eq_true c_1, eq_false c_2, f_cl, if_true, if_false, reduceIte, true_and, and_true, false_and, and_false, true_or, or_true, false_or, or_false, not_true_eq_false, not_false_eq_true, decide_true, decide_false, Bool.true_and, Bool.and_true, Bool.false_and, Bool.and_false, Bool.not_true, Bool.not_false, Bool.or_false, Bool.false_or, Bool.or_true, Bool.true_or]
      exact ct_iret E hr hk hS ⟨(by rw [e1]), (by rw [e2]; exact hP)⟩ dX5_setTenant_35
  · refine lv_aload_n hx hb dX5_setTenant_15 rfl (lv_at hl 0 rfl) ?_
    refine lv_iconst (v := 1) hx hb dX5_setTenant_16 (by decide) ?_
    refine ct_V E hS (c_X5_fails l g F o ad (tu M 0 0 0) 1) ok_X5_fails lk_X5_80 hP (PM.recv hG hP) rfl hl ⟨rfl, rfl⟩ rfl ⟨Nat.le_refl _, Nat.le_refl _⟩ dX5_setTenant_17 rfl (fun v9 H locs hv9 hS hz9 => ?_)
    obtain ⟨rfl, hP⟩ := hv9
    have e1 : ((mSetTenant M x y).1) = 0 := by simp only [mSetTenant, mF, eq_false c_1, if_true, if_false, reduceIte, true_and, and_true, false_and, and_false, true_or, or_true, false_or, or_false, not_true_eq_false, not_false_eq_true, decide_true, decide_false, Bool.true_and, Bool.and_true, Bool.false_and, Bool.and_false, Bool.not_true, Bool.not_false, Bool.or_false, Bool.false_or, Bool.or_true, Bool.true_or]
    have e2 : ((mSetTenant M x y).2) = (tu (tu M 0 0 0) 0 0 1) := by simp only [mSetTenant, mF, eq_false c_1, if_true, if_false, reduceIte, true_and, and_true, false_and, and_false, true_or, or_true, false_or, or_false, not_true_eq_false, not_false_eq_true, decide_true, decide_false, Bool.true_and, Bool.and_true, Bool.false_and, Bool.and_false, Bool.not_true, Bool.not_false, Bool.or_false, Bool.false_or, Bool.or_true, Bool.true_or]
    exact ct_iret E hr hk hS ⟨(by rw [e1]), (by rw [e2]; exact hP)⟩ dX5_setTenant_20

set_option maxHeartbeats 4000000 in
set_option maxRecDepth 100000 in
theorem c_X5_setHours (l : Launch) (g : cG) (F : Nat → Prop) (o : Nat) (ad : Nat → Nat) (M : TT) (x y z : Int32)  : CT l yX5_setHours cX5_setHours 4 (some .int) 1 22 0 0 g F [.ref o, .int x, .int y, .int z] (PM g F o ad M) (fun v9 H9 => v9 = some (.int ((mSetHours M x y z).1)) ∧ PM g F o ad ((mSetHours M x y z).2) H9) := by
  refine CT.of (by decide) rfl ?_
  intro p e s m args below meth c E hr hk hnm hP ls hl
  have hS : va_S (nF F) s.heap s.heap [] := va_S.rf
  have hx := E.1
  have hb := E.2.1
  have hE_ml := E.2.2.1
  have hown := E.2.2.2.1
  have hts := E.2.2.2.2.1
  have hG := E.2.2.2.2.2
  have hl : lv_has ls 4 [(0, .ref o), (1, .int x), (2, .int y), (3, .int z)] := hl
  refine lv_aload_n hx hb dX5_setHours_0 rfl (lv_at hl 0 rfl) ?_
  refine lv_iconst (v := 0) hx hb dX5_setHours_1 (by decide) ?_
  refine mp E hS hP 0 dX5_setHours_2 rfl (kk := fun H locs hS hP => ?_)
  refine lv_iload_n hx hb dX5_setHours_5 rfl (lv_at hl 1 rfl) ?_
  refine lv_iconst (v := 1) hx hb dX5_setHours_6 (by decide) ?_
  refine lv_bipush (v := 9) hx hb dX5_setHours_7 (by decide) ?_
  refine ct_S E hS (c_X5_isBetween l g F _ x 1 9) ok_X5_isBetween lk_X5_7 hP rfl hl ⟨rfl, rfl⟩ rfl ⟨Nat.le_refl _, Nat.le_refl _⟩ dX5_setHours_9 rfl (fun v9 H locs hv9 hS hz9 => ?_)
  obtain ⟨rfl, hP⟩ := hv9
  refine bz_ne (tgt := 21) hx hb dX5_setHours_12 (by decide) (fun c_1 => ?_) (fun c_1 => ?_)
  · obtain ⟨f, rfl, f_lo, f_hi⟩ := bet_nI 1 9 1 9 c_1 (by decide) (by decide)
    have f_cl : (nI f).toNatClampNeg = f := nI_clamp (by omega)
    refine lv_iload_n hx hb dX5_setHours_21 rfl (lv_at hl 2 rfl) ?_
    refine lv_iconst (v := 0) hx hb dX5_setHours_22 (by decide) ?_
    refine lv_bipush (v := 99) hx hb dX5_setHours_23 (by decide) ?_
    refine ct_S E hS (c_X5_isBetween l g F _ y 0 99) ok_X5_isBetween lk_X5_7 hP rfl hl ⟨rfl, rfl⟩ rfl ⟨Nat.le_refl _, Nat.le_refl _⟩ dX5_setHours_25 rfl (fun v9 H locs hv9 hS hz9 => ?_)
    obtain ⟨rfl, hP⟩ := hv9
    refine bz_eq (tgt := 43) hx hb dX5_setHours_28 (by decide) (fun c_2 => ?_) (fun c_2 => ?_)
    · refine lv_aload_n hx hb dX5_setHours_43 rfl (lv_at hl 0 rfl) ?_
      refine lv_iconst (v := 2) hx hb dX5_setHours_44 (by decide) ?_
      refine ct_V E hS (c_X5_fails l g F o ad (tu M 0 0 0) 2) ok_X5_fails lk_X5_80 hP (PM.recv hG hP) rfl hl ⟨rfl, rfl⟩ rfl ⟨Nat.le_refl _, Nat.le_refl _⟩ dX5_setHours_45 rfl (fun v9 H locs hv9 hS hz9 => ?_)
      obtain ⟨rfl, hP⟩ := hv9
      have e1 : ((mSetHours M (nI f) y z).1) = 0 := by simp only [mSetHours, mF, eq_true c_1, eq_false c_2, f_cl, if_true, if_false, reduceIte, true_and, and_true, false_and, and_false, true_or, or_true, false_or, or_false, not_true_eq_false, not_false_eq_true, decide_true, decide_false, Bool.true_and, Bool.and_true, Bool.false_and, Bool.and_false, Bool.not_true, Bool.not_false, Bool.or_false, Bool.false_or, Bool.or_true, Bool.true_or]
      have e2 : ((mSetHours M (nI f) y z).2) = (tu (tu M 0 0 0) 0 0 2) := by simp only [mSetHours, mF, eq_true c_1, eq_false c_2, f_cl, if_true, if_false, reduceIte, true_and, and_true, false_and, and_false, true_or, or_true, false_or, or_false, not_true_eq_false, not_false_eq_true, decide_true, decide_false, Bool.true_and, Bool.and_true, Bool.false_and, Bool.and_false, Bool.not_true, Bool.not_false, Bool.or_false, Bool.false_or, Bool.or_true, Bool.true_or]
      exact ct_iret E hr hk hS ⟨(by rw [e1]), (by rw [e2]; exact hP)⟩ dX5_setHours_48
    · refine lv_iload_n hx hb dX5_setHours_31 rfl (lv_at hl 3 rfl) ?_
      refine lv_iload_n hx hb dX5_setHours_32 rfl (lv_at hl 2 rfl) ?_
      refine lv_iconst (v := 1) hx hb dX5_setHours_33 (by decide) ?_
      refine lv_iadd hx hb dX5_setHours_34 ?_
      refine lv_bipush (v := 100) hx hb dX5_setHours_35 (by decide) ?_
      refine ct_S E hS (c_X5_isBetween l g F _ z (y + 1) 100) ok_X5_isBetween lk_X5_7 hP rfl hl ⟨rfl, rfl⟩ rfl ⟨Nat.le_refl _, Nat.le_refl _⟩ dX5_setHours_37 rfl (fun v9 H locs hv9 hS hz9 => ?_)
      obtain ⟨rfl, hP⟩ := hv9
      refine bz_ne (tgt := 49) hx hb dX5_setHours_40 (by decide) (fun c_3 => ?_) (fun c_3 => ?_)
      · refine lv_aload_n hx hb dX5_setHours_49 rfl (lv_at hl 0 rfl) ?_
        refine mga E hP 2 dX5_setHours_50 (kk := ?_)
        refine lv_iload_n hx hb dX5_setHours_53 rfl (lv_at hl 1 rfl) ?_
        refine lv_iload_n hx hb dX5_setHours_54 rfl (lv_at hl 2 rfl) ?_
        refine msi E hS hP 2 f dX5_setHours_55 rfl (show f < 10 by omega) (kk := fun H locs hS hP => ?_)
        refine lv_aload_n hx hb dX5_setHours_56 rfl (lv_at hl 0 rfl) ?_
        refine mga E hP 3 dX5_setHours_57 (kk := ?_)
        refine lv_iload_n hx hb dX5_setHours_60 rfl (lv_at hl 1 rfl) ?_
        refine lv_iload_n hx hb dX5_setHours_61 rfl (lv_at hl 3 rfl) ?_
        refine msi E hS hP 3 f dX5_setHours_62 rfl (show f < 10 by omega) (kk := fun H locs hS hP => ?_)
        refine lv_iload_n hx hb dX5_setHours_63 rfl (lv_at hl 3 rfl) ?_
        refine lv_iload_n hx hb dX5_setHours_64 rfl (lv_at hl 2 rfl) ?_
        refine lv_isub hx hb dX5_setHours_65 ?_
        have e1 : ((mSetHours M (nI f) y z).1) = z - y := by simp only [mSetHours, mF, eq_true c_1, eq_true c_2, eq_true c_3, f_cl, if_true, if_false, reduceIte, true_and, and_true, false_and, and_false, true_or, or_true, false_or, or_false, not_true_eq_false, not_false_eq_true, decide_true, decide_false, Bool.true_and, Bool.and_true, Bool.false_and, Bool.and_false, Bool.not_true, Bool.not_false, Bool.or_false, Bool.false_or, Bool.or_true, Bool.true_or]
        have e2 : ((mSetHours M (nI f) y z).2) = (tu (tu (tu M 0 0 0) 2 f y) 3 f z) := by simp only [mSetHours, mF, eq_true c_1, eq_true c_2, eq_true c_3, f_cl, if_true, if_false, reduceIte, true_and, and_true, false_and, and_false, true_or, or_true, false_or, or_false, not_true_eq_false, not_false_eq_true, decide_true, decide_false, Bool.true_and, Bool.and_true, Bool.false_and, Bool.and_false, Bool.not_true, Bool.not_false, Bool.or_false, Bool.false_or, Bool.or_true, Bool.true_or]
        exact ct_iret E hr hk hS ⟨(by rw [e1]), (by rw [e2]; exact hP)⟩ dX5_setHours_66
      · refine lv_aload_n hx hb dX5_setHours_43 rfl (lv_at hl 0 rfl) ?_
        refine lv_iconst (v := 2) hx hb dX5_setHours_44 (by decide) ?_
        refine ct_V E hS (c_X5_fails l g F o ad (tu M 0 0 0) 2) ok_X5_fails lk_X5_80 hP (PM.recv hG hP) rfl hl ⟨rfl, rfl⟩ rfl ⟨Nat.le_refl _, Nat.le_refl _⟩ dX5_setHours_45 rfl (fun v9 H locs hv9 hS hz9 => ?_)
        obtain ⟨rfl, hP⟩ := hv9
        have e1 : ((mSetHours M (nI f) y z).1) = 0 := by simp only [mSetHours, mF, eq_true c_1, eq_true c_2, eq_false c_3, f_cl, if_true, if_false, reduceIte, true_and, and_true, false_and, and_false, true_or, or_true, false_or, or_false, not_true_eq_false, not_false_eq_true, decide_true, decide_false, Bool.true_and, Bool.and_true, Bool.false_and, Bool.and_false, Bool.not_true, Bool.not_false, Bool.or_false, Bool.false_or, Bool.or_true, Bool.true_or]
        have e2 : ((mSetHours M (nI f) y z).2) = (tu (tu M 0 0 0) 0 0 2) := by simp only [mSetHours, mF, eq_true c_1, eq_true c_2, eq_false c_3, f_cl, if_true, if_false, reduceIte, true_and, and_true, false_and, and_false, true_or, or_true, false_or, or_false, not_true_eq_false, not_false_eq_true, decide_true, decide_false, Bool.true_and, Bool.and_true, Bool.false_and, Bool.and_false, Bool.not_true, Bool.not_false, Bool.or_false, Bool.false_or, Bool.or_true, Bool.true_or]
        exact ct_iret E hr hk hS ⟨(by rw [e1]), (by rw [e2]; exact hP)⟩ dX5_setHours_48
  · refine lv_aload_n hx hb dX5_setHours_15 rfl (lv_at hl 0 rfl) ?_
    refine lv_iconst (v := 1) hx hb dX5_setHours_16 (by decide) ?_
    refine ct_V E hS (c_X5_fails l g F o ad (tu M 0 0 0) 1) ok_X5_fails lk_X5_80 hP (PM.recv hG hP) rfl hl ⟨rfl, rfl⟩ rfl ⟨Nat.le_refl _, Nat.le_refl _⟩ dX5_setHours_17 rfl (fun v9 H locs hv9 hS hz9 => ?_)
    obtain ⟨rfl, hP⟩ := hv9
    have e1 : ((mSetHours M x y z).1) = 0 := by simp only [mSetHours, mF, eq_false c_1, if_true, if_false, reduceIte, true_and, and_true, false_and, and_false, true_or, or_true, false_or, or_false, not_true_eq_false, not_false_eq_true, decide_true, decide_false, Bool.true_and, Bool.and_true, Bool.false_and, Bool.and_false, Bool.not_true, Bool.not_false, Bool.or_false, Bool.false_or, Bool.or_true, Bool.true_or]
    have e2 : ((mSetHours M x y z).2) = (tu (tu M 0 0 0) 0 0 1) := by simp only [mSetHours, mF, eq_false c_1, if_true, if_false, reduceIte, true_and, and_true, false_and, and_false, true_or, or_true, false_or, or_false, not_true_eq_false, not_false_eq_true, decide_true, decide_false, Bool.true_and, Bool.and_true, Bool.false_and, Bool.and_false, Bool.not_true, Bool.not_false, Bool.or_false, Bool.false_or, Bool.or_true, Bool.true_or]
    exact ct_iret E hr hk hS ⟨(by rw [e1]), (by rw [e2]; exact hP)⟩ dX5_setHours_20

set_option maxHeartbeats 4000000 in
set_option maxRecDepth 100000 in
theorem c_X5_addBadge (l : Launch) (g : cG) (F : Nat → Prop) (o : Nat) (ad : Nat → Nat) (M : TT) (nB : Nat) (x : Int32) (hB : M 6 0 = nI nB) (hB8 : nB ≤ 8) : CT l yX5_addBadge cX5_addBadge 2 (some .int) 1 22 0 0 g F [.ref o, .int x] (PM g F o ad M) (fun v9 H9 => v9 = some (.int ((mAddBadge M nB x).1)) ∧ PM g F o ad ((mAddBadge M nB x).2) H9) := by
  refine CT.of (by decide) rfl ?_
  intro p e s m args below meth c E hr hk hnm hP ls hl
  have hS : va_S (nF F) s.heap s.heap [] := va_S.rf
  have hx := E.1
  have hb := E.2.1
  have hE_ml := E.2.2.1
  have hown := E.2.2.2.1
  have hts := E.2.2.2.2.1
  have hG := E.2.2.2.2.2
  have hl : lv_has ls 2 [(0, .ref o), (1, .int x)] := hl
  refine lv_aload_n hx hb dX5_addBadge_0 rfl (lv_at hl 0 rfl) ?_
  refine lv_iconst (v := 0) hx hb dX5_addBadge_1 (by decide) ?_
  refine mp E hS hP 0 dX5_addBadge_2 rfl (kk := fun H locs hS hP => ?_)
  refine lv_iload_n hx hb dX5_addBadge_5 rfl (lv_at hl 1 rfl) ?_
  refine lv_iconst (v := 0) hx hb dX5_addBadge_6 (by decide) ?_
  refine lv_iconst (v := 3) hx hb dX5_addBadge_7 (by decide) ?_
  refine ct_S E hS (c_X5_isBetween l g F _ x 0 3) ok_X5_isBetween lk_X5_7 hP rfl hl ⟨rfl, rfl⟩ rfl ⟨Nat.le_refl _, Nat.le_refl _⟩ dX5_addBadge_8 rfl (fun v9 H locs hv9 hS hz9 => ?_)
  obtain ⟨rfl, hP⟩ := hv9
  refine bz_ne (tgt := 20) hx hb dX5_addBadge_11 (by decide) (fun c_1 => ?_) (fun c_1 => ?_)
  · refine lv_aload_n hx hb dX5_addBadge_20 rfl (lv_at hl 0 rfl) ?_
    refine mg E hP 6 (v := (nI nB)) dX5_addBadge_21 (by simp [tu, hB]) (kk := ?_)
    refine lv_bipush (v := 8) hx hb dX5_addBadge_24 (by decide) ?_
    refine lv_icmp_ne (tgt := 35) hx hb dX5_addBadge_26 (by decide) (fun c_2 => ?_) (fun c_2 => ?_)
    · have n_c_2 : nB ≠ 8 := fun h9 => c_2 (by rw [h9]; rfl)
      refine lv_aload_n hx hb dX5_addBadge_35 rfl (lv_at hl 0 rfl) ?_
      refine mga E hP 4 dX5_addBadge_36 (kk := ?_)
      refine lv_aload_n hx hb dX5_addBadge_39 rfl (lv_at hl 0 rfl) ?_
      refine mg E hP 6 (v := (nI nB)) dX5_addBadge_40 (by simp [tu, hB]) (kk := ?_)
      refine lv_iload_n hx hb dX5_addBadge_43 rfl (lv_at hl 1 rfl) ?_
      refine msi E hS hP 4 nB dX5_addBadge_44 rfl (show nB < 8 by omega) (kk := fun H locs hS hP => ?_)
      refine lv_aload_n hx hb dX5_addBadge_45 rfl (lv_at hl 0 rfl) ?_
      refine lv_dup hx hb dX5_addBadge_46 rfl ?_
      refine mg E hP 6 (v := (nI nB)) dX5_addBadge_47 (by simp [tu, hB]) (kk := ?_)
      refine lv_iconst (v := 1) hx hb dX5_addBadge_50 (by decide) ?_
      refine lv_iadd hx hb dX5_addBadge_51 ?_
      refine mp E hS hP 6 dX5_addBadge_52 rfl (kk := fun H locs hS hP => ?_)
      refine lv_aload_n hx hb dX5_addBadge_55 rfl (lv_at hl 0 rfl) ?_
      refine mg E hP 6 (v := (nI nB) + 1) dX5_addBadge_56 (by simp [tu]) (kk := ?_)
      refine lv_iconst (v := 1) hx hb dX5_addBadge_59 (by decide) ?_
      refine lv_isub hx hb dX5_addBadge_60 ?_
      have e1 : ((mAddBadge M nB x).1) = ((nI nB) + 1) - 1 := by simp only [mAddBadge, mF, eq_true c_1, eq_false c_2, if_true, if_false, reduceIte, true_and, and_true, false_and, and_false, true_or, or_true, false_or, or_false, not_true_eq_false, not_false_eq_true, decide_true, decide_false, Bool.true_and, Bool.and_true, Bool.false_and, Bool.and_false, Bool.not_true, Bool.not_false, Bool.or_false, Bool.false_or, Bool.or_true, Bool.true_or]
      have e2 : ((mAddBadge M nB x).2) = (tu (tu (tu M 0 0 0) 4 nB x) 6 0 ((nI nB) + 1)) := by simp only [mAddBadge, mF, eq_true c_1, eq_false c_2, if_true, if_false, reduceIte, true_and, and_true, false_and, and_false, true_or, or_true, false_or, or_false, not_true_eq_false, not_false_eq_true, decide_true, decide_false, Bool.true_and, Bool.and_true, Bool.false_and, Bool.and_false, Bool.not_true, Bool.not_false, Bool.or_false, Bool.false_or, Bool.or_true, Bool.true_or]
      exact ct_iret E hr hk hS ⟨(by rw [e1]), (by rw [e2]; exact hP)⟩ dX5_addBadge_61
    · have n_c_2 : nB = 8 := (nI_eq (by omega) (by decide)).mp (show nI nB = nI 8 from c_2)
      refine lv_aload_n hx hb dX5_addBadge_29 rfl (lv_at hl 0 rfl) ?_
      refine lv_iconst (v := 2) hx hb dX5_addBadge_30 (by decide) ?_
      refine ct_V E hS (c_X5_fails l g F o ad (tu M 0 0 0) 2) ok_X5_fails lk_X5_80 hP (PM.recv hG hP) rfl hl ⟨rfl, rfl⟩ rfl ⟨Nat.le_refl _, Nat.le_refl _⟩ dX5_addBadge_31 rfl (fun v9 H locs hv9 hS hz9 => ?_)
      obtain ⟨rfl, hP⟩ := hv9
      have e1 : ((mAddBadge M nB x).1) = 0 := by simp only [mAddBadge, mF, eq_true c_1, eq_true c_2, if_true, if_false, reduceIte, true_and, and_true, false_and, and_false, true_or, or_true, false_or, or_false, not_true_eq_false, not_false_eq_true, decide_true, decide_false, Bool.true_and, Bool.and_true, Bool.false_and, Bool.and_false, Bool.not_true, Bool.not_false, Bool.or_false, Bool.false_or, Bool.or_true, Bool.true_or]
      have e2 : ((mAddBadge M nB x).2) = (tu (tu M 0 0 0) 0 0 2) := by simp only [mAddBadge, mF, eq_true c_1, eq_true c_2, if_true, if_false, reduceIte, true_and, and_true, false_and, and_false, true_or, or_true, false_or, or_false, not_true_eq_false, not_false_eq_true, decide_true, decide_false, Bool.true_and, Bool.and_true, Bool.false_and, Bool.and_false, Bool.not_true, Bool.not_false, Bool.or_false, Bool.false_or, Bool.or_true, Bool.true_or]
      exact ct_iret E hr hk hS ⟨(by rw [e1]), (by rw [e2]; exact hP)⟩ dX5_addBadge_34
  · refine lv_aload_n hx hb dX5_addBadge_14 rfl (lv_at hl 0 rfl) ?_
    refine lv_iconst (v := 1) hx hb dX5_addBadge_15 (by decide) ?_
    refine ct_V E hS (c_X5_fails l g F o ad (tu M 0 0 0) 1) ok_X5_fails lk_X5_80 hP (PM.recv hG hP) rfl hl ⟨rfl, rfl⟩ rfl ⟨Nat.le_refl _, Nat.le_refl _⟩ dX5_addBadge_16 rfl (fun v9 H locs hv9 hS hz9 => ?_)
    obtain ⟨rfl, hP⟩ := hv9
    have e1 : ((mAddBadge M nB x).1) = 0 := by simp only [mAddBadge, mF, eq_false c_1, if_true, if_false, reduceIte, true_and, and_true, false_and, and_false, true_or, or_true, false_or, or_false, not_true_eq_false, not_false_eq_true, decide_true, decide_false, Bool.true_and, Bool.and_true, Bool.false_and, Bool.and_false, Bool.not_true, Bool.not_false, Bool.or_false, Bool.false_or, Bool.or_true, Bool.true_or]
    have e2 : ((mAddBadge M nB x).2) = (tu (tu M 0 0 0) 0 0 1) := by simp only [mAddBadge, mF, eq_false c_1, if_true, if_false, reduceIte, true_and, and_true, false_and, and_false, true_or, or_true, false_or, or_false, not_true_eq_false, not_false_eq_true, decide_true, decide_false, Bool.true_and, Bool.and_true, Bool.false_and, Bool.and_false, Bool.not_true, Bool.not_false, Bool.or_false, Bool.false_or, Bool.or_true, Bool.true_or]
    exact ct_iret E hr hk hS ⟨(by rw [e1]), (by rw [e2]; exact hP)⟩ dX5_addBadge_19

set_option maxHeartbeats 4000000 in
set_option maxRecDepth 100000 in
theorem c_X5_setRevoked (l : Launch) (g : cG) (F : Nat → Prop) (o : Nat) (ad : Nat → Nat) (M : TT) (nB : Nat) (x v : Int32) (hB : M 6 0 = nI nB) (hB8 : nB ≤ 8) (hZ : ∀ j, j < nB → M 5 j = 0 ∨ M 5 j = 1) (hv : narrow .boolean (.int v) = .int v) : CT l yX5_setRevoked cX5_setRevoked 4 (some .boolean) 2 43 0 0 g F [.ref o, .int x, .int v] (PM g F o ad M) (fun v9 H9 => v9 = some (.int ((mSetRevoked M nB x v).1)) ∧ PM g F o ad ((mSetRevoked M nB x v).2) H9) := by
  refine CT.of (by decide) rfl ?_
  intro p e s m args below meth c E hr hk hnm hP ls hl
  have hS : va_S (nF F) s.heap s.heap [] := va_S.rf
  have hx := E.1
  have hb := E.2.1
  have hE_ml := E.2.2.1
  have hown := E.2.2.2.1
  have hts := E.2.2.2.2.1
  have hG := E.2.2.2.2.2
  have hl : lv_has ls 4 [(0, .ref o), (1, .int x), (2, .int v)] := hl
  refine lv_aload_n hx hb dX5_setRevoked_0 rfl (lv_at hl 0 rfl) ?_
  refine lv_iconst (v := 0) hx hb dX5_setRevoked_1 (by decide) ?_
  refine mp E hS hP 0 dX5_setRevoked_2 rfl (kk := fun H locs hS hP => ?_)
  refine lv_aload_n hx hb dX5_setRevoked_5 rfl (lv_at hl 0 rfl) ?_
  refine lv_iload_n hx hb dX5_setRevoked_6 rfl (lv_at hl 1 rfl) ?_
  refine ct_V E hS (c_X5_isBadge l g F o ad (tu M 0 0 0) x (nI nB) (by simp [tu, hB])) ok_X5_isBadge lk_X5_84 hP (PM.recv hG hP) rfl hl ⟨rfl, rfl⟩ rfl ⟨Nat.le_refl _, Nat.le_refl _⟩ dX5_setRevoked_7 rfl (fun v9 H locs hv9 hS hz9 => ?_)
  obtain ⟨rfl, hP⟩ := hv9
  refine bz_ne (tgt := 19) hx hb dX5_setRevoked_10 (by decide) (fun c_1 => ?_) (fun c_1 => ?_)
  · obtain ⟨f, rfl, f_hi⟩ := betc_nI (n := nB) c_1 (by omega)
    have f_cl : (nI f).toNatClampNeg = f := nI_clamp (by omega)
    refine lv_aload_n hx hb dX5_setRevoked_19 rfl (lv_at hl 0 rfl) ?_
    refine mga E hP 5 dX5_setRevoked_20 (kk := ?_)
    refine lv_iload_n hx hb dX5_setRevoked_23 rfl (lv_at hl 1 rfl) ?_
    refine mlz E hP 5 f (v := M 5 f) dX5_setRevoked_24 rfl (show f < 8 by omega) (by simp [tu]) (kk := ?_)
    refine lv_istore_n (lv' := [(3, .int (M 5 f)), (0, .ref o), (1, .int (nI f)), (2, .int v)]) hx hb dX5_setRevoked_25 rfl hl (by decide) rfl (fun ls hl => ?_)
    refine lv_aload_n hx hb dX5_setRevoked_26 rfl (lv_at hl 1 rfl) ?_
    refine mga E hP 5 dX5_setRevoked_27 (kk := ?_)
    refine lv_iload_n hx hb dX5_setRevoked_30 rfl (lv_at hl 2 rfl) ?_
    refine lv_iload_n hx hb dX5_setRevoked_31 rfl (lv_at hl 3 rfl) ?_
    refine msz E hS hP 5 f dX5_setRevoked_32 rfl (show f < 8 by omega) hv (kk := fun H locs hS hP => ?_)
    refine lv_iload_n hx hb dX5_setRevoked_33 rfl (lv_at hl 0 rfl) ?_
    have e1 : ((mSetRevoked M nB (nI f) v).1) = M 5 f := by simp only [mSetRevoked, mF, eq_true c_1, f_cl, if_true, if_false, reduceIte, true_and, and_true, false_and, and_false, true_or, or_true, false_or, or_false, not_true_eq_false, not_false_eq_true, decide_true, decide_false, Bool.true_and, Bool.and_true, Bool.false_and, Bool.and_false, Bool.not_true, Bool.not_false, Bool.or_false, Bool.false_or, Bool.or_true, Bool.true_or]
    have e2 : ((mSetRevoked M nB (nI f) v).2) = (tu (tu M 0 0 0) 5 f v) := by simp only [mSetRevoked, mF, eq_true c_1, f_cl, if_true, if_false, reduceIte, true_and, and_true, false_and, and_false, true_or, or_true, false_or, or_false, not_true_eq_false, not_false_eq_true, decide_true, decide_false, Bool.true_and, Bool.and_true, Bool.false_and, Bool.and_false, Bool.not_true, Bool.not_false, Bool.or_false, Bool.false_or, Bool.or_true, Bool.true_or]
    exact ct_zret E hr (by rcases hZ f f_hi with h9 | h9 <;> rw [h9] <;> rfl) hk hS ⟨(by rw [e1]), (by rw [e2]; exact hP)⟩ dX5_setRevoked_34
  · refine lv_aload_n hx hb dX5_setRevoked_13 rfl (lv_at hl 0 rfl) ?_
    refine lv_iconst (v := 1) hx hb dX5_setRevoked_14 (by decide) ?_
    refine ct_V E hS (c_X5_isWrong l g F o ad (tu M 0 0 0) 1) ok_X5_isWrong lk_X5_88 hP (PM.recv hG hP) rfl hl ⟨rfl, rfl⟩ rfl ⟨Nat.le_refl _, Nat.le_refl _⟩ dX5_setRevoked_15 rfl (fun v9 H locs hv9 hS hz9 => ?_)
    obtain ⟨rfl, hP⟩ := hv9
    have e1 : ((mSetRevoked M nB x v).1) = 0 := by simp only [mSetRevoked, mF, eq_false c_1, if_true, if_false, reduceIte, true_and, and_true, false_and, and_false, true_or, or_true, false_or, or_false, not_true_eq_false, not_false_eq_true, decide_true, decide_false, Bool.true_and, Bool.and_true, Bool.false_and, Bool.and_false, Bool.not_true, Bool.not_false, Bool.or_false, Bool.false_or, Bool.or_true, Bool.true_or]
    have e2 : ((mSetRevoked M nB x v).2) = (tu (tu M 0 0 0) 0 0 1) := by simp only [mSetRevoked, mF, eq_false c_1, if_true, if_false, reduceIte, true_and, and_true, false_and, and_false, true_or, or_true, false_or, or_false, not_true_eq_false, not_false_eq_true, decide_true, decide_false, Bool.true_and, Bool.and_true, Bool.false_and, Bool.and_false, Bool.not_true, Bool.not_false, Bool.or_false, Bool.false_or, Bool.or_true, Bool.true_or]
    exact ct_zret E hr (by decide) hk hS ⟨(by rw [e1]), (by rw [e2]; exact hP)⟩ dX5_setRevoked_18

set_option maxHeartbeats 4000000 in
set_option maxRecDepth 100000 in
theorem c_X5_reason (l : Launch) (g : cG) (F : Nat → Prop) (o : Nat) (ad : Nat → Nat) (M : TT) (nB : Nat) (x y : Int32) (hB : M 6 0 = nI nB) (hB8 : nB ≤ 8) : CT l yX5_reason cX5_reason 3 (some .char) 2 44 0 0 g F [.ref o, .int x, .int y] (PM g F o ad M) (fun v9 H9 => v9 = some (.int ((mReason M nB x y).1)) ∧ PM g F o ad ((mReason M nB x y).2) H9) := by
  refine CT.of (by decide) rfl ?_
  intro p e s m args below meth c E hr hk hnm hP ls hl
  have hS : va_S (nF F) s.heap s.heap [] := va_S.rf
  have hx := E.1
  have hb := E.2.1
  have hE_ml := E.2.2.1
  have hown := E.2.2.2.1
  have hts := E.2.2.2.2.1
  have hG := E.2.2.2.2.2
  have hl : lv_has ls 3 [(0, .ref o), (1, .int x), (2, .int y)] := hl
  refine lv_aload_n hx hb dX5_reason_0 rfl (lv_at hl 0 rfl) ?_
  refine lv_iconst (v := 0) hx hb dX5_reason_1 (by decide) ?_
  refine mp E hS hP 0 dX5_reason_2 rfl (kk := fun H locs hS hP => ?_)
  refine lv_aload_n hx hb dX5_reason_5 rfl (lv_at hl 0 rfl) ?_
  refine lv_iload_n hx hb dX5_reason_6 rfl (lv_at hl 1 rfl) ?_
  refine ct_V E hS (c_X5_isBadge l g F o ad (tu M 0 0 0) x (nI nB) (by simp [tu, hB])) ok_X5_isBadge lk_X5_84 hP (PM.recv hG hP) rfl hl ⟨rfl, rfl⟩ rfl ⟨Nat.le_refl _, Nat.le_refl _⟩ dX5_reason_7 rfl (fun v9 H locs hv9 hS hz9 => ?_)
  obtain ⟨rfl, hP⟩ := hv9
  refine bz_eq (tgt := 29) hx hb dX5_reason_10 (by decide) (fun c_1 => ?_) (fun c_1 => ?_)
  · refine lv_aload_n hx hb dX5_reason_29 rfl (lv_at hl 0 rfl) ?_
    refine lv_iconst (v := 1) hx hb dX5_reason_30 (by decide) ?_
    refine ct_V E hS (c_X5_fails l g F o ad (tu M 0 0 0) 1) ok_X5_fails lk_X5_80 hP (PM.recv hG hP) rfl hl ⟨rfl, rfl⟩ rfl ⟨Nat.le_refl _, Nat.le_refl _⟩ dX5_reason_31 rfl (fun v9 H locs hv9 hS hz9 => ?_)
    obtain ⟨rfl, hP⟩ := hv9
    refine lv_i2c (v := 0) hx hb dX5_reason_34 i2c_0 ?_
    have e1 : ((mReason M nB x y).1) = 0 := by simp only [mReason, mF, eq_false c_1, if_true, if_false, reduceIte, true_and, and_true, false_and, and_false, true_or, or_true, false_or, or_false, not_true_eq_false, not_false_eq_true, decide_true, decide_false, Bool.true_and, Bool.and_true, Bool.false_and, Bool.and_false, Bool.not_true, Bool.not_false, Bool.or_false, Bool.false_or, Bool.or_true, Bool.true_or]
    have e2 : ((mReason M nB x y).2) = (tu (tu M 0 0 0) 0 0 1) := by simp only [mReason, mF, eq_false c_1, if_true, if_false, reduceIte, true_and, and_true, false_and, and_false, true_or, or_true, false_or, or_false, not_true_eq_false, not_false_eq_true, decide_true, decide_false, Bool.true_and, Bool.and_true, Bool.false_and, Bool.and_false, Bool.not_true, Bool.not_false, Bool.or_false, Bool.false_or, Bool.or_true, Bool.true_or]
    exact ct_zret E hr (by decide) hk hS ⟨(by rw [e1]), (by rw [e2]; exact hP)⟩ dX5_reason_35
  · obtain ⟨b, rfl, b_hi⟩ := betc_nI (n := nB) c_1 (by omega)
    have b_cl : (nI b).toNatClampNeg = b := nI_clamp (by omega)
    refine lv_iload_n hx hb dX5_reason_13 rfl (lv_at hl 2 rfl) ?_
    refine ct_S E hS (c_X5_isFloor l g F _ y) ok_X5_isFloor lk_X5_94 hP rfl hl ⟨rfl, rfl⟩ rfl ⟨Nat.le_refl _, Nat.le_refl _⟩ dX5_reason_14 rfl (fun v9 H locs hv9 hS hz9 => ?_)
    obtain ⟨rfl, hP⟩ := hv9
    refine bz_eq (tgt := 29) hx hb dX5_reason_17 (by decide) (fun c_2 => ?_) (fun c_2 => ?_)
    · refine lv_aload_n hx hb dX5_reason_29 rfl (lv_at hl 0 rfl) ?_
      refine lv_iconst (v := 1) hx hb dX5_reason_30 (by decide) ?_
      refine ct_V E hS (c_X5_fails l g F o ad (tu M 0 0 0) 1) ok_X5_fails lk_X5_80 hP (PM.recv hG hP) rfl hl ⟨rfl, rfl⟩ rfl ⟨Nat.le_refl _, Nat.le_refl _⟩ dX5_reason_31 rfl (fun v9 H locs hv9 hS hz9 => ?_)
      obtain ⟨rfl, hP⟩ := hv9
      refine lv_i2c (v := 0) hx hb dX5_reason_34 i2c_0 ?_
      have e1 : ((mReason M nB (nI b) y).1) = 0 := by simp only [mReason, mF, eq_true c_1, eq_false c_2, b_cl, if_true, if_false, reduceIte, true_and, and_true, false_and, and_false, true_or, or_true, false_or, or_false, not_true_eq_false, not_false_eq_true, decide_true, decide_false, Bool.true_and, Bool.and_true, Bool.false_and, Bool.and_false, Bool.not_true, Bool.not_false, Bool.or_false, Bool.false_or, Bool.or_true, Bool.true_or]
      have e2 : ((mReason M nB (nI b) y).2) = (tu (tu M 0 0 0) 0 0 1) := by simp only [mReason, mF, eq_true c_1, eq_false c_2, b_cl, if_true, if_false, reduceIte, true_and, and_true, false_and, and_false, true_or, or_true, false_or, or_false, not_true_eq_false, not_false_eq_true, decide_true, decide_false, Bool.true_and, Bool.and_true, Bool.false_and, Bool.and_false, Bool.not_true, Bool.not_false, Bool.or_false, Bool.false_or, Bool.or_true, Bool.true_or]
      exact ct_zret E hr (by decide) hk hS ⟨(by rw [e1]), (by rw [e2]; exact hP)⟩ dX5_reason_35
    · obtain ⟨f, rfl, f_lo, f_hi⟩ := bet_nI 0 9 0 9 c_2 (by decide) (by decide)
      have f_cl : (nI f).toNatClampNeg = f := nI_clamp (by omega)
      refine lv_aload_n hx hb dX5_reason_20 rfl (lv_at hl 0 rfl) ?_
      refine lv_iload_n hx hb dX5_reason_21 rfl (lv_at hl 1 rfl) ?_
      refine lv_iload_n hx hb dX5_reason_22 rfl (lv_at hl 2 rfl) ?_
      refine ct_V E hS (c_X5_why l g F o ad (tu M 0 0 0) b f (by omega) (by omega)) ok_X5_why lk_X5_97 hP (PM.recv hG hP) rfl hl ⟨rfl, rfl⟩ rfl ⟨Nat.le_refl _, Nat.le_refl _⟩ dX5_reason_23 rfl (fun v9 H locs hv9 hS hz9 => ?_)
      obtain ⟨rfl, hP⟩ := hv9
      refine lv_goto (tgt := 35) hx hb dX5_reason_26 (by decide) ?_
      have e1 : ((mReason M nB (nI b) (nI f)).1) = mWhy (tu M 0 0 0) b f := by simp only [mReason, mF, eq_true c_1, eq_true c_2, b_cl, f_cl, if_true, if_false, reduceIte, true_and, and_true, false_and, and_false, true_or, or_true, false_or, or_false, not_true_eq_false, not_false_eq_true, decide_true, decide_false, Bool.true_and, Bool.and_true, Bool.false_and, Bool.and_false, Bool.not_true, Bool.not_false, Bool.or_false, Bool.false_or, Bool.or_true, Bool.true_or]
      have e2 : ((mReason M nB (nI b) (nI f)).2) = (tu M 0 0 0) := by simp only [mReason, mF, eq_true c_1, eq_true c_2, b_cl, f_cl, if_true, if_false, reduceIte, true_and, and_true, false_and, and_false, true_or, or_true, false_or, or_false, not_true_eq_false, not_false_eq_true, decide_true, decide_false, Bool.true_and, Bool.and_true, Bool.false_and, Bool.and_false, Bool.not_true, Bool.not_false, Bool.or_false, Bool.false_or, Bool.or_true, Bool.true_or]
      exact ct_zret E hr mWhy_c hk hS ⟨(by rw [e1]), (by rw [e2]; exact hP)⟩ dX5_reason_35

set_option maxHeartbeats 4000000 in
set_option maxRecDepth 100000 in
theorem c_X5_scoreOf (l : Launch) (g : cG) (F : Nat → Prop) (o : Nat) (ad : Nat → Nat) (M : TT) (nR lf : Nat) (fl : Int32) (hR : M 14 0 = nI nR) (hR30 : nR ≤ 30) (hf3 : lf < 3) : CT l yX5_scoreOf cX5_scoreOf 5 (some .int) 1 21 0 0 g F [.ref o, .int (nI lf), .int fl] (PM g F o ad M) (fun v9 H9 => v9 = some (.int (mScore M nR lf fl)) ∧ PM g F o ad M H9) := by
  refine CT.of (by decide) rfl ?_
  intro p e s m args below meth c E hr hk hnm hP ls hl
  have hS : va_S (nF F) s.heap s.heap [] := va_S.rf
  have hx := E.1
  have hb := E.2.1
  have hE_ml := E.2.2.1
  have hown := E.2.2.2.1
  have hts := E.2.2.2.2.1
  have hG := E.2.2.2.2.2
  have hl : lv_has ls 5 [(0, .ref o), (1, .int (nI lf)), (2, .int fl)] := hl
  refine lv_iconst (v := 0) hx hb dX5_scoreOf_0 (by decide) ?_
  refine lv_istore_n (lv' := [(3, .int 0), (0, .ref o), (1, .int (nI lf)), (2, .int fl)]) hx hb dX5_scoreOf_1 rfl hl (by decide) rfl (fun ls hl => ?_)
  refine lv_iconst (v := 0) hx hb dX5_scoreOf_2 (by decide) ?_
  refine lv_istore (lv' := [(4, .int 0), (3, .int 0), (0, .ref o), (1, .int (nI lf)), (2, .int fl)]) hx hb dX5_scoreOf_3 hl (by decide) rfl (fun ls hl => ?_)
  have LP : ∀ (n9 i : Nat) (a9 : Int32), i ≤ nR → nR < i + n9 → (a9 = mSn M lf i) → ∀ (H : Heap) (locs : List Loc), va_S (nF F) s.heap H locs → PM g F o ad M H → ∀ (ls : Array Slot), lv_has ls 5 [(0, .ref o), (1, .int (nI lf)), (2, .int fl), (3, .int a9), (4, .int (nI i))] → W p l e { frames := 1, cells := 0, slots := 0, locals := 21 } s m args below meth c H locs 0 0 (MQ below (Qg F (fun v9 H9 => v9 = some (.int (mScore M nR lf fl)) ∧ PM g F o ad M H9)) args s 0 0 (nF F)) (F0 m 5 ls []) := by
    intro n9
    induction n9 with
    | zero => intro i a9 hi9 hn9; exact absurd hn9 (by omega)
    | succ n9 ihLP =>
      intro i a9 hi_LP hn_LP ha H locs hS hP ls hl
      refine lv_iload hx hb dX5_scoreOf_5 (lv_at hl 4 rfl) ?_
      refine lv_aload_n hx hb dX5_scoreOf_7 rfl (lv_at hl 0 rfl) ?_
      refine mg E hP 14 (v := (nI nR)) dX5_scoreOf_8 hR (kk := ?_)
      refine lv_icmp_ge (tgt := 51) hx hb dX5_scoreOf_11 (by decide) (fun c_1 => ?_) (fun c_1 => ?_)
      · have n_c_1 : nR ≤ i := (nI_leI (by omega) (by omega)).mp c_1
        refine lv_aload_n hx hb dX5_scoreOf_51 rfl (lv_at hl 0 rfl) ?_
        refine mga E hP 18 dX5_scoreOf_52 (kk := ?_)
        refine lv_iload_n hx hb dX5_scoreOf_55 rfl (lv_at hl 1 rfl) ?_
        refine mli E hP 18 lf (v := M 18 lf) dX5_scoreOf_56 rfl (show lf < 3 by omega) rfl (kk := ?_)
        refine lv_iload_n hx hb dX5_scoreOf_57 rfl (lv_at hl 2 rfl) ?_
        refine lv_isub hx hb dX5_scoreOf_58 ?_
        refine va_mabs hx hb (hE_ml.trans hl.1.symm) hown (hts _ lk_X5_101) (hts _ st_abs) (hts _ in_J9) (hts _ cd_abs) (by decide) (by decide) (by decide) (by decide) dX5_scoreOf_59 ?_
        refine lv_iconst (v := 2) hx hb dX5_scoreOf_62 (by decide) ?_
        refine lv_iload_n hx hb dX5_scoreOf_63 rfl (lv_at hl 3 rfl) ?_
        refine lv_imul hx hb dX5_scoreOf_64 ?_
        refine lv_iadd hx hb dX5_scoreOf_65 ?_
        have e1 : (mScore M nR lf fl) = (if 0 ≤ ((M 18 lf) - fl) then ((M 18 lf) - fl) else 0 - ((M 18 lf) - fl)) + (2 * a9) := by (have e_i : i = nR := by omega); subst e_i; rw [ha]; rfl
        exact ct_iret E hr hk hS ⟨(by rw [e1]), hP⟩ dX5_scoreOf_66
      · have n_c_1 : i < nR := Nat.lt_of_not_le (fun h9 => c_1 (nI_le h9 (by omega)))
        refine lv_iload_n hx hb dX5_scoreOf_14 rfl (lv_at hl 3 rfl) ?_
        refine lv_aload_n hx hb dX5_scoreOf_15 rfl (lv_at hl 0 rfl) ?_
        refine mga E hP 13 dX5_scoreOf_16 (kk := ?_)
        refine lv_iload hx hb dX5_scoreOf_19 (lv_at hl 4 rfl) ?_
        refine mlc E hP 13 i (v := M 13 i) dX5_scoreOf_21 rfl (show i < 30 by omega) rfl (kk := ?_)
        refine lv_bipush (v := 100) hx hb dX5_scoreOf_22 (by decide) ?_
        refine lv_icmp_eq (tgt := 42) hx hb dX5_scoreOf_24 (by decide) (fun c_2 => ?_) (fun c_2 => ?_)
        · refine lv_iconst (v := 0) hx hb dX5_scoreOf_42 (by decide) ?_
          refine lv_iadd hx hb dX5_scoreOf_43 ?_
          refine lv_istore_n (lv' := [(3, .int (a9 + 0)), (0, .ref o), (1, .int (nI lf)), (2, .int fl), (4, .int (nI i))]) hx hb dX5_scoreOf_44 rfl hl (by decide) rfl (fun ls hl => ?_)
          refine lv_iinc (v := (nI (i + 1))) (lv' := [(4, .int (nI (i + 1))), (3, .int (a9 + 0)), (0, .ref o), (1, .int (nI lf)), (2, .int fl)]) hx hb dX5_scoreOf_45 hl (k := 4) rfl (by rw [nI_succ]; rfl) (by decide) rfl (fun ls hl => ?_)
          refine lv_goto (tgt := 5) hx hb dX5_scoreOf_48 (by decide) ?_
          exact ihLP (i + 1) _ (by omega) (by omega) (by rw [show mSn M lf (i + 1) = mSn M lf i + _ from rfl, ← ha]; simp only [mSn, eq_false c_1, eq_true c_2, if_true, if_false, reduceIte, true_and, and_true, false_and, and_false, true_or, or_true, false_or, or_false, not_true_eq_false, not_false_eq_true, decide_true, decide_false, Bool.true_and, Bool.and_true, Bool.false_and, Bool.and_false, Bool.not_true, Bool.not_false, Bool.or_false, Bool.false_or, Bool.or_true, Bool.true_or]) H locs hS hP ls (lv_sub hl [2, 3, 4, 1, 0] rfl)
        · refine lv_aload_n hx hb dX5_scoreOf_27 rfl (lv_at hl 0 rfl) ?_
          refine mga E hP 10 dX5_scoreOf_28 (kk := ?_)
          refine lv_iload hx hb dX5_scoreOf_31 (lv_at hl 4 rfl) ?_
          refine mli E hP 10 i (v := M 10 i) dX5_scoreOf_33 rfl (show i < 30 by omega) rfl (kk := ?_)
          refine lv_iload_n hx hb dX5_scoreOf_34 rfl (lv_at hl 1 rfl) ?_
          refine lv_icmp_ne (tgt := 42) hx hb dX5_scoreOf_35 (by decide) (fun c_3 => ?_) (fun c_3 => ?_)
          · refine lv_iconst (v := 0) hx hb dX5_scoreOf_42 (by decide) ?_
            refine lv_iadd hx hb dX5_scoreOf_43 ?_
            refine lv_istore_n (lv' := [(3, .int (a9 + 0)), (0, .ref o), (1, .int (nI lf)), (2, .int fl), (4, .int (nI i))]) hx hb dX5_scoreOf_44 rfl hl (by decide) rfl (fun ls hl => ?_)
            refine lv_iinc (v := (nI (i + 1))) (lv' := [(4, .int (nI (i + 1))), (3, .int (a9 + 0)), (0, .ref o), (1, .int (nI lf)), (2, .int fl)]) hx hb dX5_scoreOf_45 hl (k := 4) rfl (by rw [nI_succ]; rfl) (by decide) rfl (fun ls hl => ?_)
            refine lv_goto (tgt := 5) hx hb dX5_scoreOf_48 (by decide) ?_
            exact ihLP (i + 1) _ (by omega) (by omega) (by rw [show mSn M lf (i + 1) = mSn M lf i + _ from rfl, ← ha]; simp only [mSn, eq_false c_1, eq_false c_2, eq_false c_3, if_true, if_false, reduceIte, true_and, and_true, false_and, and_false, true_or, or_true, false_or, or_false, not_true_eq_false, not_false_eq_true, decide_true, decide_false, Bool.true_and, Bool.and_true, Bool.false_and, Bool.and_false, Bool.not_true, Bool.not_false, Bool.or_false, Bool.false_or, Bool.or_true, Bool.true_or]) H locs hS hP ls (lv_sub hl [2, 3, 4, 1, 0] rfl)
          · refine lv_iconst (v := 1) hx hb dX5_scoreOf_38 (by decide) ?_
            refine lv_goto (tgt := 43) hx hb dX5_scoreOf_39 (by decide) ?_
            refine lv_iadd hx hb dX5_scoreOf_43 ?_
            refine lv_istore_n (lv' := [(3, .int (a9 + 1)), (0, .ref o), (1, .int (nI lf)), (2, .int fl), (4, .int (nI i))]) hx hb dX5_scoreOf_44 rfl hl (by decide) rfl (fun ls hl => ?_)
            refine lv_iinc (v := (nI (i + 1))) (lv' := [(4, .int (nI (i + 1))), (3, .int (a9 + 1)), (0, .ref o), (1, .int (nI lf)), (2, .int fl)]) hx hb dX5_scoreOf_45 hl (k := 4) rfl (by rw [nI_succ]; rfl) (by decide) rfl (fun ls hl => ?_)
            refine lv_goto (tgt := 5) hx hb dX5_scoreOf_48 (by decide) ?_
            exact ihLP (i + 1) _ (by omega) (by omega) (by rw [show mSn M lf (i + 1) = mSn M lf i + _ from rfl, ← ha]; simp only [mSn, eq_false c_1, eq_false c_2, eq_true c_3, if_true, if_false, reduceIte, true_and, and_true, false_and, and_false, true_or, or_true, false_or, or_false, not_true_eq_false, not_false_eq_true, decide_true, decide_false, Bool.true_and, Bool.and_true, Bool.false_and, Bool.and_false, Bool.not_true, Bool.not_false, Bool.or_false, Bool.false_or, Bool.or_true, Bool.true_or]) H locs hS hP ls (lv_sub hl [2, 3, 4, 1, 0] rfl)
  exact LP (nR + 1) 0 0 (Nat.zero_le _) (by omega) rfl _ _ hS hP ls (lv_sub hl [2, 3, 4, 1, 0] rfl)

set_option maxHeartbeats 4000000 in
set_option maxRecDepth 100000 in
theorem c_X5_gives (l : Launch) (g : cG) (F : Nat → Prop) (o : Nat) (ad : Nat → Nat) (M : TT) (nR nL r : Nat) (hR : M 14 0 = nI nR) (hR30 : nR ≤ 30) (hL : M 22 0 = nI nL) (hL3 : nL ≤ 3) (hr30 : r < 30) : CT l yX5_gives cX5_gives 4 none 2 45 0 0 g F [.ref o, .int (nI r)] (PM g F o ad M) (fun v9 H9 => v9 = none ∧ PM g F o ad (mGives M nR nL r) H9) := by
  refine CT.of (by decide) rfl ?_
  intro p e s m args below meth c E hr hk hnm hP ls hl
  have hS : va_S (nF F) s.heap s.heap [] := va_S.rf
  have hx := E.1
  have hb := E.2.1
  have hE_ml := E.2.2.1
  have hown := E.2.2.2.1
  have hts := E.2.2.2.2.1
  have hG := E.2.2.2.2.2
  have hl : lv_has ls 4 [(0, .ref o), (1, .int (nI r))] := hl
  refine lv_iconst (v := (-1)) hx hb dX5_gives_0 (by decide) ?_
  refine lv_istore_n (lv' := [(2, .int (-1)), (0, .ref o), (1, .int (nI r))]) hx hb dX5_gives_1 rfl hl (by decide) rfl (fun ls hl => ?_)
  refine lv_iconst (v := 0) hx hb dX5_gives_2 (by decide) ?_
  refine lv_istore_n (lv' := [(3, .int 0), (2, .int (-1)), (0, .ref o), (1, .int (nI r))]) hx hb dX5_gives_3 rfl hl (by decide) rfl (fun ls hl => ?_)
  have LP : ∀ (n9 i : Nat) (bo : Option Nat), i ≤ nL → nL < i + n9 → (bo = mBst M nR (M 8 r) i) → (∀ b, bo = some b → b < i) → ∀ (H : Heap) (locs : List Loc), va_S (nF F) s.heap H locs → PM g F o ad M H → ∀ (ls : Array Slot), lv_has ls 4 [(0, .ref o), (1, .int (nI r)), (2, .int (oI bo)), (3, .int (nI i))] → W p l e { frames := 2, cells := 0, slots := 0, locals := 45 } s m args below meth c H locs 0 0 (MQ below (Qg F (fun v9 H9 => v9 = none ∧ PM g F o ad (mGives M nR nL r) H9)) args s 0 0 (nF F)) (F0 m 4 ls []) := by
    intro n9
    induction n9 with
    | zero => intro i bo hi9 hn9; exact absurd hn9 (by omega)
    | succ n9 ihLP =>
      intro i bo hi_LP hn_LP hbo hbl H locs hS hP ls hl
      refine lv_iload_n hx hb dX5_gives_4 rfl (lv_at hl 3 rfl) ?_
      refine lv_aload_n hx hb dX5_gives_5 rfl (lv_at hl 0 rfl) ?_
      refine mg E hP 22 (v := (nI nL)) dX5_gives_6 hL (kk := ?_)
      refine lv_icmp_ge (tgt := 60) hx hb dX5_gives_9 (by decide) (fun c_1 => ?_) (fun c_1 => ?_)
      · have n_c_1 : nL ≤ i := (nI_leI (by omega) (by omega)).mp c_1
        refine lv_aload_n hx hb dX5_gives_60 rfl (lv_at hl 0 rfl) ?_
        refine mga E hP 10 dX5_gives_61 (kk := ?_)
        refine lv_iload_n hx hb dX5_gives_64 rfl (lv_at hl 1 rfl) ?_
        refine lv_iload_n hx hb dX5_gives_65 rfl (lv_at hl 2 rfl) ?_
        refine msi E hS hP 10 r dX5_gives_66 rfl (show r < 30 by omega) (kk := fun H locs hS hP => ?_)
        have e2 : (mGives M nR nL r) = (tu M 10 r (oI bo)) := by rw [mGives, show nL = i by omega, ← hbo]
        exact ct_vret E hr hk hS ⟨rfl, (by rw [e2]; exact hP)⟩ dX5_gives_67
      · have n_c_1 : i < nL := Nat.lt_of_not_le (fun h9 => c_1 (nI_le h9 (by omega)))
        refine lv_aload_n hx hb dX5_gives_12 rfl (lv_at hl 0 rfl) ?_
        refine mga E hP 20 dX5_gives_13 (kk := ?_)
        refine lv_iload_n hx hb dX5_gives_16 rfl (lv_at hl 3 rfl) ?_
        refine mlc E hP 20 i (v := M 20 i) dX5_gives_17 rfl (show i < 3 by omega) rfl (kk := ?_)
        refine lv_bipush (v := 115) hx hb dX5_gives_18 (by decide) ?_
        refine lv_icmp_ne (tgt := 54) hx hb dX5_gives_20 (by decide) (fun c_2 => ?_) (fun c_2 => ?_)
        · refine lv_iinc (v := (nI (i + 1))) (lv' := [(3, .int (nI (i + 1))), (0, .ref o), (1, .int (nI r)), (2, .int (oI bo))]) hx hb dX5_gives_54 hl (k := 3) rfl (by rw [nI_succ]; rfl) (by decide) rfl (fun ls hl => ?_)
          refine lv_goto (tgt := 4) hx hb dX5_gives_57 (by decide) ?_
          exact ihLP (i + 1) bo (by omega) (by omega) (by simp only [mBst, ← hbo, eq_false c_1, eq_false c_2, if_true, if_false, reduceIte, true_and, and_true, false_and, and_false, true_or, or_true, false_or, or_false, not_true_eq_false, not_false_eq_true, decide_true, decide_false, Bool.true_and, Bool.and_true, Bool.false_and, Bool.and_false, Bool.not_true, Bool.not_false, Bool.or_false, Bool.false_or, Bool.or_true, Bool.true_or]) (fun b hb9 => Nat.lt_succ_of_lt (hbl b hb9)) H locs hS hP ls (lv_sub hl [1, 2, 3, 0] rfl)
        · rcases bo with _ | b0
          · have hl : lv_has ls 4 [(0, .ref o), (1, .int (nI r)), (2, .int (-1)), (3, .int (nI i))] := hl
            refine lv_iload_n hx hb dX5_gives_23 rfl (lv_at hl 2 rfl) ?_
            refine lv_if_lt (tgt := 52) hx hb dX5_gives_24 (by decide) (fun c_3 => ?_) (fun c_3 => ?_)
            · refine lv_iload_n hx hb dX5_gives_52 rfl (lv_at hl 3 rfl) ?_
              refine lv_istore_n (lv' := [(2, .int (nI i)), (0, .ref o), (1, .int (nI r)), (3, .int (nI i))]) hx hb dX5_gives_53 rfl hl (by decide) rfl (fun ls hl => ?_)
              refine lv_iinc (v := (nI (i + 1))) (lv' := [(3, .int (nI (i + 1))), (2, .int (nI i)), (0, .ref o), (1, .int (nI r))]) hx hb dX5_gives_54 hl (k := 3) rfl (by rw [nI_succ]; rfl) (by decide) rfl (fun ls hl => ?_)
              refine lv_goto (tgt := 4) hx hb dX5_gives_57 (by decide) ?_
              exact ihLP (i + 1) (some i) (by omega) (by omega) (by simp only [mBst, ← hbo, eq_false c_1, eq_true c_2, eq_true c_3, if_true, if_false, reduceIte, true_and, and_true, false_and, and_false, true_or, or_true, false_or, or_false, not_true_eq_false, not_false_eq_true, decide_true, decide_false, Bool.true_and, Bool.and_true, Bool.false_and, Bool.and_false, Bool.not_true, Bool.not_false, Bool.or_false, Bool.false_or, Bool.or_true, Bool.true_or]) (fun b hb9 => by cases hb9; omega) H locs hS hP ls (lv_sub hl [2, 3, 1, 0] rfl)
            · exact absurd (by decide : (-1 : Int32) < (0)) c_3
          · have hl : lv_has ls 4 [(0, .ref o), (1, .int (nI r)), (2, .int (nI b0)), (3, .int (nI i))] := hl
            have hb0 : b0 < i := hbl b0 rfl
            refine lv_iload_n hx hb dX5_gives_23 rfl (lv_at hl 2 rfl) ?_
            refine lv_if_lt (tgt := 52) hx hb dX5_gives_24 (by decide) (fun c_4 => ?_) (fun c_4 => ?_)
            · exact absurd c_4 (nI_pos (by omega))
            · refine lv_aload_n hx hb dX5_gives_27 rfl (lv_at hl 0 rfl) ?_
              refine lv_iload_n hx hb dX5_gives_28 rfl (lv_at hl 3 rfl) ?_
              refine lv_aload_n hx hb dX5_gives_29 rfl (lv_at hl 0 rfl) ?_
              refine mga E hP 8 dX5_gives_30 (kk := ?_)
              refine lv_iload_n hx hb dX5_gives_33 rfl (lv_at hl 1 rfl) ?_
              refine mli E hP 8 r (v := M 8 r) dX5_gives_34 rfl (show r < 30 by omega) rfl (kk := ?_)
              refine ct_V E hS (c_X5_scoreOf l g F o ad M nR i (M 8 r) hR (by omega) (by omega)) ok_X5_scoreOf lk_X5_106 hP (PM.recv hG hP) rfl hl ⟨rfl, rfl⟩ rfl ⟨Nat.le_refl _, Nat.le_refl _⟩ dX5_gives_35 rfl (fun v9 H locs hv9 hS hz9 => ?_)
              obtain ⟨rfl, hP⟩ := hv9
              refine lv_aload_n hx hb dX5_gives_38 rfl (lv_at hl 0 rfl) ?_
              refine lv_iload_n hx hb dX5_gives_39 rfl (lv_at hl 2 rfl) ?_
              refine lv_aload_n hx hb dX5_gives_40 rfl (lv_at hl 0 rfl) ?_
              refine mga E hP 8 dX5_gives_41 (kk := ?_)
              refine lv_iload_n hx hb dX5_gives_44 rfl (lv_at hl 1 rfl) ?_
              refine mli E hP 8 r (v := M 8 r) dX5_gives_45 rfl (show r < 30 by omega) rfl (kk := ?_)
              refine ct_V E hS (c_X5_scoreOf l g F o ad M nR b0 (M 8 r) hR (by omega) (by omega)) ok_X5_scoreOf lk_X5_106 hP (PM.recv hG hP) rfl hl ⟨rfl, rfl⟩ rfl ⟨Nat.le_refl _, Nat.le_refl _⟩ dX5_gives_46 rfl (fun v9 H locs hv9 hS hz9 => ?_)
              obtain ⟨rfl, hP⟩ := hv9
              refine lv_icmp_ge (tgt := 54) hx hb dX5_gives_49 (by decide) (fun c_5 => ?_) (fun c_5 => ?_)
              · refine lv_iinc (v := (nI (i + 1))) (lv' := [(3, .int (nI (i + 1))), (0, .ref o), (1, .int (nI r)), (2, .int (nI b0))]) hx hb dX5_gives_54 hl (k := 3) rfl (by rw [nI_succ]; rfl) (by decide) rfl (fun ls hl => ?_)
                refine lv_goto (tgt := 4) hx hb dX5_gives_57 (by decide) ?_
                exact ihLP (i + 1) (some b0) (by omega) (by omega) (by simp only [mBst, ← hbo, eq_false c_1, eq_true c_2, eq_false c_4, eq_true c_5, if_true, if_false, reduceIte, true_and, and_true, false_and, and_false, true_or, or_true, false_or, or_false, not_true_eq_false, not_false_eq_true, decide_true, decide_false, Bool.true_and, Bool.and_true, Bool.false_and, Bool.and_false, Bool.not_true, Bool.not_false, Bool.or_false, Bool.false_or, Bool.or_true, Bool.true_or]) (fun b hb9 => by cases hb9; omega) H locs hS hP ls (lv_sub hl [1, 2, 3, 0] rfl)
              · refine lv_iload_n hx hb dX5_gives_52 rfl (lv_at hl 3 rfl) ?_
                refine lv_istore_n (lv' := [(2, .int (nI i)), (0, .ref o), (1, .int (nI r)), (3, .int (nI i))]) hx hb dX5_gives_53 rfl hl (by decide) rfl (fun ls hl => ?_)
                refine lv_iinc (v := (nI (i + 1))) (lv' := [(3, .int (nI (i + 1))), (2, .int (nI i)), (0, .ref o), (1, .int (nI r))]) hx hb dX5_gives_54 hl (k := 3) rfl (by rw [nI_succ]; rfl) (by decide) rfl (fun ls hl => ?_)
                refine lv_goto (tgt := 4) hx hb dX5_gives_57 (by decide) ?_
                exact ihLP (i + 1) (some i) (by omega) (by omega) (by simp only [mBst, ← hbo, eq_false c_1, eq_true c_2, eq_false c_4, eq_false c_5, if_true, if_false, reduceIte, true_and, and_true, false_and, and_false, true_or, or_true, false_or, or_false, not_true_eq_false, not_false_eq_true, decide_true, decide_false, Bool.true_and, Bool.and_true, Bool.false_and, Bool.and_false, Bool.not_true, Bool.not_false, Bool.or_false, Bool.false_or, Bool.or_true, Bool.true_or]) (fun b hb9 => by cases hb9; omega) H locs hS hP ls (lv_sub hl [2, 3, 1, 0] rfl)
  exact LP (nL + 1) 0 none (Nat.zero_le _) (by omega) rfl (fun b hb9 => by cases hb9) _ _ hS hP ls (lv_sub hl [2, 3, 1, 0] rfl)

set_option maxHeartbeats 4000000 in
set_option maxRecDepth 100000 in
theorem c_X5_ends (l : Launch) (g : cG) (F : Nat → Prop) (o : Nat) (ad : Nat → Nat) (M : TT) (r : Nat) (f : Int32) (hr30 : r < 30) : CT l yX5_ends cX5_ends 3 none 0 0 0 0 g F [.ref o, .int (nI r), .int f] (PM g F o ad M) (fun v9 H9 => v9 = none ∧ PM g F o ad (mEnds M r f) H9) := by
  refine CT.of (by decide) rfl ?_
  intro p e s m args below meth c E hr hk hnm hP ls hl
  have hS : va_S (nF F) s.heap s.heap [] := va_S.rf
  have hx := E.1
  have hb := E.2.1
  have hE_ml := E.2.2.1
  have hown := E.2.2.2.1
  have hts := E.2.2.2.2.1
  have hG := E.2.2.2.2.2
  have hl : lv_has ls 3 [(0, .ref o), (1, .int (nI r)), (2, .int f)] := hl
  refine lv_aload_n hx hb dX5_ends_0 rfl (lv_at hl 0 rfl) ?_
  refine mga E hP 13 dX5_ends_1 (kk := ?_)
  refine lv_iload_n hx hb dX5_ends_4 rfl (lv_at hl 1 rfl) ?_
  refine mlc E hP 13 r (v := M 13 r) dX5_ends_5 rfl (show r < 30 by omega) rfl (kk := ?_)
  refine lv_bipush (v := 119) hx hb dX5_ends_6 (by decide) ?_
  refine lv_icmp_ne (tgt := 21) hx hb dX5_ends_8 (by decide) (fun c_1 => ?_) (fun c_1 => ?_)
  · refine lv_aload_n hx hb dX5_ends_21 rfl (lv_at hl 0 rfl) ?_
    refine mga E hP 13 dX5_ends_22 (kk := ?_)
    refine lv_iload_n hx hb dX5_ends_25 rfl (lv_at hl 1 rfl) ?_
    refine lv_bipush (v := 100) hx hb dX5_ends_26 (by decide) ?_
    refine msc E hS hP 13 r dX5_ends_28 rfl (show r < 30 by omega) (by decide) (kk := fun H locs hS hP => ?_)
    refine lv_aload_n hx hb dX5_ends_29 rfl (lv_at hl 0 rfl) ?_
    refine mga E hP 8 dX5_ends_30 (kk := ?_)
    refine lv_iload_n hx hb dX5_ends_33 rfl (lv_at hl 1 rfl) ?_
    refine lv_iload_n hx hb dX5_ends_34 rfl (lv_at hl 2 rfl) ?_
    refine msi E hS hP 8 r dX5_ends_35 rfl (show r < 30 by omega) (kk := fun H locs hS hP => ?_)
    refine lv_aload_n hx hb dX5_ends_36 rfl (lv_at hl 0 rfl) ?_
    refine mga E hP 10 dX5_ends_37 (kk := ?_)
    refine lv_iload_n hx hb dX5_ends_40 rfl (lv_at hl 1 rfl) ?_
    refine lv_iconst (v := (-1)) hx hb dX5_ends_41 (by decide) ?_
    refine msi E hS hP 10 r dX5_ends_42 rfl (show r < 30 by omega) (kk := fun H locs hS hP => ?_)
    refine lv_aload_n hx hb dX5_ends_43 rfl (lv_at hl 0 rfl) ?_
    refine lv_dup hx hb dX5_ends_44 rfl ?_
    refine mg E hP 15 (v := M 15 0) dX5_ends_45 (by simp [tu]) (kk := ?_)
    refine lv_iconst (v := 1) hx hb dX5_ends_48 (by decide) ?_
    refine lv_iadd hx hb dX5_ends_49 ?_
    refine mp E hS hP 15 dX5_ends_50 rfl (kk := fun H locs hS hP => ?_)
    refine lv_aload_n hx hb dX5_ends_53 rfl (lv_at hl 0 rfl) ?_
    refine lv_dup hx hb dX5_ends_54 rfl ?_
    refine mg E hP 16 (v := M 16 0) dX5_ends_55 (by simp [tu]) (kk := ?_)
    refine lv_iconst (v := 1) hx hb dX5_ends_58 (by decide) ?_
    refine lv_iadd hx hb dX5_ends_59 ?_
    refine mp E hS hP 16 dX5_ends_60 rfl (kk := fun H locs hS hP => ?_)
    have e2 : (mEnds M r f) = (tu (tu (tu (tu (tu M 13 r 100) 8 r f) 10 r (-1)) 15 0 ((M 15 0) + 1)) 16 0 ((M 16 0) + 1)) := by simp only [mEnds, eq_false c_1, if_true, if_false, reduceIte, true_and, and_true, false_and, and_false, true_or, or_true, false_or, or_false, not_true_eq_false, not_false_eq_true, decide_true, decide_false, Bool.true_and, Bool.and_true, Bool.false_and, Bool.and_false, Bool.not_true, Bool.not_false, Bool.or_false, Bool.false_or, Bool.or_true, Bool.true_or]
    exact ct_vret E hr hk hS ⟨rfl, (by rw [e2]; exact hP)⟩ dX5_ends_63
  · refine lv_aload_n hx hb dX5_ends_11 rfl (lv_at hl 0 rfl) ?_
    refine mga E hP 12 dX5_ends_12 (kk := ?_)
    refine lv_iload_n hx hb dX5_ends_15 rfl (lv_at hl 1 rfl) ?_
    refine lv_aload_n hx hb dX5_ends_16 rfl (lv_at hl 0 rfl) ?_
    refine mg E hP 23 (v := M 23 0) dX5_ends_17 rfl (kk := ?_)
    refine msi E hS hP 12 r dX5_ends_20 rfl (show r < 30 by omega) (kk := fun H locs hS hP => ?_)
    refine lv_aload_n hx hb dX5_ends_21 rfl (lv_at hl 0 rfl) ?_
    refine mga E hP 13 dX5_ends_22 (kk := ?_)
    refine lv_iload_n hx hb dX5_ends_25 rfl (lv_at hl 1 rfl) ?_
    refine lv_bipush (v := 100) hx hb dX5_ends_26 (by decide) ?_
    refine msc E hS hP 13 r dX5_ends_28 rfl (show r < 30 by omega) (by decide) (kk := fun H locs hS hP => ?_)
    refine lv_aload_n hx hb dX5_ends_29 rfl (lv_at hl 0 rfl) ?_
    refine mga E hP 8 dX5_ends_30 (kk := ?_)
    refine lv_iload_n hx hb dX5_ends_33 rfl (lv_at hl 1 rfl) ?_
    refine lv_iload_n hx hb dX5_ends_34 rfl (lv_at hl 2 rfl) ?_
    refine msi E hS hP 8 r dX5_ends_35 rfl (show r < 30 by omega) (kk := fun H locs hS hP => ?_)
    refine lv_aload_n hx hb dX5_ends_36 rfl (lv_at hl 0 rfl) ?_
    refine mga E hP 10 dX5_ends_37 (kk := ?_)
    refine lv_iload_n hx hb dX5_ends_40 rfl (lv_at hl 1 rfl) ?_
    refine lv_iconst (v := (-1)) hx hb dX5_ends_41 (by decide) ?_
    refine msi E hS hP 10 r dX5_ends_42 rfl (show r < 30 by omega) (kk := fun H locs hS hP => ?_)
    refine lv_aload_n hx hb dX5_ends_43 rfl (lv_at hl 0 rfl) ?_
    refine lv_dup hx hb dX5_ends_44 rfl ?_
    refine mg E hP 15 (v := M 15 0) dX5_ends_45 (by simp [tu]) (kk := ?_)
    refine lv_iconst (v := 1) hx hb dX5_ends_48 (by decide) ?_
    refine lv_iadd hx hb dX5_ends_49 ?_
    refine mp E hS hP 15 dX5_ends_50 rfl (kk := fun H locs hS hP => ?_)
    refine lv_aload_n hx hb dX5_ends_53 rfl (lv_at hl 0 rfl) ?_
    refine lv_dup hx hb dX5_ends_54 rfl ?_
    refine mg E hP 16 (v := M 16 0) dX5_ends_55 (by simp [tu]) (kk := ?_)
    refine lv_iconst (v := 1) hx hb dX5_ends_58 (by decide) ?_
    refine lv_iadd hx hb dX5_ends_59 ?_
    refine mp E hS hP 16 dX5_ends_60 rfl (kk := fun H locs hS hP => ?_)
    have e2 : (mEnds M r f) = (tu (tu (tu (tu (tu (tu M 12 r (M 23 0)) 13 r 100) 8 r f) 10 r (-1)) 15 0 ((M 15 0) + 1)) 16 0 ((M 16 0) + 1)) := by simp only [mEnds, eq_true c_1, if_true, if_false, reduceIte, true_and, and_true, false_and, and_false, true_or, or_true, false_or, or_false, not_true_eq_false, not_false_eq_true, decide_true, decide_false, Bool.true_and, Bool.and_true, Bool.false_and, Bool.and_false, Bool.not_true, Bool.not_false, Bool.or_false, Bool.false_or, Bool.or_true, Bool.true_or]
    exact ct_vret E hr hk hS ⟨rfl, (by rw [e2]; exact hP)⟩ dX5_ends_63

set_option maxHeartbeats 4000000 in
set_option maxRecDepth 100000 in
theorem c_X5_isOut (l : Launch) (g : cG) (F : Nat → Prop) (o : Nat) (ad : Nat → Nat) (M : TT) (nR b : Nat) (hR : M 14 0 = nI nR) (hR30 : nR ≤ 30) : CT l yX5_isOut cX5_isOut 3 (some .boolean) 0 0 0 0 g F [.ref o, .int (nI b)] (PM g F o ad M) (fun v9 H9 => v9 = some (.int (b2i (mIsOut M b nR = true))) ∧ PM g F o ad M H9) := by
  refine CT.of (by decide) rfl ?_
  intro p e s m args below meth c E hr hk hnm hP ls hl
  have hS : va_S (nF F) s.heap s.heap [] := va_S.rf
  have hx := E.1
  have hb := E.2.1
  have hE_ml := E.2.2.1
  have hown := E.2.2.2.1
  have hts := E.2.2.2.2.1
  have hG := E.2.2.2.2.2
  have hl : lv_has ls 3 [(0, .ref o), (1, .int (nI b))] := hl
  refine lv_iconst (v := 0) hx hb dX5_isOut_0 (by decide) ?_
  refine lv_istore_n (lv' := [(2, .int 0), (0, .ref o), (1, .int (nI b))]) hx hb dX5_isOut_1 rfl hl (by decide) rfl (fun ls hl => ?_)
  have LP : ∀ (n9 i : Nat) , i ≤ nR → nR < i + n9 → (exB (fun r => decide (M 7 r = nI b) && !decide (M 13 r = 100)) i = false) → ∀ (H : Heap) (locs : List Loc), va_S (nF F) s.heap H locs → PM g F o ad M H → ∀ (ls : Array Slot), lv_has ls 3 [(0, .ref o), (1, .int (nI b)), (2, .int (nI i))] → W p l e { frames := 0, cells := 0, slots := 0, locals := 0 } s m args below meth c H locs 0 0 (MQ below (Qg F (fun v9 H9 => v9 = some (.int (b2i (mIsOut M b nR = true))) ∧ PM g F o ad M H9)) args s 0 0 (nF F)) (F0 m 2 ls []) := by
    intro n9
    induction n9 with
    | zero => intro i  hi9 hn9; exact absurd hn9 (by omega)
    | succ n9 ihLP =>
      intro i  hi_LP hn_LP hno H locs hS hP ls hl
      refine lv_iload_n hx hb dX5_isOut_2 rfl (lv_at hl 2 rfl) ?_
      refine lv_aload_n hx hb dX5_isOut_3 rfl (lv_at hl 0 rfl) ?_
      refine mg E hP 14 (v := (nI nR)) dX5_isOut_4 hR (kk := ?_)
      refine lv_icmp_ge (tgt := 39) hx hb dX5_isOut_7 (by decide) (fun c_1 => ?_) (fun c_1 => ?_)
      · have n_c_1 : nR ≤ i := (nI_leI (by omega) (by omega)).mp c_1
        refine lv_iconst (v := 0) hx hb dX5_isOut_39 (by decide) ?_
        have e1 : (b2i (mIsOut M b nR = true)) = 0 := by exact b2i_f (by rw [mIsOut, show nR = i by omega, hno]; decide)
        exact ct_zret E hr (by decide) hk hS ⟨(by rw [e1]), hP⟩ dX5_isOut_40
      · have n_c_1 : i < nR := Nat.lt_of_not_le (fun h9 => c_1 (nI_le h9 (by omega)))
        refine lv_aload_n hx hb dX5_isOut_10 rfl (lv_at hl 0 rfl) ?_
        refine mga E hP 7 dX5_isOut_11 (kk := ?_)
        refine lv_iload_n hx hb dX5_isOut_14 rfl (lv_at hl 2 rfl) ?_
        refine mli E hP 7 i (v := M 7 i) dX5_isOut_15 rfl (show i < 30 by omega) rfl (kk := ?_)
        refine lv_iload_n hx hb dX5_isOut_16 rfl (lv_at hl 1 rfl) ?_
        refine lv_icmp_ne (tgt := 33) hx hb dX5_isOut_17 (by decide) (fun c_2 => ?_) (fun c_2 => ?_)
        · refine lv_iinc (v := (nI (i + 1))) (lv' := [(2, .int (nI (i + 1))), (0, .ref o), (1, .int (nI b))]) hx hb dX5_isOut_33 hl (k := 2) rfl (by rw [nI_succ]; rfl) (by decide) rfl (fun ls hl => ?_)
          refine lv_goto (tgt := 2) hx hb dX5_isOut_36 (by decide) ?_
          exact ihLP (i + 1) (by omega) (by omega) (by simp only [exB, hno, eq_false c_1, eq_false c_2, if_true, if_false, reduceIte, true_and, and_true, false_and, and_false, true_or, or_true, false_or, or_false, not_true_eq_false, not_false_eq_true, decide_true, decide_false, Bool.true_and, Bool.and_true, Bool.false_and, Bool.and_false, Bool.not_true, Bool.not_false, Bool.or_false, Bool.false_or, Bool.or_true, Bool.true_or]) H locs hS hP ls (lv_sub hl [1, 2, 0] rfl)
        · refine lv_aload_n hx hb dX5_isOut_20 rfl (lv_at hl 0 rfl) ?_
          refine mga E hP 13 dX5_isOut_21 (kk := ?_)
          refine lv_iload_n hx hb dX5_isOut_24 rfl (lv_at hl 2 rfl) ?_
          refine mlc E hP 13 i (v := M 13 i) dX5_isOut_25 rfl (show i < 30 by omega) rfl (kk := ?_)
          refine lv_bipush (v := 100) hx hb dX5_isOut_26 (by decide) ?_
          refine lv_icmp_eq (tgt := 33) hx hb dX5_isOut_28 (by decide) (fun c_3 => ?_) (fun c_3 => ?_)
          · refine lv_iinc (v := (nI (i + 1))) (lv' := [(2, .int (nI (i + 1))), (0, .ref o), (1, .int (nI b))]) hx hb dX5_isOut_33 hl (k := 2) rfl (by rw [nI_succ]; rfl) (by decide) rfl (fun ls hl => ?_)
            refine lv_goto (tgt := 2) hx hb dX5_isOut_36 (by decide) ?_
            exact ihLP (i + 1) (by omega) (by omega) (by simp only [exB, hno, eq_false c_1, eq_true c_2, eq_true c_3, if_true, if_false, reduceIte, true_and, and_true, false_and, and_false, true_or, or_true, false_or, or_false, not_true_eq_false, not_false_eq_true, decide_true, decide_false, Bool.true_and, Bool.and_true, Bool.false_and, Bool.and_false, Bool.not_true, Bool.not_false, Bool.or_false, Bool.false_or, Bool.or_true, Bool.true_or]) H locs hS hP ls (lv_sub hl [1, 2, 0] rfl)
          · refine lv_iconst (v := 1) hx hb dX5_isOut_31 (by decide) ?_
            have e1 : (b2i (mIsOut M b nR = true)) = 1 := by exact b2i_t (exB_of (i := i) (by omega) (by simp only [eq_false c_1, eq_true c_2, eq_false c_3, if_true, if_false, reduceIte, true_and, and_true, false_and, and_false, true_or, or_true, false_or, or_false, not_true_eq_false, not_false_eq_true, decide_true, decide_false, Bool.true_and, Bool.and_true, Bool.false_and, Bool.and_false, Bool.not_true, Bool.not_false, Bool.or_false, Bool.false_or, Bool.or_true, Bool.true_or]))
            exact ct_zret E hr (by decide) hk hS ⟨(by rw [e1]), hP⟩ dX5_isOut_32
  exact LP (nR + 1) 0 (Nat.zero_le _) (by omega) rfl _ _ hS hP ls (lv_sub hl [1, 2, 0] rfl)

set_option maxHeartbeats 4000000 in
set_option maxRecDepth 100000 in
theorem c_X5_call (l : Launch) (g : cG) (F : Nat → Prop) (o : Nat) (ad : Nat → Nat) (M : TT) (nB nR nL : Nat) (x y z : Int32) (hB : M 6 0 = nI nB) (hB8 : nB ≤ 8) (hR : M 14 0 = nI nR) (hR30 : nR ≤ 30) (hL : M 22 0 = nI nL) (hL3 : nL ≤ 3) : CT l yX5_call cX5_call 5 (some .int) 3 68 0 0 g F [.ref o, .int x, .int y, .int z] (PM g F o ad M) (fun v9 H9 => v9 = some (.int ((mCall M nB nR nL x y z).1)) ∧ PM g F o ad ((mCall M nB nR nL x y z).2) H9) := by
  refine CT.of (by decide) rfl ?_
  intro p e s m args below meth c E hr hk hnm hP ls hl
  have hS : va_S (nF F) s.heap s.heap [] := va_S.rf
  have hx := E.1
  have hb := E.2.1
  have hE_ml := E.2.2.1
  have hown := E.2.2.2.1
  have hts := E.2.2.2.2.1
  have hG := E.2.2.2.2.2
  have hl : lv_has ls 5 [(0, .ref o), (1, .int x), (2, .int y), (3, .int z)] := hl
  refine lv_aload_n hx hb dX5_call_0 rfl (lv_at hl 0 rfl) ?_
  refine lv_iconst (v := 0) hx hb dX5_call_1 (by decide) ?_
  refine mp E hS hP 0 dX5_call_2 rfl (kk := fun H locs hS hP => ?_)
  refine lv_aload_n hx hb dX5_call_5 rfl (lv_at hl 0 rfl) ?_
  refine lv_iload_n hx hb dX5_call_6 rfl (lv_at hl 1 rfl) ?_
  refine ct_V E hS (c_X5_isBadge l g F o ad (tu M 0 0 0) x (nI nB) (by simp [tu, hB])) ok_X5_isBadge lk_X5_84 hP (PM.recv hG hP) rfl hl ⟨rfl, rfl⟩ rfl ⟨Nat.le_refl _, Nat.le_refl _⟩ dX5_call_7 rfl (fun v9 H locs hv9 hS hz9 => ?_)
  obtain ⟨rfl, hP⟩ := hv9
  refine bz_eq (tgt := 27) hx hb dX5_call_10 (by decide) (fun c_1 => ?_) (fun c_1 => ?_)
  · refine lv_aload_n hx hb dX5_call_27 rfl (lv_at hl 0 rfl) ?_
    refine lv_iconst (v := 1) hx hb dX5_call_28 (by decide) ?_
    refine ct_V E hS (c_X5_fails l g F o ad (tu M 0 0 0) 1) ok_X5_fails lk_X5_80 hP (PM.recv hG hP) rfl hl ⟨rfl, rfl⟩ rfl ⟨Nat.le_refl _, Nat.le_refl _⟩ dX5_call_29 rfl (fun v9 H locs hv9 hS hz9 => ?_)
    obtain ⟨rfl, hP⟩ := hv9
    have e1 : ((mCall M nB nR nL x y z).1) = 0 := by simp only [mCall, mF, mCall0, eq_false c_1, if_true, if_false, reduceIte, true_and, and_true, false_and, and_false, true_or, or_true, false_or, or_false, not_true_eq_false, not_false_eq_true, decide_true, decide_false, Bool.true_and, Bool.and_true, Bool.false_and, Bool.and_false, Bool.not_true, Bool.not_false, Bool.or_false, Bool.false_or, Bool.or_true, Bool.true_or]
    have e2 : ((mCall M nB nR nL x y z).2) = (tu (tu M 0 0 0) 0 0 1) := by simp only [mCall, mF, mCall0, eq_false c_1, if_true, if_false, reduceIte, true_and, and_true, false_and, and_false, true_or, or_true, false_or, or_false, not_true_eq_false, not_false_eq_true, decide_true, decide_false, Bool.true_and, Bool.and_true, Bool.false_and, Bool.and_false, Bool.not_true, Bool.not_false, Bool.or_false, Bool.false_or, Bool.or_true, Bool.true_or]
    exact ct_iret E hr hk hS ⟨(by rw [e1]), (by rw [e2]; exact hP)⟩ dX5_call_32
  · obtain ⟨b, rfl, b_hi⟩ := betc_nI (n := nB) c_1 (by omega)
    have b_cl : (nI b).toNatClampNeg = b := nI_clamp (by omega)
    refine lv_iload_n hx hb dX5_call_13 rfl (lv_at hl 2 rfl) ?_
    refine ct_S E hS (c_X5_isFloor l g F _ y) ok_X5_isFloor lk_X5_94 hP rfl hl ⟨rfl, rfl⟩ rfl ⟨Nat.le_refl _, Nat.le_refl _⟩ dX5_call_14 rfl (fun v9 H locs hv9 hS hz9 => ?_)
    obtain ⟨rfl, hP⟩ := hv9
    refine bz_eq (tgt := 27) hx hb dX5_call_17 (by decide) (fun c_2 => ?_) (fun c_2 => ?_)
    · refine lv_aload_n hx hb dX5_call_27 rfl (lv_at hl 0 rfl) ?_
      refine lv_iconst (v := 1) hx hb dX5_call_28 (by decide) ?_
      refine ct_V E hS (c_X5_fails l g F o ad (tu M 0 0 0) 1) ok_X5_fails lk_X5_80 hP (PM.recv hG hP) rfl hl ⟨rfl, rfl⟩ rfl ⟨Nat.le_refl _, Nat.le_refl _⟩ dX5_call_29 rfl (fun v9 H locs hv9 hS hz9 => ?_)
      obtain ⟨rfl, hP⟩ := hv9
      have e1 : ((mCall M nB nR nL (nI b) y z).1) = 0 := by simp only [mCall, mF, mCall0, eq_true c_1, eq_false c_2, b_cl, if_true, if_false, reduceIte, true_and, and_true, false_and, and_false, true_or, or_true, false_or, or_false, not_true_eq_false, not_false_eq_true, decide_true, decide_false, Bool.true_and, Bool.and_true, Bool.false_and, Bool.and_false, Bool.not_true, Bool.not_false, Bool.or_false, Bool.false_or, Bool.or_true, Bool.true_or]
      have e2 : ((mCall M nB nR nL (nI b) y z).2) = (tu (tu M 0 0 0) 0 0 1) := by simp only [mCall, mF, mCall0, eq_true c_1, eq_false c_2, b_cl, if_true, if_false, reduceIte, true_and, and_true, false_and, and_false, true_or, or_true, false_or, or_false, not_true_eq_false, not_false_eq_true, decide_true, decide_false, Bool.true_and, Bool.and_true, Bool.false_and, Bool.and_false, Bool.not_true, Bool.not_false, Bool.or_false, Bool.false_or, Bool.or_true, Bool.true_or]
      exact ct_iret E hr hk hS ⟨(by rw [e1]), (by rw [e2]; exact hP)⟩ dX5_call_32
    · refine lv_iload_n hx hb dX5_call_20 rfl (lv_at hl 3 rfl) ?_
      refine ct_S E hS (c_X5_isFloor l g F _ z) ok_X5_isFloor lk_X5_94 hP rfl hl ⟨rfl, rfl⟩ rfl ⟨Nat.le_refl _, Nat.le_refl _⟩ dX5_call_21 rfl (fun v9 H locs hv9 hS hz9 => ?_)
      obtain ⟨rfl, hP⟩ := hv9
      refine bz_ne (tgt := 33) hx hb dX5_call_24 (by decide) (fun c_3 => ?_) (fun c_3 => ?_)
      · obtain ⟨f, rfl, f_lo, f_hi⟩ := bet_nI 0 9 0 9 c_3 (by decide) (by decide)
        have f_cl : (nI f).toNatClampNeg = f := nI_clamp (by omega)
        refine lv_iload_n hx hb dX5_call_33 rfl (lv_at hl 2 rfl) ?_
        refine lv_iload_n hx hb dX5_call_34 rfl (lv_at hl 3 rfl) ?_
        refine lv_icmp_ne (tgt := 44) hx hb dX5_call_35 (by decide) (fun c_4 => ?_) (fun c_4 => ?_)
        · refine lv_aload_n hx hb dX5_call_44 rfl (lv_at hl 0 rfl) ?_
          refine lv_iload_n hx hb dX5_call_45 rfl (lv_at hl 1 rfl) ?_
          refine lv_iload_n hx hb dX5_call_46 rfl (lv_at hl 3 rfl) ?_
          refine ct_V E hS (c_X5_why l g F o ad (tu M 0 0 0) b f (by omega) (by omega)) ok_X5_why lk_X5_97 hP (PM.recv hG hP) rfl hl ⟨rfl, rfl⟩ rfl ⟨Nat.le_refl _, Nat.le_refl _⟩ dX5_call_47 rfl (fun v9 H locs hv9 hS hz9 => ?_)
          obtain ⟨rfl, hP⟩ := hv9
          refine lv_bipush (v := 110) hx hb dX5_call_50 (by decide) ?_
          refine lv_icmp_eq (tgt := 61) hx hb dX5_call_52 (by decide) (fun c_5 => ?_) (fun c_5 => ?_)
          · refine lv_aload_n hx hb dX5_call_61 rfl (lv_at hl 0 rfl) ?_
            refine lv_iload_n hx hb dX5_call_62 rfl (lv_at hl 1 rfl) ?_
            refine ct_V E hS (c_X5_isOut l g F o ad (tu M 0 0 0) nR b (by simp [tu, hR]) (by omega)) ok_X5_isOut lk_X5_116 hP (PM.recv hG hP) rfl hl ⟨rfl, rfl⟩ rfl ⟨Nat.le_refl _, Nat.le_refl _⟩ dX5_call_63 rfl (fun v9 H locs hv9 hS hz9 => ?_)
            obtain ⟨rfl, hP⟩ := hv9
            refine bz_ne (tgt := 85) hx hb dX5_call_66 (by decide) (fun c_6 => ?_) (fun c_6 => ?_)
            · refine lv_aload_n hx hb dX5_call_85 rfl (lv_at hl 0 rfl) ?_
              refine lv_iconst (v := 4) hx hb dX5_call_86 (by decide) ?_
              refine ct_V E hS (c_X5_fails l g F o ad (tu M 0 0 0) 4) ok_X5_fails lk_X5_80 hP (PM.recv hG hP) rfl hl ⟨rfl, rfl⟩ rfl ⟨Nat.le_refl _, Nat.le_refl _⟩ dX5_call_87 rfl (fun v9 H locs hv9 hS hz9 => ?_)
              obtain ⟨rfl, hP⟩ := hv9
              have e1 : ((mCall M nB nR nL (nI b) y (nI f)).1) = 0 := by simp only [mCall, mF, mCall0, eq_true c_1, eq_true c_2, eq_true c_3, eq_false c_4, eq_true c_5, eq_true c_6, b_cl, f_cl, if_true, if_false, reduceIte, true_and, and_true, false_and, and_false, true_or, or_true, false_or, or_false, not_true_eq_false, not_false_eq_true, decide_true, decide_false, Bool.true_and, Bool.and_true, Bool.false_and, Bool.and_false, Bool.not_true, Bool.not_false, Bool.or_false, Bool.false_or, Bool.or_true, Bool.true_or]
              have e2 : ((mCall M nB nR nL (nI b) y (nI f)).2) = (tu (tu M 0 0 0) 0 0 4) := by simp only [mCall, mF, mCall0, eq_true c_1, eq_true c_2, eq_true c_3, eq_false c_4, eq_true c_5, eq_true c_6, b_cl, f_cl, if_true, if_false, reduceIte, true_and, and_true, false_and, and_false, true_or, or_true, false_or, or_false, not_true_eq_false, not_false_eq_true, decide_true, decide_false, Bool.true_and, Bool.and_true, Bool.false_and, Bool.and_false, Bool.not_true, Bool.not_false, Bool.or_false, Bool.false_or, Bool.or_true, Bool.true_or]
              exact ct_iret E hr hk hS ⟨(by rw [e1]), (by rw [e2]; exact hP)⟩ dX5_call_90
            · refine lv_aload_n hx hb dX5_call_69 rfl (lv_at hl 0 rfl) ?_
              refine mg E hP 27 (v := M 27 0) dX5_call_70 (by simp [tu]) (kk := ?_)
              refine lv_if_ne (tgt := 85) hx hb dX5_call_73 (by decide) (fun c_7 => ?_) (fun c_7 => ?_)
              · refine lv_aload_n hx hb dX5_call_85 rfl (lv_at hl 0 rfl) ?_
                refine lv_iconst (v := 4) hx hb dX5_call_86 (by decide) ?_
                refine ct_V E hS (c_X5_fails l g F o ad (tu M 0 0 0) 4) ok_X5_fails lk_X5_80 hP (PM.recv hG hP) rfl hl ⟨rfl, rfl⟩ rfl ⟨Nat.le_refl _, Nat.le_refl _⟩ dX5_call_87 rfl (fun v9 H locs hv9 hS hz9 => ?_)
                obtain ⟨rfl, hP⟩ := hv9
                have e1 : ((mCall M nB nR nL (nI b) y (nI f)).1) = 0 := by simp only [mCall, mF, mCall0, eq_true c_1, eq_true c_2, eq_true c_3, eq_false c_4, eq_true c_5, eq_false c_6, eq_false c_7, b_cl, f_cl, if_true, if_false, reduceIte, true_and, and_true, false_and, and_false, true_or, or_true, false_or, or_false, not_true_eq_false, not_false_eq_true, decide_true, decide_false, Bool.true_and, Bool.and_true, Bool.false_and, Bool.and_false, Bool.not_true, Bool.not_false, Bool.or_false, Bool.false_or, Bool.or_true, Bool.true_or]
                have e2 : ((mCall M nB nR nL (nI b) y (nI f)).2) = (tu (tu M 0 0 0) 0 0 4) := by simp only [mCall, mF, mCall0, eq_true c_1, eq_true c_2, eq_true c_3, eq_false c_4, eq_true c_5, eq_false c_6, eq_false c_7, b_cl, f_cl, if_true, if_false, reduceIte, true_and, and_true, false_and, and_false, true_or, or_true, false_or, or_false, not_true_eq_false, not_false_eq_true, decide_true, decide_false, Bool.true_and, Bool.and_true, Bool.false_and, Bool.and_false, Bool.not_true, Bool.not_false, Bool.or_false, Bool.false_or, Bool.or_true, Bool.true_or]
                exact ct_iret E hr hk hS ⟨(by rw [e1]), (by rw [e2]; exact hP)⟩ dX5_call_90
              · refine lv_aload_n hx hb dX5_call_76 rfl (lv_at hl 0 rfl) ?_
                refine mg E hP 14 (v := (nI nR)) dX5_call_77 (by simp [tu, hR]) (kk := ?_)
                refine lv_bipush (v := 30) hx hb dX5_call_80 (by decide) ?_
                refine lv_icmp_ne (tgt := 91) hx hb dX5_call_82 (by decide) (fun c_8 => ?_) (fun c_8 => ?_)
                · have n_c_8 : nR ≠ 30 := fun h9 => c_8 (by rw [h9]; rfl)
                  refine lv_aload_n hx hb dX5_call_91 rfl (lv_at hl 0 rfl) ?_
                  refine mg E hP 14 (v := (nI nR)) dX5_call_92 (by simp [tu, hR]) (kk := ?_)
                  refine lv_istore (lv' := [(4, .int (nI nR)), (0, .ref o), (1, .int (nI b)), (2, .int y), (3, .int (nI f))]) hx hb dX5_call_95 hl (by decide) rfl (fun ls hl => ?_)
                  refine lv_aload_n hx hb dX5_call_97 rfl (lv_at hl 1 rfl) ?_
                  refine mga E hP 7 dX5_call_98 (kk := ?_)
                  refine lv_iload hx hb dX5_call_101 (lv_at hl 0 rfl) ?_
                  refine lv_iload_n hx hb dX5_call_103 rfl (lv_at hl 2 rfl) ?_
                  refine msi E hS hP 7 nR dX5_call_104 rfl (show nR < 30 by omega) (kk := fun H locs hS hP => ?_)
                  refine lv_aload_n hx hb dX5_call_105 rfl (lv_at hl 1 rfl) ?_
                  refine mga E hP 13 dX5_call_106 (kk := ?_)
                  refine lv_iload hx hb dX5_call_109 (lv_at hl 0 rfl) ?_
                  refine lv_bipush (v := 119) hx hb dX5_call_111 (by decide) ?_
                  refine msc E hS hP 13 nR dX5_call_113 rfl (show nR < 30 by omega) (by decide) (kk := fun H locs hS hP => ?_)
                  refine lv_aload_n hx hb dX5_call_114 rfl (lv_at hl 1 rfl) ?_
                  refine mga E hP 8 dX5_call_115 (kk := ?_)
                  refine lv_iload hx hb dX5_call_118 (lv_at hl 0 rfl) ?_
                  refine lv_iload_n hx hb dX5_call_120 rfl (lv_at hl 3 rfl) ?_
                  refine msi E hS hP 8 nR dX5_call_121 rfl (show nR < 30 by omega) (kk := fun H locs hS hP => ?_)
                  refine lv_aload_n hx hb dX5_call_122 rfl (lv_at hl 1 rfl) ?_
                  refine mga E hP 9 dX5_call_123 (kk := ?_)
                  refine lv_iload hx hb dX5_call_126 (lv_at hl 0 rfl) ?_
                  refine lv_iload_n hx hb dX5_call_128 rfl (lv_at hl 4 rfl) ?_
                  refine msi E hS hP 9 nR dX5_call_129 rfl (show nR < 30 by omega) (kk := fun H locs hS hP => ?_)
                  refine lv_aload_n hx hb dX5_call_130 rfl (lv_at hl 1 rfl) ?_
                  refine mga E hP 10 dX5_call_131 (kk := ?_)
                  refine lv_iload hx hb dX5_call_134 (lv_at hl 0 rfl) ?_
                  refine lv_iconst (v := (-1)) hx hb dX5_call_136 (by decide) ?_
                  refine msi E hS hP 10 nR dX5_call_137 rfl (show nR < 30 by omega) (kk := fun H locs hS hP => ?_)
                  refine lv_aload_n hx hb dX5_call_138 rfl (lv_at hl 1 rfl) ?_
                  refine mga E hP 11 dX5_call_139 (kk := ?_)
                  refine lv_iload hx hb dX5_call_142 (lv_at hl 0 rfl) ?_
                  refine lv_aload_n hx hb dX5_call_144 rfl (lv_at hl 1 rfl) ?_
                  refine mg E hP 23 (v := M 23 0) dX5_call_145 (by simp [tu]) (kk := ?_)
                  refine msi E hS hP 11 nR dX5_call_148 rfl (show nR < 30 by omega) (kk := fun H locs hS hP => ?_)
                  refine lv_aload_n hx hb dX5_call_149 rfl (lv_at hl 1 rfl) ?_
                  refine lv_dup hx hb dX5_call_150 rfl ?_
                  refine mg E hP 14 (v := (nI nR)) dX5_call_151 (by simp [tu, hR]) (kk := ?_)
                  refine lv_iconst (v := 1) hx hb dX5_call_154 (by decide) ?_
                  refine lv_iadd hx hb dX5_call_155 ?_
                  refine mp E hS hP 14 dX5_call_156 rfl (kk := fun H locs hS hP => ?_)
                  refine lv_aload_n hx hb dX5_call_159 rfl (lv_at hl 1 rfl) ?_
                  refine lv_dup hx hb dX5_call_160 rfl ?_
                  refine mg E hP 15 (v := M 15 0) dX5_call_161 (by simp [tu]) (kk := ?_)
                  refine lv_iconst (v := 1) hx hb dX5_call_164 (by decide) ?_
                  refine lv_iadd hx hb dX5_call_165 ?_
                  refine mp E hS hP 15 dX5_call_166 rfl (kk := fun H locs hS hP => ?_)
                  refine lv_aload_n hx hb dX5_call_169 rfl (lv_at hl 1 rfl) ?_
                  refine lv_iload hx hb dX5_call_170 (lv_at hl 0 rfl) ?_
                  refine ct_V E hS (c_X5_gives l g F o ad (tu (tu (tu (tu (tu (tu (tu (tu (tu M 0 0 0) 7 nR (nI b)) 13 nR 119) 8 nR y) 9 nR (nI f)) 10 nR (-1)) 11 nR (M 23 0)) 14 0 ((nI nR) + 1)) 15 0 ((M 15 0) + 1)) (nR + 1) nL nR ((show (tu (tu (tu (tu (tu (tu (tu (tu (tu M 0 0 0) 7 nR (nI b)) 13 nR 119) 8 nR y) 9 nR (nI f)) 10 nR (-1)) 11 nR (M 23 0)) 14 0 ((nI nR) + 1)) 15 0 ((M 15 0) + 1)) 14 0 = nI nR + 1 from (by simp [tu])).trans (nI_1 nR)) (by omega) (by simp [tu, hL]) (by omega) (by omega)) ok_X5_gives lk_X5_123 hP (PM.recv hG hP) rfl hl ⟨rfl, rfl⟩ rfl ⟨Nat.le_refl _, Nat.le_refl _⟩ dX5_call_172 rfl (fun v9 H locs hv9 hS hz9 => ?_)
                  obtain ⟨rfl, hP⟩ := hv9
                  refine lv_iload hx hb dX5_call_175 (lv_at hl 0 rfl) ?_
                  have e1 : ((mCall M nB nR nL (nI b) y (nI f)).1) = (nI nR) := by simp only [mCall, mF, mCall0, eq_true c_1, eq_true c_2, eq_true c_3, eq_false c_4, eq_true c_5, eq_false c_6, eq_true c_7, eq_false c_8, b_cl, f_cl, if_true, if_false, reduceIte, true_and, and_true, false_and, and_false, true_or, or_true, false_or, or_false, not_true_eq_false, not_false_eq_true, decide_true, decide_false, Bool.true_and, Bool.and_true, Bool.false_and, Bool.and_false, Bool.not_true, Bool.not_false, Bool.or_false, Bool.false_or, Bool.or_true, Bool.true_or]
                  have e2 : ((mCall M nB nR nL (nI b) y (nI f)).2) = mGives (tu (tu (tu (tu (tu (tu (tu (tu (tu M 0 0 0) 7 nR (nI b)) 13 nR 119) 8 nR y) 9 nR (nI f)) 10 nR (-1)) 11 nR (M 23 0)) 14 0 ((nI nR) + 1)) 15 0 ((M 15 0) + 1)) (nR + 1) nL nR := by simp only [mCall, mF, mCall0, eq_true c_1, eq_true c_2, eq_true c_3, eq_false c_4, eq_true c_5, eq_false c_6, eq_true c_7, eq_false c_8, b_cl, f_cl, if_true, if_false, reduceIte, true_and, and_true, false_and, and_false, true_or, or_true, false_or, or_false, not_true_eq_false, not_false_eq_true, decide_true, decide_false, Bool.true_and, Bool.and_true, Bool.false_and, Bool.and_false, Bool.not_true, Bool.not_false, Bool.or_false, Bool.false_or, Bool.or_true, Bool.true_or]
                  exact ct_iret E hr hk hS ⟨(by rw [e1]), (by rw [e2]; exact hP)⟩ dX5_call_177
                · have n_c_8 : nR = 30 := (nI_eq (by omega) (by decide)).mp (show nI nR = nI 30 from c_8)
                  refine lv_aload_n hx hb dX5_call_85 rfl (lv_at hl 0 rfl) ?_
                  refine lv_iconst (v := 4) hx hb dX5_call_86 (by decide) ?_
                  refine ct_V E hS (c_X5_fails l g F o ad (tu M 0 0 0) 4) ok_X5_fails lk_X5_80 hP (PM.recv hG hP) rfl hl ⟨rfl, rfl⟩ rfl ⟨Nat.le_refl _, Nat.le_refl _⟩ dX5_call_87 rfl (fun v9 H locs hv9 hS hz9 => ?_)
                  obtain ⟨rfl, hP⟩ := hv9
                  have e1 : ((mCall M nB nR nL (nI b) y (nI f)).1) = 0 := by simp only [mCall, mF, mCall0, eq_true c_1, eq_true c_2, eq_true c_3, eq_false c_4, eq_true c_5, eq_false c_6, eq_true c_7, eq_true c_8, b_cl, f_cl, if_true, if_false, reduceIte, true_and, and_true, false_and, and_false, true_or, or_true, false_or, or_false, not_true_eq_false, not_false_eq_true, decide_true, decide_false, Bool.true_and, Bool.and_true, Bool.false_and, Bool.and_false, Bool.not_true, Bool.not_false, Bool.or_false, Bool.false_or, Bool.or_true, Bool.true_or]
                  have e2 : ((mCall M nB nR nL (nI b) y (nI f)).2) = (tu (tu M 0 0 0) 0 0 4) := by simp only [mCall, mF, mCall0, eq_true c_1, eq_true c_2, eq_true c_3, eq_false c_4, eq_true c_5, eq_false c_6, eq_true c_7, eq_true c_8, b_cl, f_cl, if_true, if_false, reduceIte, true_and, and_true, false_and, and_false, true_or, or_true, false_or, or_false, not_true_eq_false, not_false_eq_true, decide_true, decide_false, Bool.true_and, Bool.and_true, Bool.false_and, Bool.and_false, Bool.not_true, Bool.not_false, Bool.or_false, Bool.false_or, Bool.or_true, Bool.true_or]
                  exact ct_iret E hr hk hS ⟨(by rw [e1]), (by rw [e2]; exact hP)⟩ dX5_call_90
          · refine lv_aload_n hx hb dX5_call_55 rfl (lv_at hl 0 rfl) ?_
            refine lv_iconst (v := 3) hx hb dX5_call_56 (by decide) ?_
            refine ct_V E hS (c_X5_fails l g F o ad (tu M 0 0 0) 3) ok_X5_fails lk_X5_80 hP (PM.recv hG hP) rfl hl ⟨rfl, rfl⟩ rfl ⟨Nat.le_refl _, Nat.le_refl _⟩ dX5_call_57 rfl (fun v9 H locs hv9 hS hz9 => ?_)
            obtain ⟨rfl, hP⟩ := hv9
            have e1 : ((mCall M nB nR nL (nI b) y (nI f)).1) = 0 := by simp only [mCall, mF, mCall0, eq_true c_1, eq_true c_2, eq_true c_3, eq_false c_4, eq_false c_5, b_cl, f_cl, if_true, if_false, reduceIte, true_and, and_true, false_and, and_false, true_or, or_true, false_or, or_false, not_true_eq_false, not_false_eq_true, decide_true, decide_false, Bool.true_and, Bool.and_true, Bool.false_and, Bool.and_false, Bool.not_true, Bool.not_false, Bool.or_false, Bool.false_or, Bool.or_true, Bool.true_or]
            have e2 : ((mCall M nB nR nL (nI b) y (nI f)).2) = (tu (tu M 0 0 0) 0 0 3) := by simp only [mCall, mF, mCall0, eq_true c_1, eq_true c_2, eq_true c_3, eq_false c_4, eq_false c_5, b_cl, f_cl, if_true, if_false, reduceIte, true_and, and_true, false_and, and_false, true_or, or_true, false_or, or_false, not_true_eq_false, not_false_eq_true, decide_true, decide_false, Bool.true_and, Bool.and_true, Bool.false_and, Bool.and_false, Bool.not_true, Bool.not_false, Bool.or_false, Bool.false_or, Bool.or_true, Bool.true_or]
            exact ct_iret E hr hk hS ⟨(by rw [e1]), (by rw [e2]; exact hP)⟩ dX5_call_60
        · refine lv_aload_n hx hb dX5_call_38 rfl (lv_at hl 0 rfl) ?_
          refine lv_iconst (v := 2) hx hb dX5_call_39 (by decide) ?_
          refine ct_V E hS (c_X5_fails l g F o ad (tu M 0 0 0) 2) ok_X5_fails lk_X5_80 hP (PM.recv hG hP) rfl hl ⟨rfl, rfl⟩ rfl ⟨Nat.le_refl _, Nat.le_refl _⟩ dX5_call_40 rfl (fun v9 H locs hv9 hS hz9 => ?_)
          obtain ⟨rfl, hP⟩ := hv9
          have e1 : ((mCall M nB nR nL (nI b) y (nI f)).1) = 0 := by simp only [mCall, mF, mCall0, eq_true c_1, eq_true c_2, eq_true c_3, eq_true c_4, b_cl, f_cl, if_true, if_false, reduceIte, true_and, and_true, false_and, and_false, true_or, or_true, false_or, or_false, not_true_eq_false, not_false_eq_true, decide_true, decide_false, Bool.true_and, Bool.and_true, Bool.false_and, Bool.and_false, Bool.not_true, Bool.not_false, Bool.or_false, Bool.false_or, Bool.or_true, Bool.true_or]
          have e2 : ((mCall M nB nR nL (nI b) y (nI f)).2) = (tu (tu M 0 0 0) 0 0 2) := by simp only [mCall, mF, mCall0, eq_true c_1, eq_true c_2, eq_true c_3, eq_true c_4, b_cl, f_cl, if_true, if_false, reduceIte, true_and, and_true, false_and, and_false, true_or, or_true, false_or, or_false, not_true_eq_false, not_false_eq_true, decide_true, decide_false, Bool.true_and, Bool.and_true, Bool.false_and, Bool.and_false, Bool.not_true, Bool.not_false, Bool.or_false, Bool.false_or, Bool.or_true, Bool.true_or]
          exact ct_iret E hr hk hS ⟨(by rw [e1]), (by rw [e2]; exact hP)⟩ dX5_call_43
      · refine lv_aload_n hx hb dX5_call_27 rfl (lv_at hl 0 rfl) ?_
        refine lv_iconst (v := 1) hx hb dX5_call_28 (by decide) ?_
        refine ct_V E hS (c_X5_fails l g F o ad (tu M 0 0 0) 1) ok_X5_fails lk_X5_80 hP (PM.recv hG hP) rfl hl ⟨rfl, rfl⟩ rfl ⟨Nat.le_refl _, Nat.le_refl _⟩ dX5_call_29 rfl (fun v9 H locs hv9 hS hz9 => ?_)
        obtain ⟨rfl, hP⟩ := hv9
        have e1 : ((mCall M nB nR nL (nI b) y z).1) = 0 := by simp only [mCall, mF, mCall0, eq_true c_1, eq_true c_2, eq_false c_3, b_cl, if_true, if_false, reduceIte, true_and, and_true, false_and, and_false, true_or, or_true, false_or, or_false, not_true_eq_false, not_false_eq_true, decide_true, decide_false, Bool.true_and, Bool.and_true, Bool.false_and, Bool.and_false, Bool.not_true, Bool.not_false, Bool.or_false, Bool.false_or, Bool.or_true, Bool.true_or]
        have e2 : ((mCall M nB nR nL (nI b) y z).2) = (tu (tu M 0 0 0) 0 0 1) := by simp only [mCall, mF, mCall0, eq_true c_1, eq_true c_2, eq_false c_3, b_cl, if_true, if_false, reduceIte, true_and, and_true, false_and, and_false, true_or, or_true, false_or, or_false, not_true_eq_false, not_false_eq_true, decide_true, decide_false, Bool.true_and, Bool.and_true, Bool.false_and, Bool.and_false, Bool.not_true, Bool.not_false, Bool.or_false, Bool.false_or, Bool.or_true, Bool.true_or]
        exact ct_iret E hr hk hS ⟨(by rw [e1]), (by rw [e2]; exact hP)⟩ dX5_call_32
