set_option maxHeartbeats 4000000 in
set_option maxRecDepth 100000 in
theorem c_X5_isNobody (l : Launch) (g : cG) (F : Nat → Prop) (o : Nat) (ad : Nat → Nat) (M : TT) (nR : Nat) (x : Int32) (hR : M 14 0 = nI nR) (hR30 : nR ≤ 30) : CT l yX5_isNobody cX5_isNobody 2 (some .boolean) 2 43 0 0 g F [.ref o, .int x] (PM g F o ad M) (fun v9 H9 => v9 = some (.int (b2i (¬ bet x 0 (nI nR - 1)))) ∧ PM g F o ad (mNobody M nR x) H9) := by
  refine CT.of (by decide) rfl ?_
  intro p e s m args below meth c E hr hk hnm hP ls hl
  have hS : va_S (nF F) s.heap s.heap [] := va_S.rf
  have hx := E.1
  have hb := E.2.1
  have hE_ml := E.2.2.1
  have hown := E.2.2.2.1
  have hts := E.2.2.2.2.1
  have hG := E.2.2.2.2.2
  have hl : lv_has ls 2 [(0, .ref o), (1, .int x)] := hl
  refine lv_aload_n hx hb dX5_isNobody_0 rfl (lv_at hl 0 rfl) ?_
  refine lv_aload_n hx hb dX5_isNobody_1 rfl (lv_at hl 0 rfl) ?_
  refine lv_iload_n hx hb dX5_isNobody_2 rfl (lv_at hl 1 rfl) ?_
  refine ct_V E hS (c_X5_isRider l g F o ad M x (nI nR) hR) ok_X5_isRider lk_X5_127 hP (PM.recv hG hP) rfl hl ⟨rfl, rfl⟩ rfl ⟨Nat.le_refl _, Nat.le_refl _⟩ dX5_isNobody_3 rfl (fun v9 H locs hv9 hS hz9 => ?_)
  obtain ⟨rfl, hP⟩ := hv9
  refine bz_eq (tgt := 13) hx hb dX5_isNobody_6 (by decide) (fun c_1 => ?_) (fun c_1 => ?_)
  · refine lv_iconst (v := 1) hx hb dX5_isNobody_13 (by decide) ?_
    refine mp E hS hP 0 dX5_isNobody_14 rfl (kk := fun H locs hS hP => ?_)
    refine lv_aload_n hx hb dX5_isNobody_17 rfl (lv_at hl 0 rfl) ?_
    refine mg E hP 0 (v := 1) dX5_isNobody_18 (by simp [tu]) (kk := ?_)
    refine lv_if_le (tgt := 28) hx hb dX5_isNobody_21 (by decide) (fun c_2 => ?_) (fun c_2 => ?_)
    · exact absurd c_2 (by decide)
    · refine lv_iconst (v := 1) hx hb dX5_isNobody_24 (by decide) ?_
      refine lv_goto (tgt := 29) hx hb dX5_isNobody_25 (by decide) ?_
      have e1 : (b2i (¬ bet x 0 (nI nR - 1))) = 1 := by simp only [mNobody, b2i, eq_false c_1, eq_false c_2, if_true, if_false, reduceIte, true_and, and_true, false_and, and_false, true_or, or_true, false_or, or_false, not_true_eq_false, not_false_eq_true, decide_true, decide_false, Bool.true_and, Bool.and_true, Bool.false_and, Bool.and_false, Bool.not_true, Bool.not_false, Bool.or_false, Bool.false_or, Bool.or_true, Bool.true_or]
      have e2 : (mNobody M nR x) = (tu M 0 0 1) := by simp only [mNobody, b2i, eq_false c_1, eq_false c_2, if_true, if_false, reduceIte, true_and, and_true, false_and, and_false, true_or, or_true, false_or, or_false, not_true_eq_false, not_false_eq_true, decide_true, decide_false, Bool.true_and, Bool.and_true, Bool.false_and, Bool.and_false, Bool.not_true, Bool.not_false, Bool.or_false, Bool.false_or, Bool.or_true, Bool.true_or]
      exact ct_zret E hr (by decide) hk hS ⟨(by rw [e1]), (by rw [e2]; exact hP)⟩ dX5_isNobody_29
  · refine lv_iconst (v := 0) hx hb dX5_isNobody_9 (by decide) ?_
    refine lv_goto (tgt := 14) hx hb dX5_isNobody_10 (by decide) ?_
    refine mp E hS hP 0 dX5_isNobody_14 rfl (kk := fun H locs hS hP => ?_)
    refine lv_aload_n hx hb dX5_isNobody_17 rfl (lv_at hl 0 rfl) ?_
    refine mg E hP 0 (v := 0) dX5_isNobody_18 (by simp [tu]) (kk := ?_)
    refine lv_if_le (tgt := 28) hx hb dX5_isNobody_21 (by decide) (fun c_3 => ?_) (fun c_3 => ?_)
    · refine lv_iconst (v := 0) hx hb dX5_isNobody_28 (by decide) ?_
      have e1 : (b2i (¬ bet x 0 (nI nR - 1))) = 0 := by simp only [mNobody, b2i, eq_true c_1, eq_true c_3, if_true, if_false, reduceIte, true_and, and_true, false_and, and_false, true_or, or_true, false_or, or_false, not_true_eq_false, not_false_eq_true, decide_true, decide_false, Bool.true_and, Bool.and_true, Bool.false_and, Bool.and_false, Bool.not_true, Bool.not_false, Bool.or_false, Bool.false_or, Bool.or_true, Bool.true_or]
      have e2 : (mNobody M nR x) = (tu M 0 0 0) := by simp only [mNobody, b2i, eq_true c_1, eq_true c_3, if_true, if_false, reduceIte, true_and, and_true, false_and, and_false, true_or, or_true, false_or, or_false, not_true_eq_false, not_false_eq_true, decide_true, decide_false, Bool.true_and, Bool.and_true, Bool.false_and, Bool.and_false, Bool.not_true, Bool.not_false, Bool.or_false, Bool.false_or, Bool.or_true, Bool.true_or]
      exact ct_zret E hr (by decide) hk hS ⟨(by rw [e1]), (by rw [e2]; exact hP)⟩ dX5_isNobody_29
    · exact absurd (by decide : (0 : Int32) ≤ (0)) c_3

set_option maxHeartbeats 4000000 in
set_option maxRecDepth 100000 in
theorem c_X5_isNoLift (l : Launch) (g : cG) (F : Nat → Prop) (o : Nat) (ad : Nat → Nat) (M : TT) (nL : Nat) (x : Int32) (hL : M 22 0 = nI nL) (hL3 : nL ≤ 3) : CT l yX5_isNoLift cX5_isNoLift 2 (some .boolean) 2 43 0 0 g F [.ref o, .int x] (PM g F o ad M) (fun v9 H9 => v9 = some (.int (b2i (¬ bet x 0 (nI nL - 1)))) ∧ PM g F o ad (mNoLift M nL x) H9) := by
  refine CT.of (by decide) rfl ?_
  intro p e s m args below meth c E hr hk hnm hP ls hl
  have hS : va_S (nF F) s.heap s.heap [] := va_S.rf
  have hx := E.1
  have hb := E.2.1
  have hE_ml := E.2.2.1
  have hown := E.2.2.2.1
  have hts := E.2.2.2.2.1
  have hG := E.2.2.2.2.2
  have hl : lv_has ls 2 [(0, .ref o), (1, .int x)] := hl
  refine lv_aload_n hx hb dX5_isNoLift_0 rfl (lv_at hl 0 rfl) ?_
  refine lv_aload_n hx hb dX5_isNoLift_1 rfl (lv_at hl 0 rfl) ?_
  refine lv_iload_n hx hb dX5_isNoLift_2 rfl (lv_at hl 1 rfl) ?_
  refine ct_V E hS (c_X5_isLift l g F o ad M x (nI nL) hL) ok_X5_isLift lk_X5_139 hP (PM.recv hG hP) rfl hl ⟨rfl, rfl⟩ rfl ⟨Nat.le_refl _, Nat.le_refl _⟩ dX5_isNoLift_3 rfl (fun v9 H locs hv9 hS hz9 => ?_)
  obtain ⟨rfl, hP⟩ := hv9
  refine bz_eq (tgt := 13) hx hb dX5_isNoLift_6 (by decide) (fun c_1 => ?_) (fun c_1 => ?_)
  · refine lv_iconst (v := 1) hx hb dX5_isNoLift_13 (by decide) ?_
    refine mp E hS hP 0 dX5_isNoLift_14 rfl (kk := fun H locs hS hP => ?_)
    refine lv_aload_n hx hb dX5_isNoLift_17 rfl (lv_at hl 0 rfl) ?_
    refine mg E hP 0 (v := 1) dX5_isNoLift_18 (by simp [tu]) (kk := ?_)
    refine lv_if_le (tgt := 28) hx hb dX5_isNoLift_21 (by decide) (fun c_2 => ?_) (fun c_2 => ?_)
    · exact absurd c_2 (by decide)
    · refine lv_iconst (v := 1) hx hb dX5_isNoLift_24 (by decide) ?_
      refine lv_goto (tgt := 29) hx hb dX5_isNoLift_25 (by decide) ?_
      have e1 : (b2i (¬ bet x 0 (nI nL - 1))) = 1 := by simp only [mNoLift, b2i, eq_false c_1, eq_false c_2, if_true, if_false, reduceIte, true_and, and_true, false_and, and_false, true_or, or_true, false_or, or_false, not_true_eq_false, not_false_eq_true, decide_true, decide_false, Bool.true_and, Bool.and_true, Bool.false_and, Bool.and_false, Bool.not_true, Bool.not_false, Bool.or_false, Bool.false_or, Bool.or_true, Bool.true_or]
      have e2 : (mNoLift M nL x) = (tu M 0 0 1) := by simp only [mNoLift, b2i, eq_false c_1, eq_false c_2, if_true, if_false, reduceIte, true_and, and_true, false_and, and_false, true_or, or_true, false_or, or_false, not_true_eq_false, not_false_eq_true, decide_true, decide_false, Bool.true_and, Bool.and_true, Bool.false_and, Bool.and_false, Bool.not_true, Bool.not_false, Bool.or_false, Bool.false_or, Bool.or_true, Bool.true_or]
      exact ct_zret E hr (by decide) hk hS ⟨(by rw [e1]), (by rw [e2]; exact hP)⟩ dX5_isNoLift_29
  · refine lv_iconst (v := 0) hx hb dX5_isNoLift_9 (by decide) ?_
    refine lv_goto (tgt := 14) hx hb dX5_isNoLift_10 (by decide) ?_
    refine mp E hS hP 0 dX5_isNoLift_14 rfl (kk := fun H locs hS hP => ?_)
    refine lv_aload_n hx hb dX5_isNoLift_17 rfl (lv_at hl 0 rfl) ?_
    refine mg E hP 0 (v := 0) dX5_isNoLift_18 (by simp [tu]) (kk := ?_)
    refine lv_if_le (tgt := 28) hx hb dX5_isNoLift_21 (by decide) (fun c_3 => ?_) (fun c_3 => ?_)
    · refine lv_iconst (v := 0) hx hb dX5_isNoLift_28 (by decide) ?_
      have e1 : (b2i (¬ bet x 0 (nI nL - 1))) = 0 := by simp only [mNoLift, b2i, eq_true c_1, eq_true c_3, if_true, if_false, reduceIte, true_and, and_true, false_and, and_false, true_or, or_true, false_or, or_false, not_true_eq_false, not_false_eq_true, decide_true, decide_false, Bool.true_and, Bool.and_true, Bool.false_and, Bool.and_false, Bool.not_true, Bool.not_false, Bool.or_false, Bool.false_or, Bool.or_true, Bool.true_or]
      have e2 : (mNoLift M nL x) = (tu M 0 0 0) := by simp only [mNoLift, b2i, eq_true c_1, eq_true c_3, if_true, if_false, reduceIte, true_and, and_true, false_and, and_false, true_or, or_true, false_or, or_false, not_true_eq_false, not_false_eq_true, decide_true, decide_false, Bool.true_and, Bool.and_true, Bool.false_and, Bool.and_false, Bool.not_true, Bool.not_false, Bool.or_false, Bool.false_or, Bool.or_true, Bool.true_or]
      exact ct_zret E hr (by decide) hk hS ⟨(by rw [e1]), (by rw [e2]; exact hP)⟩ dX5_isNoLift_29
    · exact absurd (by decide : (0 : Int32) ≤ (0)) c_3

set_option maxHeartbeats 4000000 in
set_option maxRecDepth 100000 in
theorem c_X5_state (l : Launch) (g : cG) (F : Nat → Prop) (o : Nat) (ad : Nat → Nat) (M : TT) (nR : Nat) (x : Int32) (hR : M 14 0 = nI nR) (hR30 : nR ≤ 30) (hC : ∀ r, r < nR → narrow .char (.int (M 13 r)) = .int (M 13 r)) : CT l yX5_state cX5_state 2 (some .char) 3 64 0 0 g F [.ref o, .int x] (PM g F o ad M) (fun v9 H9 => v9 = some (.int (mStateOf M nR x)) ∧ PM g F o ad (mNobody M nR x) H9) := by
  refine CT.of (by decide) rfl ?_
  intro p e s m args below meth c E hr hk hnm hP ls hl
  have hS : va_S (nF F) s.heap s.heap [] := va_S.rf
  have hx := E.1
  have hb := E.2.1
  have hE_ml := E.2.2.1
  have hown := E.2.2.2.1
  have hts := E.2.2.2.2.1
  have hG := E.2.2.2.2.2
  have hl : lv_has ls 2 [(0, .ref o), (1, .int x)] := hl
  refine lv_aload_n hx hb dX5_state_0 rfl (lv_at hl 0 rfl) ?_
  refine lv_iload_n hx hb dX5_state_1 rfl (lv_at hl 1 rfl) ?_
  refine ct_V E hS (c_X5_isNobody l g F o ad M nR x hR (by omega)) ok_X5_isNobody lk_X5_130 hP (PM.recv hG hP) rfl hl ⟨rfl, rfl⟩ rfl ⟨Nat.le_refl _, Nat.le_refl _⟩ dX5_state_2 rfl (fun v9 H locs hv9 hS hz9 => ?_)
  obtain ⟨rfl, hP⟩ := hv9
  refine bz_eq (tgt := 12) hx hb dX5_state_5 (by decide) (fun c_1 => ?_) (fun c_1 => ?_)
  · have b9 : bet x 0 (nI nR - 1) := Decidable.not_not.mp c_1
    rw [mNobody, if_pos b9] at hP
    obtain ⟨j, rfl, j_hi⟩ := betc_nI (n := nR) b9 (by omega)
    have j_cl : (nI j).toNatClampNeg = j := nI_clamp (by omega)
    refine lv_aload_n hx hb dX5_state_12 rfl (lv_at hl 0 rfl) ?_
    refine mga E hP 13 dX5_state_13 (kk := ?_)
    refine lv_iload_n hx hb dX5_state_16 rfl (lv_at hl 1 rfl) ?_
    refine mlc E hP 13 j (v := M 13 j) dX5_state_17 rfl (show j < 30 by omega) (by simp [tu]) (kk := ?_)
    have e1 : (mStateOf M nR (nI j)) = M 13 j := by simp only [mStateOf, mNobody, eq_true b9, j_cl, if_true, if_false, reduceIte, true_and, and_true, false_and, and_false, true_or, or_true, false_or, or_false, not_true_eq_false, not_false_eq_true, decide_true, decide_false, Bool.true_and, Bool.and_true, Bool.false_and, Bool.and_false, Bool.not_true, Bool.not_false, Bool.or_false, Bool.false_or, Bool.or_true, Bool.true_or]
    have e2 : (mNobody M nR (nI j)) = (tu M 0 0 0) := by simp only [mStateOf, mNobody, eq_true b9, j_cl, if_true, if_false, reduceIte, true_and, and_true, false_and, and_false, true_or, or_true, false_or, or_false, not_true_eq_false, not_false_eq_true, decide_true, decide_false, Bool.true_and, Bool.and_true, Bool.false_and, Bool.and_false, Bool.not_true, Bool.not_false, Bool.or_false, Bool.false_or, Bool.or_true, Bool.true_or]
    exact ct_zret E hr (hC j j_hi) hk hS ⟨(by rw [e1]), (by rw [e2]; exact hP)⟩ dX5_state_18
  · have b9 : ¬ bet x 0 (nI nR - 1) := c_1
    rw [mNobody, if_neg b9] at hP
    refine lv_iconst (v := 0) hx hb dX5_state_8 (by decide) ?_
    refine lv_goto (tgt := 18) hx hb dX5_state_9 (by decide) ?_
    have e1 : (mStateOf M nR x) = 0 := by simp only [mStateOf, mNobody, eq_false b9, if_true, if_false, reduceIte, true_and, and_true, false_and, and_false, true_or, or_true, false_or, or_false, not_true_eq_false, not_false_eq_true, decide_true, decide_false, Bool.true_and, Bool.and_true, Bool.false_and, Bool.and_false, Bool.not_true, Bool.not_false, Bool.or_false, Bool.false_or, Bool.or_true, Bool.true_or]
    have e2 : (mNobody M nR x) = (tu M 0 0 1) := by simp only [mStateOf, mNobody, eq_false b9, if_true, if_false, reduceIte, true_and, and_true, false_and, and_false, true_or, or_true, false_or, or_false, not_true_eq_false, not_false_eq_true, decide_true, decide_false, Bool.true_and, Bool.and_true, Bool.false_and, Bool.and_false, Bool.not_true, Bool.not_false, Bool.or_false, Bool.false_or, Bool.or_true, Bool.true_or]
    exact ct_zret E hr (by decide) hk hS ⟨(by rw [e1]), (by rw [e2]; exact hP)⟩ dX5_state_18

set_option maxHeartbeats 4000000 in
set_option maxRecDepth 100000 in
theorem c_X5_aim (l : Launch) (g : cG) (F : Nat → Prop) (o : Nat) (ad : Nat → Nat) (M : TT) (nR : Nat) (x : Int32) (hR : M 14 0 = nI nR) (hR30 : nR ≤ 30)  : CT l yX5_aim cX5_aim 2 (some .int) 3 64 0 0 g F [.ref o, .int x] (PM g F o ad M) (fun v9 H9 => v9 = some (.int (mAim M nR x)) ∧ PM g F o ad (mNobody M nR x) H9) := by
  refine CT.of (by decide) rfl ?_
  intro p e s m args below meth c E hr hk hnm hP ls hl
  have hS : va_S (nF F) s.heap s.heap [] := va_S.rf
  have hx := E.1
  have hb := E.2.1
  have hE_ml := E.2.2.1
  have hown := E.2.2.2.1
  have hts := E.2.2.2.2.1
  have hG := E.2.2.2.2.2
  have hl : lv_has ls 2 [(0, .ref o), (1, .int x)] := hl
  refine lv_aload_n hx hb dX5_aim_0 rfl (lv_at hl 0 rfl) ?_
  refine lv_iload_n hx hb dX5_aim_1 rfl (lv_at hl 1 rfl) ?_
  refine ct_V E hS (c_X5_isNobody l g F o ad M nR x hR (by omega)) ok_X5_isNobody lk_X5_130 hP (PM.recv hG hP) rfl hl ⟨rfl, rfl⟩ rfl ⟨Nat.le_refl _, Nat.le_refl _⟩ dX5_aim_2 rfl (fun v9 H locs hv9 hS hz9 => ?_)
  obtain ⟨rfl, hP⟩ := hv9
  refine bz_eq (tgt := 12) hx hb dX5_aim_5 (by decide) (fun c_1 => ?_) (fun c_1 => ?_)
  · have b9 : bet x 0 (nI nR - 1) := Decidable.not_not.mp c_1
    rw [mNobody, if_pos b9] at hP
    obtain ⟨j, rfl, j_hi⟩ := betc_nI (n := nR) b9 (by omega)
    have j_cl : (nI j).toNatClampNeg = j := nI_clamp (by omega)
    refine lv_aload_n hx hb dX5_aim_12 rfl (lv_at hl 0 rfl) ?_
    refine mga E hP 9 dX5_aim_13 (kk := ?_)
    refine lv_iload_n hx hb dX5_aim_16 rfl (lv_at hl 1 rfl) ?_
    refine mli E hP 9 j (v := M 9 j) dX5_aim_17 rfl (show j < 30 by omega) (by simp [tu]) (kk := ?_)
    have e1 : (mAim M nR (nI j)) = M 9 j := by simp only [mAim, mNobody, eq_true b9, j_cl, if_true, if_false, reduceIte, true_and, and_true, false_and, and_false, true_or, or_true, false_or, or_false, not_true_eq_false, not_false_eq_true, decide_true, decide_false, Bool.true_and, Bool.and_true, Bool.false_and, Bool.and_false, Bool.not_true, Bool.not_false, Bool.or_false, Bool.false_or, Bool.or_true, Bool.true_or]
    have e2 : (mNobody M nR (nI j)) = (tu M 0 0 0) := by simp only [mAim, mNobody, eq_true b9, j_cl, if_true, if_false, reduceIte, true_and, and_true, false_and, and_false, true_or, or_true, false_or, or_false, not_true_eq_false, not_false_eq_true, decide_true, decide_false, Bool.true_and, Bool.and_true, Bool.false_and, Bool.and_false, Bool.not_true, Bool.not_false, Bool.or_false, Bool.false_or, Bool.or_true, Bool.true_or]
    exact ct_iret E hr hk hS ⟨(by rw [e1]), (by rw [e2]; exact hP)⟩ dX5_aim_18
  · have b9 : ¬ bet x 0 (nI nR - 1) := c_1
    rw [mNobody, if_neg b9] at hP
    refine lv_iconst (v := 0) hx hb dX5_aim_8 (by decide) ?_
    refine lv_goto (tgt := 18) hx hb dX5_aim_9 (by decide) ?_
    have e1 : (mAim M nR x) = 0 := by simp only [mAim, mNobody, eq_false b9, if_true, if_false, reduceIte, true_and, and_true, false_and, and_false, true_or, or_true, false_or, or_false, not_true_eq_false, not_false_eq_true, decide_true, decide_false, Bool.true_and, Bool.and_true, Bool.false_and, Bool.and_false, Bool.not_true, Bool.not_false, Bool.or_false, Bool.false_or, Bool.or_true, Bool.true_or]
    have e2 : (mNobody M nR x) = (tu M 0 0 1) := by simp only [mAim, mNobody, eq_false b9, if_true, if_false, reduceIte, true_and, and_true, false_and, and_false, true_or, or_true, false_or, or_false, not_true_eq_false, not_false_eq_true, decide_true, decide_false, Bool.true_and, Bool.and_true, Bool.false_and, Bool.and_false, Bool.not_true, Bool.not_false, Bool.or_false, Bool.false_or, Bool.or_true, Bool.true_or]
    exact ct_iret E hr hk hS ⟨(by rw [e1]), (by rw [e2]; exact hP)⟩ dX5_aim_18

set_option maxHeartbeats 4000000 in
set_option maxRecDepth 100000 in
theorem c_X5_floorOf (l : Launch) (g : cG) (F : Nat → Prop) (o : Nat) (ad : Nat → Nat) (M : TT) (nR : Nat) (x : Int32) (hR : M 14 0 = nI nR) (hR30 : nR ≤ 30) (hW : ∀ r, r < nR → M 13 r = 97 → ∃ q, q < 3 ∧ M 10 r = nI q) : CT l yX5_floorOf cX5_floorOf 2 (some .int) 3 64 0 0 g F [.ref o, .int x] (PM g F o ad M) (fun v9 H9 => v9 = some (.int (mFloorOf M nR x)) ∧ PM g F o ad (mNobody M nR x) H9) := by
  refine CT.of (by decide) rfl ?_
  intro p e s m args below meth c E hr hk hnm hP ls hl
  have hS : va_S (nF F) s.heap s.heap [] := va_S.rf
  have hx := E.1
  have hb := E.2.1
  have hE_ml := E.2.2.1
  have hown := E.2.2.2.1
  have hts := E.2.2.2.2.1
  have hG := E.2.2.2.2.2
  have hl : lv_has ls 2 [(0, .ref o), (1, .int x)] := hl
  refine lv_aload_n hx hb dX5_floorOf_0 rfl (lv_at hl 0 rfl) ?_
  refine lv_iload_n hx hb dX5_floorOf_1 rfl (lv_at hl 1 rfl) ?_
  refine ct_V E hS (c_X5_isNobody l g F o ad M nR x hR (by omega)) ok_X5_isNobody lk_X5_130 hP (PM.recv hG hP) rfl hl ⟨rfl, rfl⟩ rfl ⟨Nat.le_refl _, Nat.le_refl _⟩ dX5_floorOf_2 rfl (fun v9 H locs hv9 hS hz9 => ?_)
  obtain ⟨rfl, hP⟩ := hv9
  refine bz_eq (tgt := 10) hx hb dX5_floorOf_5 (by decide) (fun c_1 => ?_) (fun c_1 => ?_)
  · have b9 : bet x 0 (nI nR - 1) := Decidable.not_not.mp c_1
    rw [mNobody, if_pos b9] at hP
    obtain ⟨j, rfl, j_hi⟩ := betc_nI (n := nR) b9 (by omega)
    have j_cl : (nI j).toNatClampNeg = j := nI_clamp (by omega)
    refine lv_aload_n hx hb dX5_floorOf_10 rfl (lv_at hl 0 rfl) ?_
    refine mga E hP 13 dX5_floorOf_11 (kk := ?_)
    refine lv_iload_n hx hb dX5_floorOf_14 rfl (lv_at hl 1 rfl) ?_
    refine mlc E hP 13 j (v := M 13 j) dX5_floorOf_15 rfl (show j < 30 by omega) (by simp [tu]) (kk := ?_)
    refine lv_bipush (v := 97) hx hb dX5_floorOf_16 (by decide) ?_
    refine lv_icmp_ne (tgt := 35) hx hb dX5_floorOf_18 (by decide) (fun c_2 => ?_) (fun c_2 => ?_)
    · refine lv_aload_n hx hb dX5_floorOf_35 rfl (lv_at hl 0 rfl) ?_
      refine mga E hP 8 dX5_floorOf_36 (kk := ?_)
      refine lv_iload_n hx hb dX5_floorOf_39 rfl (lv_at hl 1 rfl) ?_
      refine mli E hP 8 j (v := M 8 j) dX5_floorOf_40 rfl (show j < 30 by omega) (by simp [tu]) (kk := ?_)
      have e1 : (mFloorOf M nR (nI j)) = M 8 j := by simp only [mFloorOf, mNobody, eq_true b9, eq_false c_2, j_cl, if_true, if_false, reduceIte, true_and, and_true, false_and, and_false, true_or, or_true, false_or, or_false, not_true_eq_false, not_false_eq_true, decide_true, decide_false, Bool.true_and, Bool.and_true, Bool.false_and, Bool.and_false, Bool.not_true, Bool.not_false, Bool.or_false, Bool.false_or, Bool.or_true, Bool.true_or]
      have e2 : (mNobody M nR (nI j)) = (tu M 0 0 0) := by simp only [mFloorOf, mNobody, eq_true b9, eq_false c_2, j_cl, if_true, if_false, reduceIte, true_and, and_true, false_and, and_false, true_or, or_true, false_or, or_false, not_true_eq_false, not_false_eq_true, decide_true, decide_false, Bool.true_and, Bool.and_true, Bool.false_and, Bool.and_false, Bool.not_true, Bool.not_false, Bool.or_false, Bool.false_or, Bool.or_true, Bool.true_or]
      exact ct_iret E hr hk hS ⟨(by rw [e1]), (by rw [e2]; exact hP)⟩ dX5_floorOf_41
    · obtain ⟨lf, hlf3, hlf⟩ := hW j j_hi c_2
      have lf_cl : (nI lf).toNatClampNeg = lf := nI_clamp (by omega)
      refine lv_aload_n hx hb dX5_floorOf_21 rfl (lv_at hl 0 rfl) ?_
      refine mga E hP 18 dX5_floorOf_22 (kk := ?_)
      refine lv_aload_n hx hb dX5_floorOf_25 rfl (lv_at hl 0 rfl) ?_
      refine mga E hP 10 dX5_floorOf_26 (kk := ?_)
      refine lv_iload_n hx hb dX5_floorOf_29 rfl (lv_at hl 1 rfl) ?_
      refine mli E hP 10 j (v := (nI lf)) dX5_floorOf_30 rfl (show j < 30 by omega) (by simp [tu, hlf]) (kk := ?_)
      refine mli E hP 18 lf (v := M 18 lf) dX5_floorOf_31 rfl (show lf < 3 by omega) (by simp [tu]) (kk := ?_)
      refine lv_goto (tgt := 41) hx hb dX5_floorOf_32 (by decide) ?_
      have e1 : (mFloorOf M nR (nI j)) = M 18 lf := by simp only [mFloorOf, mNobody, eq_true b9, eq_true c_2, j_cl, hlf, lf_cl, if_true, if_false, reduceIte, true_and, and_true, false_and, and_false, true_or, or_true, false_or, or_false, not_true_eq_false, not_false_eq_true, decide_true, decide_false, Bool.true_and, Bool.and_true, Bool.false_and, Bool.and_false, Bool.not_true, Bool.not_false, Bool.or_false, Bool.false_or, Bool.or_true, Bool.true_or]
      have e2 : (mNobody M nR (nI j)) = (tu M 0 0 0) := by simp only [mFloorOf, mNobody, eq_true b9, eq_true c_2, j_cl, hlf, lf_cl, if_true, if_false, reduceIte, true_and, and_true, false_and, and_false, true_or, or_true, false_or, or_false, not_true_eq_false, not_false_eq_true, decide_true, decide_false, Bool.true_and, Bool.and_true, Bool.false_and, Bool.and_false, Bool.not_true, Bool.not_false, Bool.or_false, Bool.false_or, Bool.or_true, Bool.true_or]
      exact ct_iret E hr hk hS ⟨(by rw [e1]), (by rw [e2]; exact hP)⟩ dX5_floorOf_41
  · have b9 : ¬ bet x 0 (nI nR - 1) := c_1
    rw [mNobody, if_neg b9] at hP
    refine lv_iconst (v := 0) hx hb dX5_floorOf_8 (by decide) ?_
    have e1 : (mFloorOf M nR x) = 0 := by simp only [mFloorOf, mNobody, eq_false b9, if_true, if_false, reduceIte, true_and, and_true, false_and, and_false, true_or, or_true, false_or, or_false, not_true_eq_false, not_false_eq_true, decide_true, decide_false, Bool.true_and, Bool.and_true, Bool.false_and, Bool.and_false, Bool.not_true, Bool.not_false, Bool.or_false, Bool.false_or, Bool.or_true, Bool.true_or]
    have e2 : (mNobody M nR x) = (tu M 0 0 1) := by simp only [mFloorOf, mNobody, eq_false b9, if_true, if_false, reduceIte, true_and, and_true, false_and, and_false, true_or, or_true, false_or, or_false, not_true_eq_false, not_false_eq_true, decide_true, decide_false, Bool.true_and, Bool.and_true, Bool.false_and, Bool.and_false, Bool.not_true, Bool.not_false, Bool.or_false, Bool.false_or, Bool.or_true, Bool.true_or]
    exact ct_iret E hr hk hS ⟨(by rw [e1]), (by rw [e2]; exact hP)⟩ dX5_floorOf_9

set_option maxHeartbeats 4000000 in
set_option maxRecDepth 100000 in
theorem c_X5_liftOf (l : Launch) (g : cG) (F : Nat → Prop) (o : Nat) (ad : Nat → Nat) (M : TT) (nR : Nat) (x : Int32) (hR : M 14 0 = nI nR) (hR30 : nR ≤ 30)  : CT l yX5_liftOf cX5_liftOf 2 (some .int) 3 64 0 0 g F [.ref o, .int x] (PM g F o ad M) (fun v9 H9 => v9 = some (.int ((mLiftOf M nR x).1)) ∧ PM g F o ad ((mLiftOf M nR x).2) H9) := by
  refine CT.of (by decide) rfl ?_
  intro p e s m args below meth c E hr hk hnm hP ls hl
  have hS : va_S (nF F) s.heap s.heap [] := va_S.rf
  have hx := E.1
  have hb := E.2.1
  have hE_ml := E.2.2.1
  have hown := E.2.2.2.1
  have hts := E.2.2.2.2.1
  have hG := E.2.2.2.2.2
  have hl : lv_has ls 2 [(0, .ref o), (1, .int x)] := hl
  refine lv_aload_n hx hb dX5_liftOf_0 rfl (lv_at hl 0 rfl) ?_
  refine lv_iload_n hx hb dX5_liftOf_1 rfl (lv_at hl 1 rfl) ?_
  refine ct_V E hS (c_X5_isNobody l g F o ad M nR x hR (by omega)) ok_X5_isNobody lk_X5_130 hP (PM.recv hG hP) rfl hl ⟨rfl, rfl⟩ rfl ⟨Nat.le_refl _, Nat.le_refl _⟩ dX5_liftOf_2 rfl (fun v9 H locs hv9 hS hz9 => ?_)
  obtain ⟨rfl, hP⟩ := hv9
  refine bz_eq (tgt := 10) hx hb dX5_liftOf_5 (by decide) (fun c_1 => ?_) (fun c_1 => ?_)
  · have b9 : bet x 0 (nI nR - 1) := Decidable.not_not.mp c_1
    rw [mNobody, if_pos b9] at hP
    obtain ⟨j, rfl, j_hi⟩ := betc_nI (n := nR) b9 (by omega)
    have j_cl : (nI j).toNatClampNeg = j := nI_clamp (by omega)
    refine lv_aload_n hx hb dX5_liftOf_10 rfl (lv_at hl 0 rfl) ?_
    refine mga E hP 10 dX5_liftOf_11 (kk := ?_)
    refine lv_iload_n hx hb dX5_liftOf_14 rfl (lv_at hl 1 rfl) ?_
    refine mli E hP 10 j (v := M 10 j) dX5_liftOf_15 rfl (show j < 30 by omega) (by simp [tu]) (kk := ?_)
    refine lv_if_ge (tgt := 27) hx hb dX5_liftOf_16 (by decide) (fun c_2 => ?_) (fun c_2 => ?_)
    · refine lv_aload_n hx hb dX5_liftOf_27 rfl (lv_at hl 0 rfl) ?_
      refine mga E hP 10 dX5_liftOf_28 (kk := ?_)
      refine lv_iload_n hx hb dX5_liftOf_31 rfl (lv_at hl 1 rfl) ?_
      refine mli E hP 10 j (v := M 10 j) dX5_liftOf_32 rfl (show j < 30 by omega) (by simp [tu]) (kk := ?_)
      have e1 : ((mLiftOf M nR (nI j)).1) = M 10 j := by simp only [mLiftOf, j_cl, eq_true b9, eq_true c_2, eq_false (Int32.not_lt.mpr c_2), Int32.not_lt.mpr, Int32.not_le.mp, if_true, if_false, reduceIte, true_and, and_true, false_and, and_false, true_or, or_true, false_or, or_false, not_true_eq_false, not_false_eq_true, decide_true, decide_false, Bool.true_and, Bool.and_true, Bool.false_and, Bool.and_false, Bool.not_true, Bool.not_false, Bool.or_false, Bool.false_or, Bool.or_true, Bool.true_or]
      have e2 : ((mLiftOf M nR (nI j)).2) = (tu M 0 0 0) := by simp only [mLiftOf, j_cl, eq_true b9, eq_true c_2, eq_false (Int32.not_lt.mpr c_2), Int32.not_lt.mpr, Int32.not_le.mp, if_true, if_false, reduceIte, true_and, and_true, false_and, and_false, true_or, or_true, false_or, or_false, not_true_eq_false, not_false_eq_true, decide_true, decide_false, Bool.true_and, Bool.and_true, Bool.false_and, Bool.and_false, Bool.not_true, Bool.not_false, Bool.or_false, Bool.false_or, Bool.or_true, Bool.true_or]
      exact ct_iret E hr hk hS ⟨(by rw [e1]), (by rw [e2]; exact hP)⟩ dX5_liftOf_33
    · refine lv_aload_n hx hb dX5_liftOf_19 rfl (lv_at hl 0 rfl) ?_
      refine lv_iconst (v := 2) hx hb dX5_liftOf_20 (by decide) ?_
      refine ct_V E hS (c_X5_fails l g F o ad (tu M 0 0 0) 2) ok_X5_fails lk_X5_80 hP (PM.recv hG hP) rfl hl ⟨rfl, rfl⟩ rfl ⟨Nat.le_refl _, Nat.le_refl _⟩ dX5_liftOf_21 rfl (fun v9 H locs hv9 hS hz9 => ?_)
      obtain ⟨rfl, hP⟩ := hv9
      refine lv_goto (tgt := 33) hx hb dX5_liftOf_24 (by decide) ?_
      have e1 : ((mLiftOf M nR (nI j)).1) = 0 := by simp only [mLiftOf, j_cl, eq_true b9, eq_false c_2, eq_true (Int32.not_le.mp c_2), Int32.not_lt.mpr, Int32.not_le.mp, if_true, if_false, reduceIte, true_and, and_true, false_and, and_false, true_or, or_true, false_or, or_false, not_true_eq_false, not_false_eq_true, decide_true, decide_false, Bool.true_and, Bool.and_true, Bool.false_and, Bool.and_false, Bool.not_true, Bool.not_false, Bool.or_false, Bool.false_or, Bool.or_true, Bool.true_or]
      have e2 : ((mLiftOf M nR (nI j)).2) = (tu (tu M 0 0 0) 0 0 2) := by simp only [mLiftOf, j_cl, eq_true b9, eq_false c_2, eq_true (Int32.not_le.mp c_2), Int32.not_lt.mpr, Int32.not_le.mp, if_true, if_false, reduceIte, true_and, and_true, false_and, and_false, true_or, or_true, false_or, or_false, not_true_eq_false, not_false_eq_true, decide_true, decide_false, Bool.true_and, Bool.and_true, Bool.false_and, Bool.and_false, Bool.not_true, Bool.not_false, Bool.or_false, Bool.false_or, Bool.or_true, Bool.true_or]
      exact ct_iret E hr hk hS ⟨(by rw [e1]), (by rw [e2]; exact hP)⟩ dX5_liftOf_33
  · have b9 : ¬ bet x 0 (nI nR - 1) := c_1
    rw [mNobody, if_neg b9] at hP
    refine lv_iconst (v := 0) hx hb dX5_liftOf_8 (by decide) ?_
    have e1 : ((mLiftOf M nR x).1) = 0 := by simp only [mLiftOf, mNobody, eq_false b9, Int32.not_lt.mpr, Int32.not_le.mp, if_true, if_false, reduceIte, true_and, and_true, false_and, and_false, true_or, or_true, false_or, or_false, not_true_eq_false, not_false_eq_true, decide_true, decide_false, Bool.true_and, Bool.and_true, Bool.false_and, Bool.and_false, Bool.not_true, Bool.not_false, Bool.or_false, Bool.false_or, Bool.or_true, Bool.true_or]
    have e2 : ((mLiftOf M nR x).2) = (tu M 0 0 1) := by simp only [mLiftOf, mNobody, eq_false b9, Int32.not_lt.mpr, Int32.not_le.mp, if_true, if_false, reduceIte, true_and, and_true, false_and, and_false, true_or, or_true, false_or, or_false, not_true_eq_false, not_false_eq_true, decide_true, decide_false, Bool.true_and, Bool.and_true, Bool.false_and, Bool.and_false, Bool.not_true, Bool.not_false, Bool.or_false, Bool.false_or, Bool.or_true, Bool.true_or]
    exact ct_iret E hr hk hS ⟨(by rw [e1]), (by rw [e2]; exact hP)⟩ dX5_liftOf_9

set_option maxHeartbeats 4000000 in
set_option maxRecDepth 100000 in
theorem c_X5_waitedBy (l : Launch) (g : cG) (F : Nat → Prop) (o : Nat) (ad : Nat → Nat) (M : TT) (r : Nat) (hr30 : r < 30) : CT l yX5_waitedBy cX5_waitedBy 2 (some .int) 0 0 0 0 g F [.ref o, .int (nI r)] (PM g F o ad M) (fun v9 H9 => v9 = some (.int (mWb M r)) ∧ PM g F o ad M H9) := by
  refine CT.of (by decide) rfl ?_
  intro p e s m args below meth c E hr hk hnm hP ls hl
  have hS : va_S (nF F) s.heap s.heap [] := va_S.rf
  have hx := E.1
  have hb := E.2.1
  have hE_ml := E.2.2.1
  have hown := E.2.2.2.1
  have hts := E.2.2.2.2.1
  have hG := E.2.2.2.2.2
  have hl : lv_has ls 2 [(0, .ref o), (1, .int (nI r))] := hl
  refine lv_aload_n hx hb dX5_waitedBy_0 rfl (lv_at hl 0 rfl) ?_
  refine mga E hP 13 dX5_waitedBy_1 (kk := ?_)
  refine lv_iload_n hx hb dX5_waitedBy_4 rfl (lv_at hl 1 rfl) ?_
  refine mlc E hP 13 r (v := M 13 r) dX5_waitedBy_5 rfl (show r < 30 by omega) rfl (kk := ?_)
  refine lv_bipush (v := 119) hx hb dX5_waitedBy_6 (by decide) ?_
  refine lv_icmp_ne (tgt := 18) hx hb dX5_waitedBy_8 (by decide) (fun c_1 => ?_) (fun c_1 => ?_)
  · refine lv_aload_n hx hb dX5_waitedBy_18 rfl (lv_at hl 0 rfl) ?_
    refine mga E hP 12 dX5_waitedBy_19 (kk := ?_)
    refine lv_iload_n hx hb dX5_waitedBy_22 rfl (lv_at hl 1 rfl) ?_
    refine mli E hP 12 r (v := M 12 r) dX5_waitedBy_23 rfl (show r < 30 by omega) rfl (kk := ?_)
    refine lv_aload_n hx hb dX5_waitedBy_24 rfl (lv_at hl 0 rfl) ?_
    refine mga E hP 11 dX5_waitedBy_25 (kk := ?_)
    refine lv_iload_n hx hb dX5_waitedBy_28 rfl (lv_at hl 1 rfl) ?_
    refine mli E hP 11 r (v := M 11 r) dX5_waitedBy_29 rfl (show r < 30 by omega) rfl (kk := ?_)
    refine lv_isub hx hb dX5_waitedBy_30 ?_
    have e1 : (mWb M r) = (M 12 r) - (M 11 r) := by simp only [mWb, eq_false c_1, if_true, if_false, reduceIte, true_and, and_true, false_and, and_false, true_or, or_true, false_or, or_false, not_true_eq_false, not_false_eq_true, decide_true, decide_false, Bool.true_and, Bool.and_true, Bool.false_and, Bool.and_false, Bool.not_true, Bool.not_false, Bool.or_false, Bool.false_or, Bool.or_true, Bool.true_or]
    exact ct_iret E hr hk hS ⟨(by rw [e1]), hP⟩ dX5_waitedBy_31
  · refine lv_aload_n hx hb dX5_waitedBy_11 rfl (lv_at hl 0 rfl) ?_
    refine mg E hP 23 (v := M 23 0) dX5_waitedBy_12 rfl (kk := ?_)
    refine lv_goto (tgt := 24) hx hb dX5_waitedBy_15 (by decide) ?_
    refine lv_aload_n hx hb dX5_waitedBy_24 rfl (lv_at hl 0 rfl) ?_
    refine mga E hP 11 dX5_waitedBy_25 (kk := ?_)
    refine lv_iload_n hx hb dX5_waitedBy_28 rfl (lv_at hl 1 rfl) ?_
    refine mli E hP 11 r (v := M 11 r) dX5_waitedBy_29 rfl (show r < 30 by omega) rfl (kk := ?_)
    refine lv_isub hx hb dX5_waitedBy_30 ?_
    have e1 : (mWb M r) = (M 23 0) - (M 11 r) := by simp only [mWb, eq_true c_1, if_true, if_false, reduceIte, true_and, and_true, false_and, and_false, true_or, or_true, false_or, or_false, not_true_eq_false, not_false_eq_true, decide_true, decide_false, Bool.true_and, Bool.and_true, Bool.false_and, Bool.and_false, Bool.not_true, Bool.not_false, Bool.or_false, Bool.false_or, Bool.or_true, Bool.true_or]
    exact ct_iret E hr hk hS ⟨(by rw [e1]), hP⟩ dX5_waitedBy_31

set_option maxHeartbeats 4000000 in
set_option maxRecDepth 100000 in
theorem c_X5_waited (l : Launch) (g : cG) (F : Nat → Prop) (o : Nat) (ad : Nat → Nat) (M : TT) (nR : Nat) (x : Int32) (hR : M 14 0 = nI nR) (hR30 : nR ≤ 30)  : CT l yX5_waited cX5_waited 2 (some .int) 3 64 0 0 g F [.ref o, .int x] (PM g F o ad M) (fun v9 H9 => v9 = some (.int (mWaited M nR x)) ∧ PM g F o ad (mNobody M nR x) H9) := by
  refine CT.of (by decide) rfl ?_
  intro p e s m args below meth c E hr hk hnm hP ls hl
  have hS : va_S (nF F) s.heap s.heap [] := va_S.rf
  have hx := E.1
  have hb := E.2.1
  have hE_ml := E.2.2.1
  have hown := E.2.2.2.1
  have hts := E.2.2.2.2.1
  have hG := E.2.2.2.2.2
  have hl : lv_has ls 2 [(0, .ref o), (1, .int x)] := hl
  refine lv_aload_n hx hb dX5_waited_0 rfl (lv_at hl 0 rfl) ?_
  refine lv_iload_n hx hb dX5_waited_1 rfl (lv_at hl 1 rfl) ?_
  refine ct_V E hS (c_X5_isNobody l g F o ad M nR x hR (by omega)) ok_X5_isNobody lk_X5_130 hP (PM.recv hG hP) rfl hl ⟨rfl, rfl⟩ rfl ⟨Nat.le_refl _, Nat.le_refl _⟩ dX5_waited_2 rfl (fun v9 H locs hv9 hS hz9 => ?_)
  obtain ⟨rfl, hP⟩ := hv9
  refine bz_eq (tgt := 12) hx hb dX5_waited_5 (by decide) (fun c_1 => ?_) (fun c_1 => ?_)
  · have b9 : bet x 0 (nI nR - 1) := Decidable.not_not.mp c_1
    rw [mNobody, if_pos b9] at hP
    obtain ⟨j, rfl, j_hi⟩ := betc_nI (n := nR) b9 (by omega)
    have j_cl : (nI j).toNatClampNeg = j := nI_clamp (by omega)
    refine lv_aload_n hx hb dX5_waited_12 rfl (lv_at hl 0 rfl) ?_
    refine lv_iload_n hx hb dX5_waited_13 rfl (lv_at hl 1 rfl) ?_
    refine ct_V E hS (c_X5_waitedBy l g F o ad (tu M 0 0 0) j (by omega)) ok_X5_waitedBy lk_X5_133 hP (PM.recv hG hP) rfl hl ⟨rfl, rfl⟩ rfl ⟨Nat.le_refl _, Nat.le_refl _⟩ dX5_waited_14 rfl (fun v9 H locs hv9 hS hz9 => ?_)
    obtain ⟨rfl, hP⟩ := hv9
    have e1 : (mWaited M nR (nI j)) = mWb (tu M 0 0 0) j := by simp only [mWaited, mWb_0, mNobody, eq_true b9, j_cl, if_true, if_false, reduceIte, true_and, and_true, false_and, and_false, true_or, or_true, false_or, or_false, not_true_eq_false, not_false_eq_true, decide_true, decide_false, Bool.true_and, Bool.and_true, Bool.false_and, Bool.and_false, Bool.not_true, Bool.not_false, Bool.or_false, Bool.false_or, Bool.or_true, Bool.true_or]
    have e2 : (mNobody M nR (nI j)) = (tu M 0 0 0) := by simp only [mWaited, mWb_0, mNobody, eq_true b9, j_cl, if_true, if_false, reduceIte, true_and, and_true, false_and, and_false, true_or, or_true, false_or, or_false, not_true_eq_false, not_false_eq_true, decide_true, decide_false, Bool.true_and, Bool.and_true, Bool.false_and, Bool.and_false, Bool.not_true, Bool.not_false, Bool.or_false, Bool.false_or, Bool.or_true, Bool.true_or]
    exact ct_iret E hr hk hS ⟨(by rw [e1]), (by rw [e2]; exact hP)⟩ dX5_waited_17
  · have b9 : ¬ bet x 0 (nI nR - 1) := c_1
    rw [mNobody, if_neg b9] at hP
    refine lv_iconst (v := 0) hx hb dX5_waited_8 (by decide) ?_
    refine lv_goto (tgt := 17) hx hb dX5_waited_9 (by decide) ?_
    have e1 : (mWaited M nR x) = 0 := by simp only [mWaited, mWb_0, mNobody, eq_false b9, if_true, if_false, reduceIte, true_and, and_true, false_and, and_false, true_or, or_true, false_or, or_false, not_true_eq_false, not_false_eq_true, decide_true, decide_false, Bool.true_and, Bool.and_true, Bool.false_and, Bool.and_false, Bool.not_true, Bool.not_false, Bool.or_false, Bool.false_or, Bool.or_true, Bool.true_or]
    have e2 : (mNobody M nR x) = (tu M 0 0 1) := by simp only [mWaited, mWb_0, mNobody, eq_false b9, if_true, if_false, reduceIte, true_and, and_true, false_and, and_false, true_or, or_true, false_or, or_false, not_true_eq_false, not_false_eq_true, decide_true, decide_false, Bool.true_and, Bool.and_true, Bool.false_and, Bool.and_false, Bool.not_true, Bool.not_false, Bool.or_false, Bool.false_or, Bool.or_true, Bool.true_or]
    exact ct_iret E hr hk hS ⟨(by rw [e1]), (by rw [e2]; exact hP)⟩ dX5_waited_17

set_option maxHeartbeats 4000000 in
set_option maxRecDepth 100000 in
theorem c_X5_waitedByLog (l : Launch) (g : cG) (F : Nat → Prop) (o : Nat) (ad : Nat → Nat) (M : TT) (nR : Nat) (x : Int32) (hR : M 14 0 = nI nR) (hR30 : nR ≤ 30) : CT l yX5_waitedByLog cX5_waitedByLog 2 (some .int) 4 85 0 0 g F [.ref o, .int x] (PM g F o ad M) (fun v9 H9 => v9 = some (.int (mWaited M nR x)) ∧ PM g F o ad (mNobody M nR x) H9) := by
  refine CT.of (by decide) rfl ?_
  intro p e s m args below meth c E hr hk hnm hP ls hl
  have hS : va_S (nF F) s.heap s.heap [] := va_S.rf
  have hx := E.1
  have hb := E.2.1
  have hE_ml := E.2.2.1
  have hown := E.2.2.2.1
  have hts := E.2.2.2.2.1
  have hG := E.2.2.2.2.2
  have hl : lv_has ls 2 [(0, .ref o), (1, .int x)] := hl
  refine lv_aload_n hx hb dX5_waitedByLog_0 rfl (lv_at hl 0 rfl) ?_
  refine lv_iload_n hx hb dX5_waitedByLog_1 rfl (lv_at hl 1 rfl) ?_
  refine ct_V E hS (c_X5_waited l g F o ad M nR x hR (by omega)) ok_X5_waited lk_X5_136 hP (PM.recv hG hP) rfl hl ⟨rfl, rfl⟩ rfl ⟨Nat.le_refl _, Nat.le_refl _⟩ dX5_waitedByLog_2 rfl (fun v9 H locs hv9 hS hz9 => ?_)
  obtain ⟨rfl, hP⟩ := hv9
  exact ct_iret E hr hk hS ⟨rfl, hP⟩ dX5_waitedByLog_5

set_option maxHeartbeats 4000000 in
set_option maxRecDepth 100000 in
theorem c_X5_entries (l : Launch) (g : cG) (F : Nat → Prop) (o : Nat) (ad : Nat → Nat) (M : TT)   : CT l yX5_entries cX5_entries 1 (some .int) 0 0 0 0 g F [.ref o] (PM g F o ad M) (fun v9 H9 => v9 = some (.int (M 15 0)) ∧ PM g F o ad (tu M 0 0 0) H9) := by
  refine CT.of (by decide) rfl ?_
  intro p e s m args below meth c E hr hk hnm hP ls hl
  have hS : va_S (nF F) s.heap s.heap [] := va_S.rf
  have hx := E.1
  have hb := E.2.1
  have hE_ml := E.2.2.1
  have hown := E.2.2.2.1
  have hts := E.2.2.2.2.1
  have hG := E.2.2.2.2.2
  have hl : lv_has ls 1 [(0, .ref o)] := hl
  refine lv_aload_n hx hb dX5_entries_0 rfl (lv_at hl 0 rfl) ?_
  refine lv_iconst (v := 0) hx hb dX5_entries_1 (by decide) ?_
  refine mp E hS hP 0 dX5_entries_2 rfl (kk := fun H locs hS hP => ?_)
  refine lv_aload_n hx hb dX5_entries_5 rfl (lv_at hl 0 rfl) ?_
  refine mg E hP 15 (v := M 15 0) dX5_entries_6 (by simp [tu]) (kk := ?_)
  exact ct_iret E hr hk hS ⟨rfl, hP⟩ dX5_entries_9

set_option maxHeartbeats 4000000 in
set_option maxRecDepth 100000 in
theorem c_X5_time (l : Launch) (g : cG) (F : Nat → Prop) (o : Nat) (ad : Nat → Nat) (M : TT)   : CT l yX5_time cX5_time 1 (some .int) 0 0 0 0 g F [.ref o] (PM g F o ad M) (fun v9 H9 => v9 = some (.int (M 23 0)) ∧ PM g F o ad (tu M 0 0 0) H9) := by
  refine CT.of (by decide) rfl ?_
  intro p e s m args below meth c E hr hk hnm hP ls hl
  have hS : va_S (nF F) s.heap s.heap [] := va_S.rf
  have hx := E.1
  have hb := E.2.1
  have hE_ml := E.2.2.1
  have hown := E.2.2.2.1
  have hts := E.2.2.2.2.1
  have hG := E.2.2.2.2.2
  have hl : lv_has ls 1 [(0, .ref o)] := hl
  refine lv_aload_n hx hb dX5_time_0 rfl (lv_at hl 0 rfl) ?_
  refine lv_iconst (v := 0) hx hb dX5_time_1 (by decide) ?_
  refine mp E hS hP 0 dX5_time_2 rfl (kk := fun H locs hS hP => ?_)
  refine lv_aload_n hx hb dX5_time_5 rfl (lv_at hl 0 rfl) ?_
  refine mg E hP 23 (v := M 23 0) dX5_time_6 (by simp [tu]) (kk := ?_)
  exact ct_iret E hr hk hS ⟨rfl, hP⟩ dX5_time_9

set_option maxHeartbeats 4000000 in
set_option maxRecDepth 100000 in
theorem c_X5_isAlarm (l : Launch) (g : cG) (F : Nat → Prop) (o : Nat) (ad : Nat → Nat) (M : TT)  (hz : narrow .boolean (.int (M 27 0)) = .int (M 27 0)) : CT l yX5_isAlarm cX5_isAlarm 1 (some .boolean) 0 0 0 0 g F [.ref o] (PM g F o ad M) (fun v9 H9 => v9 = some (.int (M 27 0)) ∧ PM g F o ad (tu M 0 0 0) H9) := by
  refine CT.of (by decide) rfl ?_
  intro p e s m args below meth c E hr hk hnm hP ls hl
  have hS : va_S (nF F) s.heap s.heap [] := va_S.rf
  have hx := E.1
  have hb := E.2.1
  have hE_ml := E.2.2.1
  have hown := E.2.2.2.1
  have hts := E.2.2.2.2.1
  have hG := E.2.2.2.2.2
  have hl : lv_has ls 1 [(0, .ref o)] := hl
  refine lv_aload_n hx hb dX5_isAlarm_0 rfl (lv_at hl 0 rfl) ?_
  refine lv_iconst (v := 0) hx hb dX5_isAlarm_1 (by decide) ?_
  refine mp E hS hP 0 dX5_isAlarm_2 rfl (kk := fun H locs hS hP => ?_)
  refine lv_aload_n hx hb dX5_isAlarm_5 rfl (lv_at hl 0 rfl) ?_
  refine mg E hP 27 (v := M 27 0) dX5_isAlarm_6 (by simp [tu]) (kk := ?_)
  exact ct_zret E hr hz hk hS ⟨rfl, hP⟩ dX5_isAlarm_9

set_option maxHeartbeats 4000000 in
set_option maxRecDepth 100000 in
theorem c_X5_opened (l : Launch) (g : cG) (F : Nat → Prop) (o : Nat) (ad : Nat → Nat) (M : TT)   : CT l yX5_opened cX5_opened 1 (some .int) 0 0 0 0 g F [.ref o] (PM g F o ad M) (fun v9 H9 => v9 = some (.int (M 24 0)) ∧ PM g F o ad (tu M 0 0 0) H9) := by
  refine CT.of (by decide) rfl ?_
  intro p e s m args below meth c E hr hk hnm hP ls hl
  have hS : va_S (nF F) s.heap s.heap [] := va_S.rf
  have hx := E.1
  have hb := E.2.1
  have hE_ml := E.2.2.1
  have hown := E.2.2.2.1
  have hts := E.2.2.2.2.1
  have hG := E.2.2.2.2.2
  have hl : lv_has ls 1 [(0, .ref o)] := hl
  refine lv_aload_n hx hb dX5_opened_0 rfl (lv_at hl 0 rfl) ?_
  refine lv_iconst (v := 0) hx hb dX5_opened_1 (by decide) ?_
  refine mp E hS hP 0 dX5_opened_2 rfl (kk := fun H locs hS hP => ?_)
  refine lv_aload_n hx hb dX5_opened_5 rfl (lv_at hl 0 rfl) ?_
  refine mg E hP 24 (v := M 24 0) dX5_opened_6 (by simp [tu]) (kk := ?_)
  exact ct_iret E hr hk hS ⟨rfl, hP⟩ dX5_opened_9

set_option maxHeartbeats 4000000 in
set_option maxRecDepth 100000 in
theorem c_X5_refused (l : Launch) (g : cG) (F : Nat → Prop) (o : Nat) (ad : Nat → Nat) (M : TT)   : CT l yX5_refused cX5_refused 1 (some .int) 0 0 0 0 g F [.ref o] (PM g F o ad M) (fun v9 H9 => v9 = some (.int (M 25 0)) ∧ PM g F o ad (tu M 0 0 0) H9) := by
  refine CT.of (by decide) rfl ?_
  intro p e s m args below meth c E hr hk hnm hP ls hl
  have hS : va_S (nF F) s.heap s.heap [] := va_S.rf
  have hx := E.1
  have hb := E.2.1
  have hE_ml := E.2.2.1
  have hown := E.2.2.2.1
  have hts := E.2.2.2.2.1
  have hG := E.2.2.2.2.2
  have hl : lv_has ls 1 [(0, .ref o)] := hl
  refine lv_aload_n hx hb dX5_refused_0 rfl (lv_at hl 0 rfl) ?_
  refine lv_iconst (v := 0) hx hb dX5_refused_1 (by decide) ?_
  refine mp E hS hP 0 dX5_refused_2 rfl (kk := fun H locs hS hP => ?_)
  refine lv_aload_n hx hb dX5_refused_5 rfl (lv_at hl 0 rfl) ?_
  refine mg E hP 25 (v := M 25 0) dX5_refused_6 (by simp [tu]) (kk := ?_)
  exact ct_iret E hr hk hS ⟨rfl, hP⟩ dX5_refused_9

set_option maxHeartbeats 4000000 in
set_option maxRecDepth 100000 in
theorem c_X5_service (l : Launch) (g : cG) (F : Nat → Prop) (o : Nat) (ad : Nat → Nat) (M : TT) (nL : Nat) (x : Int32) (hL : M 22 0 = nI nL) (hL3 : nL ≤ 3) (hC : ∀ r, r < nL → narrow .char (.int (M 20 r)) = .int (M 20 r)) : CT l yX5_service cX5_service 2 (some .char) 3 64 0 0 g F [.ref o, .int x] (PM g F o ad M) (fun v9 H9 => v9 = some (.int (mLiftGet M nL 20 x)) ∧ PM g F o ad (mNoLift M nL x) H9) := by
  refine CT.of (by decide) rfl ?_
  intro p e s m args below meth c E hr hk hnm hP ls hl
  have hS : va_S (nF F) s.heap s.heap [] := va_S.rf
  have hx := E.1
  have hb := E.2.1
  have hE_ml := E.2.2.1
  have hown := E.2.2.2.1
  have hts := E.2.2.2.2.1
  have hG := E.2.2.2.2.2
  have hl : lv_has ls 2 [(0, .ref o), (1, .int x)] := hl
  refine lv_aload_n hx hb dX5_service_0 rfl (lv_at hl 0 rfl) ?_
  refine lv_iload_n hx hb dX5_service_1 rfl (lv_at hl 1 rfl) ?_
  refine ct_V E hS (c_X5_isNoLift l g F o ad M nL x hL (by omega)) ok_X5_isNoLift lk_X5_145 hP (PM.recv hG hP) rfl hl ⟨rfl, rfl⟩ rfl ⟨Nat.le_refl _, Nat.le_refl _⟩ dX5_service_2 rfl (fun v9 H locs hv9 hS hz9 => ?_)
  obtain ⟨rfl, hP⟩ := hv9
  refine bz_eq (tgt := 12) hx hb dX5_service_5 (by decide) (fun c_1 => ?_) (fun c_1 => ?_)
  · have b9 : bet x 0 (nI nL - 1) := Decidable.not_not.mp c_1
    rw [mNoLift, if_pos b9] at hP
    obtain ⟨j, rfl, j_hi⟩ := betc_nI (n := nL) b9 (by omega)
    have j_cl : (nI j).toNatClampNeg = j := nI_clamp (by omega)
    refine lv_aload_n hx hb dX5_service_12 rfl (lv_at hl 0 rfl) ?_
    refine mga E hP 20 dX5_service_13 (kk := ?_)
    refine lv_iload_n hx hb dX5_service_16 rfl (lv_at hl 1 rfl) ?_
    refine mlc E hP 20 j (v := M 20 j) dX5_service_17 rfl (show j < 3 by omega) (by simp [tu]) (kk := ?_)
    have e1 : (mLiftGet M nL 20 (nI j)) = M 20 j := by simp only [mLiftGet, mNoLift, eq_true b9, j_cl, if_true, if_false, reduceIte, true_and, and_true, false_and, and_false, true_or, or_true, false_or, or_false, not_true_eq_false, not_false_eq_true, decide_true, decide_false, Bool.true_and, Bool.and_true, Bool.false_and, Bool.and_false, Bool.not_true, Bool.not_false, Bool.or_false, Bool.false_or, Bool.or_true, Bool.true_or]
    have e2 : (mNoLift M nL (nI j)) = (tu M 0 0 0) := by simp only [mLiftGet, mNoLift, eq_true b9, j_cl, if_true, if_false, reduceIte, true_and, and_true, false_and, and_false, true_or, or_true, false_or, or_false, not_true_eq_false, not_false_eq_true, decide_true, decide_false, Bool.true_and, Bool.and_true, Bool.false_and, Bool.and_false, Bool.not_true, Bool.not_false, Bool.or_false, Bool.false_or, Bool.or_true, Bool.true_or]
    exact ct_zret E hr (hC j j_hi) hk hS ⟨(by rw [e1]), (by rw [e2]; exact hP)⟩ dX5_service_18
  · have b9 : ¬ bet x 0 (nI nL - 1) := c_1
    rw [mNoLift, if_neg b9] at hP
    refine lv_iconst (v := 0) hx hb dX5_service_8 (by decide) ?_
    refine lv_goto (tgt := 18) hx hb dX5_service_9 (by decide) ?_
    have e1 : (mLiftGet M nL 20 x) = 0 := by simp only [mLiftGet, mNoLift, eq_false b9, if_true, if_false, reduceIte, true_and, and_true, false_and, and_false, true_or, or_true, false_or, or_false, not_true_eq_false, not_false_eq_true, decide_true, decide_false, Bool.true_and, Bool.and_true, Bool.false_and, Bool.and_false, Bool.not_true, Bool.not_false, Bool.or_false, Bool.false_or, Bool.or_true, Bool.true_or]
    have e2 : (mNoLift M nL x) = (tu M 0 0 1) := by simp only [mLiftGet, mNoLift, eq_false b9, if_true, if_false, reduceIte, true_and, and_true, false_and, and_false, true_or, or_true, false_or, or_false, not_true_eq_false, not_false_eq_true, decide_true, decide_false, Bool.true_and, Bool.and_true, Bool.false_and, Bool.and_false, Bool.not_true, Bool.not_false, Bool.or_false, Bool.false_or, Bool.or_true, Bool.true_or]
    exact ct_zret E hr (by decide) hk hS ⟨(by rw [e1]), (by rw [e2]; exact hP)⟩ dX5_service_18

set_option maxHeartbeats 4000000 in
set_option maxRecDepth 100000 in
theorem c_X5_floorOfLift (l : Launch) (g : cG) (F : Nat → Prop) (o : Nat) (ad : Nat → Nat) (M : TT) (nL : Nat) (x : Int32) (hL : M 22 0 = nI nL) (hL3 : nL ≤ 3)  : CT l yX5_floorOfLift cX5_floorOfLift 2 (some .int) 3 64 0 0 g F [.ref o, .int x] (PM g F o ad M) (fun v9 H9 => v9 = some (.int (mLiftGet M nL 18 x)) ∧ PM g F o ad (mNoLift M nL x) H9) := by
  refine CT.of (by decide) rfl ?_
  intro p e s m args below meth c E hr hk hnm hP ls hl
  have hS : va_S (nF F) s.heap s.heap [] := va_S.rf
  have hx := E.1
  have hb := E.2.1
  have hE_ml := E.2.2.1
  have hown := E.2.2.2.1
  have hts := E.2.2.2.2.1
  have hG := E.2.2.2.2.2
  have hl : lv_has ls 2 [(0, .ref o), (1, .int x)] := hl
  refine lv_aload_n hx hb dX5_floorOfLift_0 rfl (lv_at hl 0 rfl) ?_
  refine lv_iload_n hx hb dX5_floorOfLift_1 rfl (lv_at hl 1 rfl) ?_
  refine ct_V E hS (c_X5_isNoLift l g F o ad M nL x hL (by omega)) ok_X5_isNoLift lk_X5_145 hP (PM.recv hG hP) rfl hl ⟨rfl, rfl⟩ rfl ⟨Nat.le_refl _, Nat.le_refl _⟩ dX5_floorOfLift_2 rfl (fun v9 H locs hv9 hS hz9 => ?_)
  obtain ⟨rfl, hP⟩ := hv9
  refine bz_eq (tgt := 12) hx hb dX5_floorOfLift_5 (by decide) (fun c_1 => ?_) (fun c_1 => ?_)
  · have b9 : bet x 0 (nI nL - 1) := Decidable.not_not.mp c_1
    rw [mNoLift, if_pos b9] at hP
    obtain ⟨j, rfl, j_hi⟩ := betc_nI (n := nL) b9 (by omega)
    have j_cl : (nI j).toNatClampNeg = j := nI_clamp (by omega)
    refine lv_aload_n hx hb dX5_floorOfLift_12 rfl (lv_at hl 0 rfl) ?_
    refine mga E hP 18 dX5_floorOfLift_13 (kk := ?_)
    refine lv_iload_n hx hb dX5_floorOfLift_16 rfl (lv_at hl 1 rfl) ?_
    refine mli E hP 18 j (v := M 18 j) dX5_floorOfLift_17 rfl (show j < 3 by omega) (by simp [tu]) (kk := ?_)
    have e1 : (mLiftGet M nL 18 (nI j)) = M 18 j := by simp only [mLiftGet, mNoLift, eq_true b9, j_cl, if_true, if_false, reduceIte, true_and, and_true, false_and, and_false, true_or, or_true, false_or, or_false, not_true_eq_false, not_false_eq_true, decide_true, decide_false, Bool.true_and, Bool.and_true, Bool.false_and, Bool.and_false, Bool.not_true, Bool.not_false, Bool.or_false, Bool.false_or, Bool.or_true, Bool.true_or]
    have e2 : (mNoLift M nL (nI j)) = (tu M 0 0 0) := by simp only [mLiftGet, mNoLift, eq_true b9, j_cl, if_true, if_false, reduceIte, true_and, and_true, false_and, and_false, true_or, or_true, false_or, or_false, not_true_eq_false, not_false_eq_true, decide_true, decide_false, Bool.true_and, Bool.and_true, Bool.false_and, Bool.and_false, Bool.not_true, Bool.not_false, Bool.or_false, Bool.false_or, Bool.or_true, Bool.true_or]
    exact ct_iret E hr hk hS ⟨(by rw [e1]), (by rw [e2]; exact hP)⟩ dX5_floorOfLift_18
  · have b9 : ¬ bet x 0 (nI nL - 1) := c_1
    rw [mNoLift, if_neg b9] at hP
    refine lv_iconst (v := 0) hx hb dX5_floorOfLift_8 (by decide) ?_
    refine lv_goto (tgt := 18) hx hb dX5_floorOfLift_9 (by decide) ?_
    have e1 : (mLiftGet M nL 18 x) = 0 := by simp only [mLiftGet, mNoLift, eq_false b9, if_true, if_false, reduceIte, true_and, and_true, false_and, and_false, true_or, or_true, false_or, or_false, not_true_eq_false, not_false_eq_true, decide_true, decide_false, Bool.true_and, Bool.and_true, Bool.false_and, Bool.and_false, Bool.not_true, Bool.not_false, Bool.or_false, Bool.false_or, Bool.or_true, Bool.true_or]
    have e2 : (mNoLift M nL x) = (tu M 0 0 1) := by simp only [mLiftGet, mNoLift, eq_false b9, if_true, if_false, reduceIte, true_and, and_true, false_and, and_false, true_or, or_true, false_or, or_false, not_true_eq_false, not_false_eq_true, decide_true, decide_false, Bool.true_and, Bool.and_true, Bool.false_and, Bool.and_false, Bool.not_true, Bool.not_false, Bool.or_false, Bool.false_or, Bool.or_true, Bool.true_or]
    exact ct_iret E hr hk hS ⟨(by rw [e1]), (by rw [e2]; exact hP)⟩ dX5_floorOfLift_18

set_option maxHeartbeats 4000000 in
set_option maxRecDepth 100000 in
theorem c_X5_isUp (l : Launch) (g : cG) (F : Nat → Prop) (o : Nat) (ad : Nat → Nat) (M : TT) (nL : Nat) (x : Int32) (hL : M 22 0 = nI nL) (hL3 : nL ≤ 3)  : CT l yX5_isUp cX5_isUp 2 (some .boolean) 3 64 0 0 g F [.ref o, .int x] (PM g F o ad M) (fun v9 H9 => v9 = some (.int (mIsUp M nL x)) ∧ PM g F o ad (mNoLift M nL x) H9) := by
  refine CT.of (by decide) rfl ?_
  intro p e s m args below meth c E hr hk hnm hP ls hl
  have hS : va_S (nF F) s.heap s.heap [] := va_S.rf
  have hx := E.1
  have hb := E.2.1
  have hE_ml := E.2.2.1
  have hown := E.2.2.2.1
  have hts := E.2.2.2.2.1
  have hG := E.2.2.2.2.2
  have hl : lv_has ls 2 [(0, .ref o), (1, .int x)] := hl
  refine lv_aload_n hx hb dX5_isUp_0 rfl (lv_at hl 0 rfl) ?_
  refine lv_iload_n hx hb dX5_isUp_1 rfl (lv_at hl 1 rfl) ?_
  refine ct_V E hS (c_X5_isNoLift l g F o ad M nL x hL (by omega)) ok_X5_isNoLift lk_X5_145 hP (PM.recv hG hP) rfl hl ⟨rfl, rfl⟩ rfl ⟨Nat.le_refl _, Nat.le_refl _⟩ dX5_isUp_2 rfl (fun v9 H locs hv9 hS hz9 => ?_)
  obtain ⟨rfl, hP⟩ := hv9
  refine bz_ne (tgt := 21) hx hb dX5_isUp_5 (by decide) (fun c_1 => ?_) (fun c_1 => ?_)
  · have b9 : ¬ bet x 0 (nI nL - 1) := c_1
    rw [mNoLift, if_neg b9] at hP
    refine lv_iconst (v := 0) hx hb dX5_isUp_21 (by decide) ?_
    have e1 : (mIsUp M nL x) = 0 := by simp only [mIsUp, b2i, mNoLift, eq_false b9, if_true, if_false, reduceIte, true_and, and_true, false_and, and_false, true_or, or_true, false_or, or_false, not_true_eq_false, not_false_eq_true, decide_true, decide_false, Bool.true_and, Bool.and_true, Bool.false_and, Bool.and_false, Bool.not_true, Bool.not_false, Bool.or_false, Bool.false_or, Bool.or_true, Bool.true_or]
    have e2 : (mNoLift M nL x) = (tu M 0 0 1) := by simp only [mIsUp, b2i, mNoLift, eq_false b9, if_true, if_false, reduceIte, true_and, and_true, false_and, and_false, true_or, or_true, false_or, or_false, not_true_eq_false, not_false_eq_true, decide_true, decide_false, Bool.true_and, Bool.and_true, Bool.false_and, Bool.and_false, Bool.not_true, Bool.not_false, Bool.or_false, Bool.false_or, Bool.or_true, Bool.true_or]
    exact ct_zret E hr (by decide) hk hS ⟨(by rw [e1]), (by rw [e2]; exact hP)⟩ dX5_isUp_22
  · have b9 : bet x 0 (nI nL - 1) := Decidable.not_not.mp c_1
    rw [mNoLift, if_pos b9] at hP
    obtain ⟨j, rfl, j_hi⟩ := betc_nI (n := nL) b9 (by omega)
    have j_cl : (nI j).toNatClampNeg = j := nI_clamp (by omega)
    refine lv_aload_n hx hb dX5_isUp_8 rfl (lv_at hl 0 rfl) ?_
    refine mga E hP 21 dX5_isUp_9 (kk := ?_)
    refine lv_iload_n hx hb dX5_isUp_12 rfl (lv_at hl 1 rfl) ?_
    refine mlz E hP 21 j (v := M 21 j) dX5_isUp_13 rfl (show j < 3 by omega) (by simp [tu]) (kk := ?_)
    refine lv_if_eq (tgt := 21) hx hb dX5_isUp_14 (by decide) (fun c_2 => ?_) (fun c_2 => ?_)
    · refine lv_iconst (v := 0) hx hb dX5_isUp_21 (by decide) ?_
      have e1 : (mIsUp M nL (nI j)) = 0 := by simp only [mIsUp, b2i, mNoLift, eq_true b9, eq_true c_2, j_cl, if_true, if_false, reduceIte, true_and, and_true, false_and, and_false, true_or, or_true, false_or, or_false, not_true_eq_false, not_false_eq_true, decide_true, decide_false, Bool.true_and, Bool.and_true, Bool.false_and, Bool.and_false, Bool.not_true, Bool.not_false, Bool.or_false, Bool.false_or, Bool.or_true, Bool.true_or]
      have e2 : (mNoLift M nL (nI j)) = (tu M 0 0 0) := by simp only [mIsUp, b2i, mNoLift, eq_true b9, eq_true c_2, j_cl, if_true, if_false, reduceIte, true_and, and_true, false_and, and_false, true_or, or_true, false_or, or_false, not_true_eq_false, not_false_eq_true, decide_true, decide_false, Bool.true_and, Bool.and_true, Bool.false_and, Bool.and_false, Bool.not_true, Bool.not_false, Bool.or_false, Bool.false_or, Bool.or_true, Bool.true_or]
      exact ct_zret E hr (by decide) hk hS ⟨(by rw [e1]), (by rw [e2]; exact hP)⟩ dX5_isUp_22
    · refine lv_iconst (v := 1) hx hb dX5_isUp_17 (by decide) ?_
      refine lv_goto (tgt := 22) hx hb dX5_isUp_18 (by decide) ?_
      have e1 : (mIsUp M nL (nI j)) = 1 := by simp only [mIsUp, b2i, mNoLift, eq_true b9, eq_false c_2, j_cl, if_true, if_false, reduceIte, true_and, and_true, false_and, and_false, true_or, or_true, false_or, or_false, not_true_eq_false, not_false_eq_true, decide_true, decide_false, Bool.true_and, Bool.and_true, Bool.false_and, Bool.and_false, Bool.not_true, Bool.not_false, Bool.or_false, Bool.false_or, Bool.or_true, Bool.true_or]
      have e2 : (mNoLift M nL (nI j)) = (tu M 0 0 0) := by simp only [mIsUp, b2i, mNoLift, eq_true b9, eq_false c_2, j_cl, if_true, if_false, reduceIte, true_and, and_true, false_and, and_false, true_or, or_true, false_or, or_false, not_true_eq_false, not_false_eq_true, decide_true, decide_false, Bool.true_and, Bool.and_true, Bool.false_and, Bool.and_false, Bool.not_true, Bool.not_false, Bool.or_false, Bool.false_or, Bool.or_true, Bool.true_or]
      exact ct_zret E hr (by decide) hk hS ⟨(by rw [e1]), (by rw [e2]; exact hP)⟩ dX5_isUp_22

set_option maxHeartbeats 4000000 in
set_option maxRecDepth 100000 in
theorem c_X5_aboard (l : Launch) (g : cG) (F : Nat → Prop) (o : Nat) (ad : Nat → Nat) (M : TT) (nR nL : Nat) (x : Int32) (hL : M 22 0 = nI nL) (hL3 : nL ≤ 3) (hR : M 14 0 = nI nR) (hR30 : nR ≤ 30) : CT l yX5_aboard cX5_aboard 2 (some .int) 3 64 0 0 g F [.ref o, .int x] (PM g F o ad M) (fun v9 H9 => v9 = some (.int (mAboard M nR nL x)) ∧ PM g F o ad (mNoLift M nL x) H9) := by
  refine CT.of (by decide) rfl ?_
  intro p e s m args below meth c E hr hk hnm hP ls hl
  have hS : va_S (nF F) s.heap s.heap [] := va_S.rf
  have hx := E.1
  have hb := E.2.1
  have hE_ml := E.2.2.1
  have hown := E.2.2.2.1
  have hts := E.2.2.2.2.1
  have hG := E.2.2.2.2.2
  have hl : lv_has ls 2 [(0, .ref o), (1, .int x)] := hl
  refine lv_aload_n hx hb dX5_aboard_0 rfl (lv_at hl 0 rfl) ?_
  refine lv_iload_n hx hb dX5_aboard_1 rfl (lv_at hl 1 rfl) ?_
  refine ct_V E hS (c_X5_isNoLift l g F o ad M nL x hL (by omega)) ok_X5_isNoLift lk_X5_145 hP (PM.recv hG hP) rfl hl ⟨rfl, rfl⟩ rfl ⟨Nat.le_refl _, Nat.le_refl _⟩ dX5_aboard_2 rfl (fun v9 H locs hv9 hS hz9 => ?_)
  obtain ⟨rfl, hP⟩ := hv9
  refine bz_eq (tgt := 12) hx hb dX5_aboard_5 (by decide) (fun c_1 => ?_) (fun c_1 => ?_)
  · have b9 : bet x 0 (nI nL - 1) := Decidable.not_not.mp c_1
    rw [mNoLift, if_pos b9] at hP
    obtain ⟨j, rfl, j_hi⟩ := betc_nI (n := nL) b9 (by omega)
    have j_cl : (nI j).toNatClampNeg = j := nI_clamp (by omega)
    refine lv_aload_n hx hb dX5_aboard_12 rfl (lv_at hl 0 rfl) ?_
    refine lv_iload_n hx hb dX5_aboard_13 rfl (lv_at hl 1 rfl) ?_
    refine ct_V E hS (c_X5_aboardMany l g F o ad (tu M 0 0 0) nR j (by simp [tu, hR]) hR30) ok_X5_aboardMany lk_X5_148 hP (PM.recv hG hP) rfl hl ⟨rfl, rfl⟩ rfl ⟨Nat.le_refl _, Nat.le_refl _⟩ dX5_aboard_14 rfl (fun v9 H locs hv9 hS hz9 => ?_)
    obtain ⟨rfl, hP⟩ := hv9
    have e1 : (mAboard M nR nL (nI j)) = mAb (tu M 0 0 0) j nR := by simp only [mAboard, mAb_0, mNoLift, eq_true b9, j_cl, if_true, if_false, reduceIte, true_and, and_true, false_and, and_false, true_or, or_true, false_or, or_false, not_true_eq_false, not_false_eq_true, decide_true, decide_false, Bool.true_and, Bool.and_true, Bool.false_and, Bool.and_false, Bool.not_true, Bool.not_false, Bool.or_false, Bool.false_or, Bool.or_true, Bool.true_or]
    have e2 : (mNoLift M nL (nI j)) = (tu M 0 0 0) := by simp only [mAboard, mAb_0, mNoLift, eq_true b9, j_cl, if_true, if_false, reduceIte, true_and, and_true, false_and, and_false, true_or, or_true, false_or, or_false, not_true_eq_false, not_false_eq_true, decide_true, decide_false, Bool.true_and, Bool.and_true, Bool.false_and, Bool.and_false, Bool.not_true, Bool.not_false, Bool.or_false, Bool.false_or, Bool.or_true, Bool.true_or]
    exact ct_iret E hr hk hS ⟨(by rw [e1]), (by rw [e2]; exact hP)⟩ dX5_aboard_17
  · have b9 : ¬ bet x 0 (nI nL - 1) := c_1
    rw [mNoLift, if_neg b9] at hP
    refine lv_iconst (v := 0) hx hb dX5_aboard_8 (by decide) ?_
    refine lv_goto (tgt := 17) hx hb dX5_aboard_9 (by decide) ?_
    have e1 : (mAboard M nR nL x) = 0 := by simp only [mAboard, mAb_0, mNoLift, eq_false b9, if_true, if_false, reduceIte, true_and, and_true, false_and, and_false, true_or, or_true, false_or, or_false, not_true_eq_false, not_false_eq_true, decide_true, decide_false, Bool.true_and, Bool.and_true, Bool.false_and, Bool.and_false, Bool.not_true, Bool.not_false, Bool.or_false, Bool.false_or, Bool.or_true, Bool.true_or]
    have e2 : (mNoLift M nL x) = (tu M 0 0 1) := by simp only [mAboard, mAb_0, mNoLift, eq_false b9, if_true, if_false, reduceIte, true_and, and_true, false_and, and_false, true_or, or_true, false_or, or_false, not_true_eq_false, not_false_eq_true, decide_true, decide_false, Bool.true_and, Bool.and_true, Bool.false_and, Bool.and_false, Bool.not_true, Bool.not_false, Bool.or_false, Bool.false_or, Bool.or_true, Bool.true_or]
    exact ct_iret E hr hk hS ⟨(by rw [e1]), (by rw [e2]; exact hP)⟩ dX5_aboard_17

set_option maxHeartbeats 4000000 in
set_option maxRecDepth 100000 in
theorem c_X5_score (l : Launch) (g : cG) (F : Nat → Prop) (o : Nat) (ad : Nat → Nat) (M : TT) (nR nL : Nat) (x y : Int32) (hR : M 14 0 = nI nR) (hR30 : nR ≤ 30) (hL : M 22 0 = nI nL) (hL3 : nL ≤ 3) : CT l yX5_score cX5_score 3 (some .int) 2 45 0 0 g F [.ref o, .int x, .int y] (PM g F o ad M) (fun v9 H9 => v9 = some (.int ((mScoreA M nR nL x y).1)) ∧ PM g F o ad ((mScoreA M nR nL x y).2) H9) := by
  refine CT.of (by decide) rfl ?_
  intro p e s m args below meth c E hr hk hnm hP ls hl
  have hS : va_S (nF F) s.heap s.heap [] := va_S.rf
  have hx := E.1
  have hb := E.2.1
  have hE_ml := E.2.2.1
  have hown := E.2.2.2.1
  have hts := E.2.2.2.2.1
  have hG := E.2.2.2.2.2
  have hl : lv_has ls 3 [(0, .ref o), (1, .int x), (2, .int y)] := hl
  refine lv_aload_n hx hb dX5_score_0 rfl (lv_at hl 0 rfl) ?_
  refine lv_aload_n hx hb dX5_score_1 rfl (lv_at hl 0 rfl) ?_
  refine lv_iload_n hx hb dX5_score_2 rfl (lv_at hl 1 rfl) ?_
  refine ct_V E hS (c_X5_isLift l g F o ad M x (nI nL) hL) ok_X5_isLift lk_X5_139 hP (PM.recv hG hP) rfl hl ⟨rfl, rfl⟩ rfl ⟨Nat.le_refl _, Nat.le_refl _⟩ dX5_score_3 rfl (fun v9 H locs hv9 hS hz9 => ?_)
  obtain ⟨rfl, hP⟩ := hv9
  refine bz_eq (tgt := 20) hx hb dX5_score_6 (by decide) (fun c_1 => ?_) (fun c_1 => ?_)
  · refine lv_iconst (v := 1) hx hb dX5_score_20 (by decide) ?_
    refine mp E hS hP 0 dX5_score_21 rfl (kk := fun H locs hS hP => ?_)
    refine lv_aload_n hx hb dX5_score_24 rfl (lv_at hl 0 rfl) ?_
    refine mg E hP 0 (v := 1) dX5_score_25 (by simp [tu]) (kk := ?_)
    refine lv_if_le (tgt := 35) hx hb dX5_score_28 (by decide) (fun c_2 => ?_) (fun c_2 => ?_)
    · exact absurd c_2 (by decide)
    · refine lv_iconst (v := 0) hx hb dX5_score_31 (by decide) ?_
      refine lv_goto (tgt := 41) hx hb dX5_score_32 (by decide) ?_
      have e1 : ((mScoreA M nR nL x y).1) = 0 := by simp only [mScoreA, mScore_0, eq_false c_1, eq_false c_2, if_true, if_false, reduceIte, true_and, and_true, false_and, and_false, true_or, or_true, false_or, or_false, not_true_eq_false, not_false_eq_true, decide_true, decide_false, Bool.true_and, Bool.and_true, Bool.false_and, Bool.and_false, Bool.not_true, Bool.not_false, Bool.or_false, Bool.false_or, Bool.or_true, Bool.true_or]
      have e2 : ((mScoreA M nR nL x y).2) = (tu M 0 0 1) := by simp only [mScoreA, mScore_0, eq_false c_1, eq_false c_2, if_true, if_false, reduceIte, true_and, and_true, false_and, and_false, true_or, or_true, false_or, or_false, not_true_eq_false, not_false_eq_true, decide_true, decide_false, Bool.true_and, Bool.and_true, Bool.false_and, Bool.and_false, Bool.not_true, Bool.not_false, Bool.or_false, Bool.false_or, Bool.or_true, Bool.true_or]
      exact ct_iret E hr hk hS ⟨(by rw [e1]), (by rw [e2]; exact hP)⟩ dX5_score_41
  · obtain ⟨j, rfl, j_hi⟩ := betc_nI (n := nL) c_1 (by omega)
    have j_cl : (nI j).toNatClampNeg = j := nI_clamp (by omega)
    refine lv_iload_n hx hb dX5_score_9 rfl (lv_at hl 2 rfl) ?_
    refine ct_S E hS (c_X5_isFloor l g F _ y) ok_X5_isFloor lk_X5_94 hP rfl hl ⟨rfl, rfl⟩ rfl ⟨Nat.le_refl _, Nat.le_refl _⟩ dX5_score_10 rfl (fun v9 H locs hv9 hS hz9 => ?_)
    obtain ⟨rfl, hP⟩ := hv9
    refine bz_eq (tgt := 20) hx hb dX5_score_13 (by decide) (fun c_3 => ?_) (fun c_3 => ?_)
    · refine lv_iconst (v := 1) hx hb dX5_score_20 (by decide) ?_
      refine mp E hS hP 0 dX5_score_21 rfl (kk := fun H locs hS hP => ?_)
      refine lv_aload_n hx hb dX5_score_24 rfl (lv_at hl 0 rfl) ?_
      refine mg E hP 0 (v := 1) dX5_score_25 (by simp [tu]) (kk := ?_)
      refine lv_if_le (tgt := 35) hx hb dX5_score_28 (by decide) (fun c_4 => ?_) (fun c_4 => ?_)
      · exact absurd c_4 (by decide)
      · refine lv_iconst (v := 0) hx hb dX5_score_31 (by decide) ?_
        refine lv_goto (tgt := 41) hx hb dX5_score_32 (by decide) ?_
        have e1 : ((mScoreA M nR nL (nI j) y).1) = 0 := by simp only [mScoreA, mScore_0, eq_true c_1, eq_false c_3, eq_false c_4, j_cl, if_true, if_false, reduceIte, true_and, and_true, false_and, and_false, true_or, or_true, false_or, or_false, not_true_eq_false, not_false_eq_true, decide_true, decide_false, Bool.true_and, Bool.and_true, Bool.false_and, Bool.and_false, Bool.not_true, Bool.not_false, Bool.or_false, Bool.false_or, Bool.or_true, Bool.true_or]
        have e2 : ((mScoreA M nR nL (nI j) y).2) = (tu M 0 0 1) := by simp only [mScoreA, mScore_0, eq_true c_1, eq_false c_3, eq_false c_4, j_cl, if_true, if_false, reduceIte, true_and, and_true, false_and, and_false, true_or, or_true, false_or, or_false, not_true_eq_false, not_false_eq_true, decide_true, decide_false, Bool.true_and, Bool.and_true, Bool.false_and, Bool.and_false, Bool.not_true, Bool.not_false, Bool.or_false, Bool.false_or, Bool.or_true, Bool.true_or]
        exact ct_iret E hr hk hS ⟨(by rw [e1]), (by rw [e2]; exact hP)⟩ dX5_score_41
    · refine lv_iconst (v := 0) hx hb dX5_score_16 (by decide) ?_
      refine lv_goto (tgt := 21) hx hb dX5_score_17 (by decide) ?_
      refine mp E hS hP 0 dX5_score_21 rfl (kk := fun H locs hS hP => ?_)
      refine lv_aload_n hx hb dX5_score_24 rfl (lv_at hl 0 rfl) ?_
      refine mg E hP 0 (v := 0) dX5_score_25 (by simp [tu]) (kk := ?_)
      refine lv_if_le (tgt := 35) hx hb dX5_score_28 (by decide) (fun c_5 => ?_) (fun c_5 => ?_)
      · refine lv_aload_n hx hb dX5_score_35 rfl (lv_at hl 0 rfl) ?_
        refine lv_iload_n hx hb dX5_score_36 rfl (lv_at hl 1 rfl) ?_
        refine lv_iload_n hx hb dX5_score_37 rfl (lv_at hl 2 rfl) ?_
        refine ct_V E hS (c_X5_scoreOf l g F o ad (tu M 0 0 0) nR j y (by simp [tu, hR]) (by omega) (by omega)) ok_X5_scoreOf lk_X5_106 hP (PM.recv hG hP) rfl hl ⟨rfl, rfl⟩ rfl ⟨Nat.le_refl _, Nat.le_refl _⟩ dX5_score_38 rfl (fun v9 H locs hv9 hS hz9 => ?_)
        obtain ⟨rfl, hP⟩ := hv9
        have e1 : ((mScoreA M nR nL (nI j) y).1) = mScore (tu M 0 0 0) nR j y := by simp only [mScoreA, mScore_0, eq_true c_1, eq_true c_3, eq_true c_5, j_cl, if_true, if_false, reduceIte, true_and, and_true, false_and, and_false, true_or, or_true, false_or, or_false, not_true_eq_false, not_false_eq_true, decide_true, decide_false, Bool.true_and, Bool.and_true, Bool.false_and, Bool.and_false, Bool.not_true, Bool.not_false, Bool.or_false, Bool.false_or, Bool.or_true, Bool.true_or]
        have e2 : ((mScoreA M nR nL (nI j) y).2) = (tu M 0 0 0) := by simp only [mScoreA, mScore_0, eq_true c_1, eq_true c_3, eq_true c_5, j_cl, if_true, if_false, reduceIte, true_and, and_true, false_and, and_false, true_or, or_true, false_or, or_false, not_true_eq_false, not_false_eq_true, decide_true, decide_false, Bool.true_and, Bool.and_true, Bool.false_and, Bool.and_false, Bool.not_true, Bool.not_false, Bool.or_false, Bool.false_or, Bool.or_true, Bool.true_or]
        exact ct_iret E hr hk hS ⟨(by rw [e1]), (by rw [e2]; exact hP)⟩ dX5_score_41
      · exact absurd (by decide : (0 : Int32) ≤ (0)) c_5

set_option maxHeartbeats 4000000 in
set_option maxRecDepth 100000 in
theorem c_X5_frees (l : Launch) (g : cG) (F : Nat → Prop) (o : Nat) (ad : Nat → Nat) (M : TT) (nR : Nat) (lf : Int32) (hR : M 14 0 = nI nR) (hR30 : nR ≤ 30) : CT l yX5_frees cX5_frees 4 (some .int) 0 0 0 0 g F [.ref o, .int lf] (PM g F o ad M) (fun v9 H9 => v9 = some (.int ((mFrees M lf nR).2)) ∧ PM g F o ad ((mFrees M lf nR).1) H9) := by
  refine CT.of (by decide) rfl ?_
  intro p e s m args below meth c E hr hk hnm hP ls hl
  have hS : va_S (nF F) s.heap s.heap [] := va_S.rf
  have hx := E.1
  have hb := E.2.1
  have hE_ml := E.2.2.1
  have hown := E.2.2.2.1
  have hts := E.2.2.2.2.1
  have hG := E.2.2.2.2.2
  have hl : lv_has ls 4 [(0, .ref o), (1, .int lf)] := hl
  refine lv_iconst (v := 0) hx hb dX5_frees_0 (by decide) ?_
  refine lv_istore_n (lv' := [(2, .int 0), (0, .ref o), (1, .int lf)]) hx hb dX5_frees_1 rfl hl (by decide) rfl (fun ls hl => ?_)
  refine lv_iconst (v := 0) hx hb dX5_frees_2 (by decide) ?_
  refine lv_istore_n (lv' := [(3, .int 0), (2, .int 0), (0, .ref o), (1, .int lf)]) hx hb dX5_frees_3 rfl hl (by decide) rfl (fun ls hl => ?_)
  have LP : ∀ (n9 i : Nat) (Mi : TT) (a9 : Int32), i ≤ nR → nR < i + n9 → (Mi = (mFrees M lf i).1) → (a9 = (mFrees M lf i).2) → (∀ k, k ≠ 10 → Mi k = M k) → ∀ (H : Heap) (locs : List Loc), va_S (nF F) s.heap H locs → PM g F o ad Mi H → ∀ (ls : Array Slot), lv_has ls 4 [(0, .ref o), (1, .int lf), (2, .int a9), (3, .int (nI i))] → W p l e { frames := 0, cells := 0, slots := 0, locals := 0 } s m args below meth c H locs 0 0 (MQ below (Qg F (fun v9 H9 => v9 = some (.int ((mFrees M lf nR).2)) ∧ PM g F o ad ((mFrees M lf nR).1) H9)) args s 0 0 (nF F)) (F0 m 4 ls []) := by
    intro n9
    induction n9 with
    | zero => intro i Mi a9 hi9 hn9; exact absurd hn9 (by omega)
    | succ n9 ihLP =>
      intro i Mi a9 hi_LP hn_LP hMi ha hq H locs hS hP ls hl
      refine lv_iload_n hx hb dX5_frees_4 rfl (lv_at hl 3 rfl) ?_
      refine lv_aload_n hx hb dX5_frees_5 rfl (lv_at hl 0 rfl) ?_
      refine mg E hP 14 (v := (nI nR)) dX5_frees_6 ((congrFun (hq 14 (by decide)) _).trans hR) (kk := ?_)
      refine lv_icmp_ge (tgt := 65) hx hb dX5_frees_9 (by decide) (fun c_1 => ?_) (fun c_1 => ?_)
      · have n_c_1 : nR ≤ i := (nI_leI (by omega) (by omega)).mp c_1
        refine lv_iload_n hx hb dX5_frees_65 rfl (lv_at hl 2 rfl) ?_
        have e1 : ((mFrees M lf nR).2) = a9 := by rw [show nR = i by omega]; exact ha.symm
        have e2 : ((mFrees M lf nR).1) = Mi := by rw [show nR = i by omega]; exact hMi.symm
        exact ct_iret E hr hk hS ⟨(by rw [e1]), (by rw [e2]; exact hP)⟩ dX5_frees_66
      · have n_c_1 : i < nR := Nat.lt_of_not_le (fun h9 => c_1 (nI_le h9 (by omega)))
        refine lv_aload_n hx hb dX5_frees_12 rfl (lv_at hl 0 rfl) ?_
        refine mga E hP 13 dX5_frees_13 (kk := ?_)
        refine lv_iload_n hx hb dX5_frees_16 rfl (lv_at hl 3 rfl) ?_
        refine mlc E hP 13 i (v := Mi 13 i) dX5_frees_17 rfl (show i < 30 by omega) rfl (kk := ?_)
        refine lv_bipush (v := 119) hx hb dX5_frees_18 (by decide) ?_
        refine lv_icmp_ne (tgt := 59) hx hb dX5_frees_20 (by decide) (fun c_2 => ?_) (fun c_2 => ?_)
        · refine lv_iinc (v := (nI (i + 1))) (lv' := [(3, .int (nI (i + 1))), (0, .ref o), (1, .int lf), (2, .int a9)]) hx hb dX5_frees_59 hl (k := 3) rfl (by rw [nI_succ]; rfl) (by decide) rfl (fun ls hl => ?_)
          refine lv_goto (tgt := 4) hx hb dX5_frees_62 (by decide) ?_
          exact ihLP (i + 1) Mi a9 (by omega) (by omega) (by simp only [mFrees, mFs, ← hMi, ← ha, eq_false c_1, eq_false c_2, if_true, if_false, reduceIte, true_and, and_true, false_and, and_false, true_or, or_true, false_or, or_false, not_true_eq_false, not_false_eq_true, decide_true, decide_false, Bool.true_and, Bool.and_true, Bool.false_and, Bool.and_false, Bool.not_true, Bool.not_false, Bool.or_false, Bool.false_or, Bool.or_true, Bool.true_or]) (by simp only [mFrees, mFs, ← hMi, ← ha, eq_false c_1, eq_false c_2, if_true, if_false, reduceIte, true_and, and_true, false_and, and_false, true_or, or_true, false_or, or_false, not_true_eq_false, not_false_eq_true, decide_true, decide_false, Bool.true_and, Bool.and_true, Bool.false_and, Bool.and_false, Bool.not_true, Bool.not_false, Bool.or_false, Bool.false_or, Bool.or_true, Bool.true_or]) hq H locs hS hP ls (lv_sub hl [1, 2, 3, 0] rfl)
        · refine lv_aload_n hx hb dX5_frees_23 rfl (lv_at hl 0 rfl) ?_
          refine mga E hP 10 dX5_frees_24 (kk := ?_)
          refine lv_iload_n hx hb dX5_frees_27 rfl (lv_at hl 3 rfl) ?_
          refine mli E hP 10 i (v := Mi 10 i) dX5_frees_28 rfl (show i < 30 by omega) rfl (kk := ?_)
          refine lv_if_lt (tgt := 59) hx hb dX5_frees_29 (by decide) (fun c_3 => ?_) (fun c_3 => ?_)
          · refine lv_iinc (v := (nI (i + 1))) (lv' := [(3, .int (nI (i + 1))), (0, .ref o), (1, .int lf), (2, .int a9)]) hx hb dX5_frees_59 hl (k := 3) rfl (by rw [nI_succ]; rfl) (by decide) rfl (fun ls hl => ?_)
            refine lv_goto (tgt := 4) hx hb dX5_frees_62 (by decide) ?_
            exact ihLP (i + 1) Mi a9 (by omega) (by omega) (by simp only [mFrees, mFs, ← hMi, ← ha, eq_false c_1, eq_true c_2, eq_true c_3, if_true, if_false, reduceIte, true_and, and_true, false_and, and_false, true_or, or_true, false_or, or_false, not_true_eq_false, not_false_eq_true, decide_true, decide_false, Bool.true_and, Bool.and_true, Bool.false_and, Bool.and_false, Bool.not_true, Bool.not_false, Bool.or_false, Bool.false_or, Bool.or_true, Bool.true_or]) (by simp only [mFrees, mFs, ← hMi, ← ha, eq_false c_1, eq_true c_2, eq_true c_3, if_true, if_false, reduceIte, true_and, and_true, false_and, and_false, true_or, or_true, false_or, or_false, not_true_eq_false, not_false_eq_true, decide_true, decide_false, Bool.true_and, Bool.and_true, Bool.false_and, Bool.and_false, Bool.not_true, Bool.not_false, Bool.or_false, Bool.false_or, Bool.or_true, Bool.true_or]) hq H locs hS hP ls (lv_sub hl [1, 2, 3, 0] rfl)
          · refine lv_iload_n hx hb dX5_frees_32 rfl (lv_at hl 1 rfl) ?_
            refine lv_if_lt (tgt := 49) hx hb dX5_frees_33 (by decide) (fun c_4 => ?_) (fun c_4 => ?_)
            · refine lv_aload_n hx hb dX5_frees_49 rfl (lv_at hl 0 rfl) ?_
              refine mga E hP 10 dX5_frees_50 (kk := ?_)
              refine lv_iload_n hx hb dX5_frees_53 rfl (lv_at hl 3 rfl) ?_
              refine lv_iconst (v := (-1)) hx hb dX5_frees_54 (by decide) ?_
              refine msi E hS hP 10 i dX5_frees_55 rfl (show i < 30 by omega) (kk := fun H locs hS hP => ?_)
              refine lv_iinc (v := a9 + 1) (lv' := [(2, .int (a9 + 1)), (0, .ref o), (1, .int lf), (3, .int (nI i))]) hx hb dX5_frees_56 hl (k := 2) rfl (by rfl) (by decide) rfl (fun ls hl => ?_)
              refine lv_iinc (v := (nI (i + 1))) (lv' := [(3, .int (nI (i + 1))), (2, .int (a9 + 1)), (0, .ref o), (1, .int lf)]) hx hb dX5_frees_59 hl (k := 3) rfl (by rw [nI_succ]; rfl) (by decide) rfl (fun ls hl => ?_)
              refine lv_goto (tgt := 4) hx hb dX5_frees_62 (by decide) ?_
              exact ihLP (i + 1) (tu Mi 10 i (-1)) (a9 + 1) (by omega) (by omega) (by simp only [mFrees, mFs, ← hMi, ← ha, eq_false c_1, eq_true c_2, eq_false c_3, eq_true c_4, if_true, if_false, reduceIte, true_and, and_true, false_and, and_false, true_or, or_true, false_or, or_false, not_true_eq_false, not_false_eq_true, decide_true, decide_false, Bool.true_and, Bool.and_true, Bool.false_and, Bool.and_false, Bool.not_true, Bool.not_false, Bool.or_false, Bool.false_or, Bool.or_true, Bool.true_or]) (by simp only [mFrees, mFs, ← hMi, ← ha, eq_false c_1, eq_true c_2, eq_false c_3, eq_true c_4, if_true, if_false, reduceIte, true_and, and_true, false_and, and_false, true_or, or_true, false_or, or_false, not_true_eq_false, not_false_eq_true, decide_true, decide_false, Bool.true_and, Bool.and_true, Bool.false_and, Bool.and_false, Bool.not_true, Bool.not_false, Bool.or_false, Bool.false_or, Bool.or_true, Bool.true_or]) (fun k hk9 => by rw [tu_r hk9]; exact hq k hk9) H locs hS hP ls (lv_sub hl [2, 3, 1, 0] rfl)
            · refine lv_aload_n hx hb dX5_frees_36 rfl (lv_at hl 0 rfl) ?_
              refine mga E hP 10 dX5_frees_37 (kk := ?_)
              refine lv_iload_n hx hb dX5_frees_40 rfl (lv_at hl 3 rfl) ?_
              refine mli E hP 10 i (v := Mi 10 i) dX5_frees_41 rfl (show i < 30 by omega) rfl (kk := ?_)
              refine lv_iload_n hx hb dX5_frees_42 rfl (lv_at hl 1 rfl) ?_
              refine lv_icmp_eq (tgt := 49) hx hb dX5_frees_43 (by decide) (fun c_5 => ?_) (fun c_5 => ?_)
              · refine lv_aload_n hx hb dX5_frees_49 rfl (lv_at hl 0 rfl) ?_
                refine mga E hP 10 dX5_frees_50 (kk := ?_)
                refine lv_iload_n hx hb dX5_frees_53 rfl (lv_at hl 3 rfl) ?_
                refine lv_iconst (v := (-1)) hx hb dX5_frees_54 (by decide) ?_
                refine msi E hS hP 10 i dX5_frees_55 rfl (show i < 30 by omega) (kk := fun H locs hS hP => ?_)
                refine lv_iinc (v := a9 + 1) (lv' := [(2, .int (a9 + 1)), (0, .ref o), (1, .int lf), (3, .int (nI i))]) hx hb dX5_frees_56 hl (k := 2) rfl (by rfl) (by decide) rfl (fun ls hl => ?_)
                refine lv_iinc (v := (nI (i + 1))) (lv' := [(3, .int (nI (i + 1))), (2, .int (a9 + 1)), (0, .ref o), (1, .int lf)]) hx hb dX5_frees_59 hl (k := 3) rfl (by rw [nI_succ]; rfl) (by decide) rfl (fun ls hl => ?_)
                refine lv_goto (tgt := 4) hx hb dX5_frees_62 (by decide) ?_
                exact ihLP (i + 1) (tu Mi 10 i (-1)) (a9 + 1) (by omega) (by omega) (by simp only [mFrees, mFs, ← hMi, ← ha, eq_false c_1, eq_true c_2, eq_false c_3, eq_false c_4, eq_true c_5, if_true, if_false, reduceIte, true_and, and_true, false_and, and_false, true_or, or_true, false_or, or_false, not_true_eq_false, not_false_eq_true, decide_true, decide_false, Bool.true_and, Bool.and_true, Bool.false_and, Bool.and_false, Bool.not_true, Bool.not_false, Bool.or_false, Bool.false_or, Bool.or_true, Bool.true_or]) (by simp only [mFrees, mFs, ← hMi, ← ha, eq_false c_1, eq_true c_2, eq_false c_3, eq_false c_4, eq_true c_5, if_true, if_false, reduceIte, true_and, and_true, false_and, and_false, true_or, or_true, false_or, or_false, not_true_eq_false, not_false_eq_true, decide_true, decide_false, Bool.true_and, Bool.and_true, Bool.false_and, Bool.and_false, Bool.not_true, Bool.not_false, Bool.or_false, Bool.false_or, Bool.or_true, Bool.true_or]) (fun k hk9 => by rw [tu_r hk9]; exact hq k hk9) H locs hS hP ls (lv_sub hl [2, 3, 1, 0] rfl)
              · refine lv_goto (tgt := 59) hx hb dX5_frees_46 (by decide) ?_
                refine lv_iinc (v := (nI (i + 1))) (lv' := [(3, .int (nI (i + 1))), (0, .ref o), (1, .int lf), (2, .int a9)]) hx hb dX5_frees_59 hl (k := 3) rfl (by rw [nI_succ]; rfl) (by decide) rfl (fun ls hl => ?_)
                refine lv_goto (tgt := 4) hx hb dX5_frees_62 (by decide) ?_
                exact ihLP (i + 1) Mi a9 (by omega) (by omega) (by simp only [mFrees, mFs, ← hMi, ← ha, eq_false c_1, eq_true c_2, eq_false c_3, eq_false c_4, eq_false c_5, if_true, if_false, reduceIte, true_and, and_true, false_and, and_false, true_or, or_true, false_or, or_false, not_true_eq_false, not_false_eq_true, decide_true, decide_false, Bool.true_and, Bool.and_true, Bool.false_and, Bool.and_false, Bool.not_true, Bool.not_false, Bool.or_false, Bool.false_or, Bool.or_true, Bool.true_or]) (by simp only [mFrees, mFs, ← hMi, ← ha, eq_false c_1, eq_true c_2, eq_false c_3, eq_false c_4, eq_false c_5, if_true, if_false, reduceIte, true_and, and_true, false_and, and_false, true_or, or_true, false_or, or_false, not_true_eq_false, not_false_eq_true, decide_true, decide_false, Bool.true_and, Bool.and_true, Bool.false_and, Bool.and_false, Bool.not_true, Bool.not_false, Bool.or_false, Bool.false_or, Bool.or_true, Bool.true_or]) hq H locs hS hP ls (lv_sub hl [1, 2, 3, 0] rfl)
  exact LP (nR + 1) 0 M 0 (Nat.zero_le _) (by omega) rfl rfl (fun k _ => rfl) _ _ hS hP ls (lv_sub hl [2, 3, 1, 0] rfl)

set_option maxHeartbeats 4000000 in
set_option maxRecDepth 100000 in
theorem c_X5_callOff (l : Launch) (g : cG) (F : Nat → Prop) (o : Nat) (ad : Nat → Nat) (M : TT) (nR nL : Nat) (x : Int32) (hR : M 14 0 = nI nR) (hR30 : nR ≤ 30) (hL : M 22 0 = nI nL) (hL3 : nL ≤ 3) : CT l yX5_callOff cX5_callOff 2 (some .int) 2 43 0 0 g F [.ref o, .int x] (PM g F o ad M) (fun v9 H9 => v9 = some (.int ((mCallOff M nR nL x).1)) ∧ PM g F o ad ((mCallOff M nR nL x).2) H9) := by
  refine CT.of (by decide) rfl ?_
  intro p e s m args below meth c E hr hk hnm hP ls hl
  have hS : va_S (nF F) s.heap s.heap [] := va_S.rf
  have hx := E.1
  have hb := E.2.1
  have hE_ml := E.2.2.1
  have hown := E.2.2.2.1
  have hts := E.2.2.2.2.1
  have hG := E.2.2.2.2.2
  have hl : lv_has ls 2 [(0, .ref o), (1, .int x)] := hl
  refine lv_aload_n hx hb dX5_callOff_0 rfl (lv_at hl 0 rfl) ?_
  refine lv_iconst (v := 0) hx hb dX5_callOff_1 (by decide) ?_
  refine mp E hS hP 0 dX5_callOff_2 rfl (kk := fun H locs hS hP => ?_)
  refine lv_aload_n hx hb dX5_callOff_5 rfl (lv_at hl 0 rfl) ?_
  refine lv_iload_n hx hb dX5_callOff_6 rfl (lv_at hl 1 rfl) ?_
  refine ct_V E hS (c_X5_isLift l g F o ad (tu M 0 0 0) x (nI nL) (by simp [tu, hL])) ok_X5_isLift lk_X5_139 hP (PM.recv hG hP) rfl hl ⟨rfl, rfl⟩ rfl ⟨Nat.le_refl _, Nat.le_refl _⟩ dX5_callOff_7 rfl (fun v9 H locs hv9 hS hz9 => ?_)
  obtain ⟨rfl, hP⟩ := hv9
  refine bz_ne (tgt := 19) hx hb dX5_callOff_10 (by decide) (fun c_1 => ?_) (fun c_1 => ?_)
  · obtain ⟨j, rfl, j_hi⟩ := betc_nI (n := nL) c_1 (by omega)
    have j_cl : (nI j).toNatClampNeg = j := nI_clamp (by omega)
    refine lv_aload_n hx hb dX5_callOff_19 rfl (lv_at hl 0 rfl) ?_
    refine mga E hP 20 dX5_callOff_20 (kk := ?_)
    refine lv_iload_n hx hb dX5_callOff_23 rfl (lv_at hl 1 rfl) ?_
    refine mlc E hP 20 j (v := M 20 j) dX5_callOff_24 rfl (show j < 3 by omega) (by simp [tu]) (kk := ?_)
    refine lv_bipush (v := 115) hx hb dX5_callOff_25 (by decide) ?_
    refine lv_icmp_ne (tgt := 37) hx hb dX5_callOff_27 (by decide) (fun c_2 => ?_) (fun c_2 => ?_)
    · refine lv_aload_n hx hb dX5_callOff_37 rfl (lv_at hl 0 rfl) ?_
      refine lv_iconst (v := 2) hx hb dX5_callOff_38 (by decide) ?_
      refine ct_V E hS (c_X5_fails l g F o ad (tu M 0 0 0) 2) ok_X5_fails lk_X5_80 hP (PM.recv hG hP) rfl hl ⟨rfl, rfl⟩ rfl ⟨Nat.le_refl _, Nat.le_refl _⟩ dX5_callOff_39 rfl (fun v9 H locs hv9 hS hz9 => ?_)
      obtain ⟨rfl, hP⟩ := hv9
      have e1 : ((mCallOff M nR nL (nI j)).1) = 0 := by simp only [mCallOff, mF, eq_true c_1, eq_false c_2, j_cl, if_true, if_false, reduceIte, true_and, and_true, false_and, and_false, true_or, or_true, false_or, or_false, not_true_eq_false, not_false_eq_true, decide_true, decide_false, Bool.true_and, Bool.and_true, Bool.false_and, Bool.and_false, Bool.not_true, Bool.not_false, Bool.or_false, Bool.false_or, Bool.or_true, Bool.true_or]
      have e2 : ((mCallOff M nR nL (nI j)).2) = (tu (tu M 0 0 0) 0 0 2) := by simp only [mCallOff, mF, eq_true c_1, eq_false c_2, j_cl, if_true, if_false, reduceIte, true_and, and_true, false_and, and_false, true_or, or_true, false_or, or_false, not_true_eq_false, not_false_eq_true, decide_true, decide_false, Bool.true_and, Bool.and_true, Bool.false_and, Bool.and_false, Bool.not_true, Bool.not_false, Bool.or_false, Bool.false_or, Bool.or_true, Bool.true_or]
      exact ct_iret E hr hk hS ⟨(by rw [e1]), (by rw [e2]; exact hP)⟩ dX5_callOff_42
    · refine lv_aload_n hx hb dX5_callOff_30 rfl (lv_at hl 0 rfl) ?_
      refine mg E hP 27 (v := M 27 0) dX5_callOff_31 (by simp [tu]) (kk := ?_)
      refine lv_if_eq (tgt := 43) hx hb dX5_callOff_34 (by decide) (fun c_3 => ?_) (fun c_3 => ?_)
      · refine lv_aload_n hx hb dX5_callOff_43 rfl (lv_at hl 0 rfl) ?_
        refine mga E hP 20 dX5_callOff_44 (kk := ?_)
        refine lv_iload_n hx hb dX5_callOff_47 rfl (lv_at hl 1 rfl) ?_
        refine lv_bipush (v := 111) hx hb dX5_callOff_48 (by decide) ?_
        refine msc E hS hP 20 j dX5_callOff_50 rfl (show j < 3 by omega) (by decide) (kk := fun H locs hS hP => ?_)
        refine lv_aload_n hx hb dX5_callOff_51 rfl (lv_at hl 0 rfl) ?_
        refine lv_iload_n hx hb dX5_callOff_52 rfl (lv_at hl 1 rfl) ?_
        refine ct_V E hS (c_X5_frees l g F o ad (tu (tu M 0 0 0) 20 j 111) nR (nI j) (by simp [tu, hR]) (by omega)) ok_X5_frees lk_X5_142 hP (PM.recv hG hP) rfl hl ⟨rfl, rfl⟩ rfl ⟨Nat.le_refl _, Nat.le_refl _⟩ dX5_callOff_53 rfl (fun v9 H locs hv9 hS hz9 => ?_)
        obtain ⟨rfl, hP⟩ := hv9
        have e1 : ((mCallOff M nR nL (nI j)).1) = (mFrees (tu (tu M 0 0 0) 20 j 111) (nI j) nR).2 := by simp only [mCallOff, mF, eq_true c_1, eq_true c_2, eq_true c_3, j_cl, if_true, if_false, reduceIte, true_and, and_true, false_and, and_false, true_or, or_true, false_or, or_false, not_true_eq_false, not_false_eq_true, decide_true, decide_false, Bool.true_and, Bool.and_true, Bool.false_and, Bool.and_false, Bool.not_true, Bool.not_false, Bool.or_false, Bool.false_or, Bool.or_true, Bool.true_or]
        have e2 : ((mCallOff M nR nL (nI j)).2) = (mFrees (tu (tu M 0 0 0) 20 j 111) (nI j) nR).1 := by simp only [mCallOff, mF, eq_true c_1, eq_true c_2, eq_true c_3, j_cl, if_true, if_false, reduceIte, true_and, and_true, false_and, and_false, true_or, or_true, false_or, or_false, not_true_eq_false, not_false_eq_true, decide_true, decide_false, Bool.true_and, Bool.and_true, Bool.false_and, Bool.and_false, Bool.not_true, Bool.not_false, Bool.or_false, Bool.false_or, Bool.or_true, Bool.true_or]
        exact ct_iret E hr hk hS ⟨(by rw [e1]), (by rw [e2]; exact hP)⟩ dX5_callOff_56
      · refine lv_aload_n hx hb dX5_callOff_37 rfl (lv_at hl 0 rfl) ?_
        refine lv_iconst (v := 2) hx hb dX5_callOff_38 (by decide) ?_
        refine ct_V E hS (c_X5_fails l g F o ad (tu M 0 0 0) 2) ok_X5_fails lk_X5_80 hP (PM.recv hG hP) rfl hl ⟨rfl, rfl⟩ rfl ⟨Nat.le_refl _, Nat.le_refl _⟩ dX5_callOff_39 rfl (fun v9 H locs hv9 hS hz9 => ?_)
        obtain ⟨rfl, hP⟩ := hv9
        have e1 : ((mCallOff M nR nL (nI j)).1) = 0 := by simp only [mCallOff, mF, eq_true c_1, eq_true c_2, eq_false c_3, j_cl, if_true, if_false, reduceIte, true_and, and_true, false_and, and_false, true_or, or_true, false_or, or_false, not_true_eq_false, not_false_eq_true, decide_true, decide_false, Bool.true_and, Bool.and_true, Bool.false_and, Bool.and_false, Bool.not_true, Bool.not_false, Bool.or_false, Bool.false_or, Bool.or_true, Bool.true_or]
        have e2 : ((mCallOff M nR nL (nI j)).2) = (tu (tu M 0 0 0) 0 0 2) := by simp only [mCallOff, mF, eq_true c_1, eq_true c_2, eq_false c_3, j_cl, if_true, if_false, reduceIte, true_and, and_true, false_and, and_false, true_or, or_true, false_or, or_false, not_true_eq_false, not_false_eq_true, decide_true, decide_false, Bool.true_and, Bool.and_true, Bool.false_and, Bool.and_false, Bool.not_true, Bool.not_false, Bool.or_false, Bool.false_or, Bool.or_true, Bool.true_or]
        exact ct_iret E hr hk hS ⟨(by rw [e1]), (by rw [e2]; exact hP)⟩ dX5_callOff_42
  · refine lv_aload_n hx hb dX5_callOff_13 rfl (lv_at hl 0 rfl) ?_
    refine lv_iconst (v := 1) hx hb dX5_callOff_14 (by decide) ?_
    refine ct_V E hS (c_X5_fails l g F o ad (tu M 0 0 0) 1) ok_X5_fails lk_X5_80 hP (PM.recv hG hP) rfl hl ⟨rfl, rfl⟩ rfl ⟨Nat.le_refl _, Nat.le_refl _⟩ dX5_callOff_15 rfl (fun v9 H locs hv9 hS hz9 => ?_)
    obtain ⟨rfl, hP⟩ := hv9
    have e1 : ((mCallOff M nR nL x).1) = 0 := by simp only [mCallOff, mF, eq_false c_1, if_true, if_false, reduceIte, true_and, and_true, false_and, and_false, true_or, or_true, false_or, or_false, not_true_eq_false, not_false_eq_true, decide_true, decide_false, Bool.true_and, Bool.and_true, Bool.false_and, Bool.and_false, Bool.not_true, Bool.not_false, Bool.or_false, Bool.false_or, Bool.or_true, Bool.true_or]
    have e2 : ((mCallOff M nR nL x).2) = (tu (tu M 0 0 0) 0 0 1) := by simp only [mCallOff, mF, eq_false c_1, if_true, if_false, reduceIte, true_and, and_true, false_and, and_false, true_or, or_true, false_or, or_false, not_true_eq_false, not_false_eq_true, decide_true, decide_false, Bool.true_and, Bool.and_true, Bool.false_and, Bool.and_false, Bool.not_true, Bool.not_false, Bool.or_false, Bool.false_or, Bool.or_true, Bool.true_or]
    exact ct_iret E hr hk hS ⟨(by rw [e1]), (by rw [e2]; exact hP)⟩ dX5_callOff_18
