set_option maxHeartbeats 4000000 in
set_option maxRecDepth 100000 in
theorem c_X5_isWaiting (l : Launch) (g : cG) (F : Nat → Prop) (o : Nat) (ad : Nat → Nat) (M : TT) (nR : Nat) (f : Int32) (hR : M 14 0 = nI nR) (hR30 : nR ≤ 30) : CT l yX5_isWaiting cX5_isWaiting 3 (some .boolean) 0 0 0 0 g F [.ref o, .int f] (PM g F o ad M) (fun v9 H9 => v9 = some (.int (b2i (mWaitsOn M nR f = true))) ∧ PM g F o ad M H9) := by
  refine CT.of (by decide) rfl ?_
  intro p e s m args below meth c E hr hk hnm hP ls hl
  have hS : va_S (nF F) s.heap s.heap [] := va_S.rf
  have hx := E.1
  have hb := E.2.1
  have hE_ml := E.2.2.1
  have hown := E.2.2.2.1
  have hts := E.2.2.2.2.1
  have hG := E.2.2.2.2.2
  have hl : lv_has ls 3 [(0, .ref o), (1, .int f)] := hl
  refine lv_iconst (v := 0) hx hb dX5_isWaiting_0 (by decide) ?_
  refine lv_istore_n (lv' := [(2, .int 0), (0, .ref o), (1, .int f)]) hx hb dX5_isWaiting_1 rfl hl (by decide) rfl (fun ls hl => ?_)
  have LP : ∀ (n9 i : Nat) , i ≤ nR → nR < i + n9 → (exB (fun r => decide (M 13 r = 119) && decide (M 8 r = f)) i = false) → ∀ (H : Heap) (locs : List Loc), va_S (nF F) s.heap H locs → PM g F o ad M H → ∀ (ls : Array Slot), lv_has ls 3 [(0, .ref o), (1, .int f), (2, .int (nI i))] → W p l e { frames := 0, cells := 0, slots := 0, locals := 0 } s m args below meth c H locs 0 0 (MQ below (Qg F (fun v9 H9 => v9 = some (.int (b2i (mWaitsOn M nR f = true))) ∧ PM g F o ad M H9)) args s 0 0 (nF F)) (F0 m 2 ls []) := by
    intro n9
    induction n9 with
    | zero => intro i  hi9 hn9; exact absurd hn9 (by omega)
    | succ n9 ihLP =>
      intro i  hi_LP hn_LP hno H locs hS hP ls hl
      refine lv_iload_n hx hb dX5_isWaiting_2 rfl (lv_at hl 2 rfl) ?_
      refine lv_aload_n hx hb dX5_isWaiting_3 rfl (lv_at hl 0 rfl) ?_
      refine mg E hP 14 (v := (nI nR)) dX5_isWaiting_4 hR (kk := ?_)
      refine lv_icmp_ge (tgt := 39) hx hb dX5_isWaiting_7 (by decide) (fun c_1 => ?_) (fun c_1 => ?_)
      · have n_c_1 : nR ≤ i := (nI_leI (by omega) (by omega)).mp c_1
        refine lv_iconst (v := 0) hx hb dX5_isWaiting_39 (by decide) ?_
        have e1 : (b2i (mWaitsOn M nR f = true)) = 0 := by exact b2i_f (by rw [mWaitsOn, show nR = i by omega, hno]; decide)
        exact ct_zret E hr (by decide) hk hS ⟨(by rw [e1]), hP⟩ dX5_isWaiting_40
      · have n_c_1 : i < nR := Nat.lt_of_not_le (fun h9 => c_1 (nI_le h9 (by omega)))
        refine lv_aload_n hx hb dX5_isWaiting_10 rfl (lv_at hl 0 rfl) ?_
        refine mga E hP 13 dX5_isWaiting_11 (kk := ?_)
        refine lv_iload_n hx hb dX5_isWaiting_14 rfl (lv_at hl 2 rfl) ?_
        refine mlc E hP 13 i (v := M 13 i) dX5_isWaiting_15 rfl (show i < 30 by omega) rfl (kk := ?_)
        refine lv_bipush (v := 119) hx hb dX5_isWaiting_16 (by decide) ?_
        refine lv_icmp_ne (tgt := 33) hx hb dX5_isWaiting_18 (by decide) (fun c_2 => ?_) (fun c_2 => ?_)
        · refine lv_iinc (v := (nI (i + 1))) (lv' := [(2, .int (nI (i + 1))), (0, .ref o), (1, .int f)]) hx hb dX5_isWaiting_33 hl (k := 2) rfl (by rw [nI_succ]; rfl) (by decide) rfl (fun ls hl => ?_)
          refine lv_goto (tgt := 2) hx hb dX5_isWaiting_36 (by decide) ?_
          exact ihLP (i + 1) (by omega) (by omega) (by simp only [exB, hno, eq_false c_1, eq_false c_2, if_true, if_false, reduceIte, true_and, and_true, false_and, and_false, true_or, or_true, false_or, or_false, not_true_eq_false, not_false_eq_true, decide_true, decide_false, Bool.true_and, Bool.and_true, Bool.false_and, Bool.and_false, Bool.not_true, Bool.not_false, Bool.or_false, Bool.false_or, Bool.or_true, Bool.true_or]) H locs hS hP ls (lv_sub hl [1, 2, 0] rfl)
        · refine lv_aload_n hx hb dX5_isWaiting_21 rfl (lv_at hl 0 rfl) ?_
          refine mga E hP 8 dX5_isWaiting_22 (kk := ?_)
          refine lv_iload_n hx hb dX5_isWaiting_25 rfl (lv_at hl 2 rfl) ?_
          refine mli E hP 8 i (v := M 8 i) dX5_isWaiting_26 rfl (show i < 30 by omega) rfl (kk := ?_)
          refine lv_iload_n hx hb dX5_isWaiting_27 rfl (lv_at hl 1 rfl) ?_
          refine lv_icmp_ne (tgt := 33) hx hb dX5_isWaiting_28 (by decide) (fun c_3 => ?_) (fun c_3 => ?_)
          · refine lv_iinc (v := (nI (i + 1))) (lv' := [(2, .int (nI (i + 1))), (0, .ref o), (1, .int f)]) hx hb dX5_isWaiting_33 hl (k := 2) rfl (by rw [nI_succ]; rfl) (by decide) rfl (fun ls hl => ?_)
            refine lv_goto (tgt := 2) hx hb dX5_isWaiting_36 (by decide) ?_
            exact ihLP (i + 1) (by omega) (by omega) (by simp only [exB, hno, eq_false c_1, eq_true c_2, eq_false c_3, if_true, if_false, reduceIte, true_and, and_true, false_and, and_false, true_or, or_true, false_or, or_false, not_true_eq_false, not_false_eq_true, decide_true, decide_false, Bool.true_and, Bool.and_true, Bool.false_and, Bool.and_false, Bool.not_true, Bool.not_false, Bool.or_false, Bool.false_or, Bool.or_true, Bool.true_or]) H locs hS hP ls (lv_sub hl [1, 2, 0] rfl)
          · refine lv_iconst (v := 1) hx hb dX5_isWaiting_31 (by decide) ?_
            have e1 : (b2i (mWaitsOn M nR f = true)) = 1 := by exact b2i_t (exB_of (i := i) (by omega) (by simp only [eq_false c_1, eq_true c_2, eq_true c_3, if_true, if_false, reduceIte, true_and, and_true, false_and, and_false, true_or, or_true, false_or, or_false, not_true_eq_false, not_false_eq_true, decide_true, decide_false, Bool.true_and, Bool.and_true, Bool.false_and, Bool.and_false, Bool.not_true, Bool.not_false, Bool.or_false, Bool.false_or, Bool.or_true, Bool.true_or]))
            exact ct_zret E hr (by decide) hk hS ⟨(by rw [e1]), hP⟩ dX5_isWaiting_32
  exact LP (nR + 1) 0 (Nat.zero_le _) (by omega) rfl _ _ hS hP ls (lv_sub hl [1, 2, 0] rfl)

set_option maxHeartbeats 4000000 in
set_option maxRecDepth 100000 in
theorem c_X5_turnNow (l : Launch) (g : cG) (F : Nat → Prop) (o : Nat) (ad : Nat → Nat) (M : TT) (nR : Nat) (hR : M 14 0 = nI nR) (hR30 : nR ≤ 30) : CT l yX5_turnNow cX5_turnNow 2 (some .int) 1 22 0 0 g F [.ref o] (PM g F o ad M) (fun v9 H9 => v9 = some (.int (mTn M nR 10 0)) ∧ PM g F o ad M H9) := by
  refine CT.of (by decide) rfl ?_
  intro p e s m args below meth c E hr hk hnm hP ls hl
  have hS : va_S (nF F) s.heap s.heap [] := va_S.rf
  have hx := E.1
  have hb := E.2.1
  have hE_ml := E.2.2.1
  have hown := E.2.2.2.1
  have hts := E.2.2.2.2.1
  have hG := E.2.2.2.2.2
  have hl : lv_has ls 2 [(0, .ref o)] := hl
  refine lv_iconst (v := 0) hx hb dX5_turnNow_0 (by decide) ?_
  refine lv_istore_n (lv' := [(1, .int 0), (0, .ref o)]) hx hb dX5_turnNow_1 rfl hl (by decide) rfl (fun ls hl => ?_)
  have LP : ∀ (n9 i : Nat) , i ≤ 10 → 10 < i + n9 → (mTn M nR 10 0 = mTn M nR (10 - i) i) → ∀ (H : Heap) (locs : List Loc), va_S (nF F) s.heap H locs → PM g F o ad M H → ∀ (ls : Array Slot), lv_has ls 2 [(0, .ref o), (1, .int (nI i))] → W p l e { frames := 1, cells := 0, slots := 0, locals := 22 } s m args below meth c H locs 0 0 (MQ below (Qg F (fun v9 H9 => v9 = some (.int (mTn M nR 10 0)) ∧ PM g F o ad M H9)) args s 0 0 (nF F)) (F0 m 2 ls []) := by
    intro n9
    induction n9 with
    | zero => intro i  hi9 hn9; exact absurd hn9 (by omega)
    | succ n9 ihLP =>
      intro i  hi_LP hn_LP hres H locs hS hP ls hl
      refine lv_iload_n hx hb dX5_turnNow_2 rfl (lv_at hl 1 rfl) ?_
      refine lv_bipush (v := 10) hx hb dX5_turnNow_3 (by decide) ?_
      refine lv_icmp_ge (tgt := 54) hx hb dX5_turnNow_5 (by decide) (fun c_1 => ?_) (fun c_1 => ?_)
      · have n_c_1 : 10 ≤ i := (nI_leI (by omega) (by omega)).mp (show nI 10 ≤ nI i from c_1)
        refine lv_iconst (v := (-1)) hx hb dX5_turnNow_54 (by decide) ?_
        have e1 : (mTn M nR 10 0) = (-1) := by rw [hres, show 10 - i = 0 by omega]; rfl
        exact ct_iret E hr hk hS ⟨(by rw [e1]), hP⟩ dX5_turnNow_55
      · have n_c_1 : i < 10 := Nat.lt_of_not_le (fun h9 => c_1 (show nI 10 ≤ nI i from nI_le h9 (by omega)))
        have e_k : 10 - i = (9 - i) + 1 := by omega
        rw [e_k] at hres
        refine lv_aload_n hx hb dX5_turnNow_8 rfl (lv_at hl 0 rfl) ?_
        refine lv_aload_n hx hb dX5_turnNow_9 rfl (lv_at hl 0 rfl) ?_
        refine mg E hP 26 (v := M 26 0) dX5_turnNow_10 rfl (kk := ?_)
        refine lv_iload_n hx hb dX5_turnNow_13 rfl (lv_at hl 1 rfl) ?_
        refine lv_iadd hx hb dX5_turnNow_14 ?_
        refine ct_V E hS (c_X5_isWaiting l g F o ad M nR ((M 26 0) + (nI i)) hR (by omega)) ok_X5_isWaiting lk_X5_175 hP (PM.recv hG hP) rfl hl ⟨rfl, rfl⟩ rfl ⟨Nat.le_refl _, Nat.le_refl _⟩ dX5_turnNow_15 rfl (fun v9 H locs hv9 hS hz9 => ?_)
        obtain ⟨rfl, hP⟩ := hv9
        refine bz_eq (tgt := 28) hx hb dX5_turnNow_18 (by decide) (fun c_2 => ?_) (fun c_2 => ?_)
        · refine lv_aload_n hx hb dX5_turnNow_28 rfl (lv_at hl 0 rfl) ?_
          refine lv_aload_n hx hb dX5_turnNow_29 rfl (lv_at hl 0 rfl) ?_
          refine mg E hP 26 (v := M 26 0) dX5_turnNow_30 rfl (kk := ?_)
          refine lv_iload_n hx hb dX5_turnNow_33 rfl (lv_at hl 1 rfl) ?_
          refine lv_isub hx hb dX5_turnNow_34 ?_
          refine ct_V E hS (c_X5_isWaiting l g F o ad M nR ((M 26 0) - (nI i)) hR (by omega)) ok_X5_isWaiting lk_X5_175 hP (PM.recv hG hP) rfl hl ⟨rfl, rfl⟩ rfl ⟨Nat.le_refl _, Nat.le_refl _⟩ dX5_turnNow_35 rfl (fun v9 H locs hv9 hS hz9 => ?_)
          obtain ⟨rfl, hP⟩ := hv9
          refine bz_eq (tgt := 48) hx hb dX5_turnNow_38 (by decide) (fun c_3 => ?_) (fun c_3 => ?_)
          · refine lv_iinc (v := (nI (i + 1))) (lv' := [(1, .int (nI (i + 1))), (0, .ref o)]) hx hb dX5_turnNow_48 hl (k := 1) rfl (by rw [nI_succ]; rfl) (by decide) rfl (fun ls hl => ?_)
            refine lv_goto (tgt := 2) hx hb dX5_turnNow_51 (by decide) ?_
            exact ihLP (i + 1) (by omega) (by omega) (by rw [hres]; simp only [mTn, eq_false c_1, eq_false c_2, eq_false c_3, Bool.false_eq_true, if_true, if_false, reduceIte, true_and, and_true, false_and, and_false, true_or, or_true, false_or, or_false, not_true_eq_false, not_false_eq_true, decide_true, decide_false, Bool.true_and, Bool.and_true, Bool.false_and, Bool.and_false, Bool.not_true, Bool.not_false, Bool.or_false, Bool.false_or, Bool.or_true, Bool.true_or]; rw [show 10 - (i + 1) = 9 - i by omega]) H locs hS hP ls (lv_sub hl [1, 0] rfl)
          · refine lv_aload_n hx hb dX5_turnNow_41 rfl (lv_at hl 0 rfl) ?_
            refine mg E hP 26 (v := M 26 0) dX5_turnNow_42 rfl (kk := ?_)
            refine lv_iload_n hx hb dX5_turnNow_45 rfl (lv_at hl 1 rfl) ?_
            refine lv_isub hx hb dX5_turnNow_46 ?_
            have e1 : (mTn M nR 10 0) = (M 26 0) - (nI i) := by rw [hres]; simp only [mTn, eq_false c_1, eq_false c_2, eq_true c_3, Bool.false_eq_true, if_true, if_false, reduceIte, true_and, and_true, false_and, and_false, true_or, or_true, false_or, or_false, not_true_eq_false, not_false_eq_true, decide_true, decide_false, Bool.true_and, Bool.and_true, Bool.false_and, Bool.and_false, Bool.not_true, Bool.not_false, Bool.or_false, Bool.false_or, Bool.or_true, Bool.true_or]
            exact ct_iret E hr hk hS ⟨(by rw [e1]), hP⟩ dX5_turnNow_47
        · refine lv_aload_n hx hb dX5_turnNow_21 rfl (lv_at hl 0 rfl) ?_
          refine mg E hP 26 (v := M 26 0) dX5_turnNow_22 rfl (kk := ?_)
          refine lv_iload_n hx hb dX5_turnNow_25 rfl (lv_at hl 1 rfl) ?_
          refine lv_iadd hx hb dX5_turnNow_26 ?_
          have e1 : (mTn M nR 10 0) = (M 26 0) + (nI i) := by rw [hres]; simp only [mTn, eq_false c_1, eq_true c_2, Bool.false_eq_true, if_true, if_false, reduceIte, true_and, and_true, false_and, and_false, true_or, or_true, false_or, or_false, not_true_eq_false, not_false_eq_true, decide_true, decide_false, Bool.true_and, Bool.and_true, Bool.false_and, Bool.and_false, Bool.not_true, Bool.not_false, Bool.or_false, Bool.false_or, Bool.or_true, Bool.true_or]
          exact ct_iret E hr hk hS ⟨(by rw [e1]), hP⟩ dX5_turnNow_27
  exact LP (10 + 1) 0 (Nat.zero_le _) (by omega) rfl _ _ hS hP ls (lv_sub hl [1, 0] rfl)

set_option maxHeartbeats 4000000 in
set_option maxRecDepth 100000 in
theorem c_X5_outMany (l : Launch) (g : cG) (F : Nat → Prop) (o : Nat) (ad : Nat → Nat) (M : TT) (nR : Nat) (hR : M 14 0 = nI nR) (hR30 : nR ≤ 30) : CT l yX5_outMany cX5_outMany 3 (some .int) 0 0 0 0 g F [.ref o] (PM g F o ad M) (fun v9 H9 => v9 = some (.int (mOm M nR)) ∧ PM g F o ad M H9) := by
  refine CT.of (by decide) rfl ?_
  intro p e s m args below meth c E hr hk hnm hP ls hl
  have hS : va_S (nF F) s.heap s.heap [] := va_S.rf
  have hx := E.1
  have hb := E.2.1
  have hE_ml := E.2.2.1
  have hown := E.2.2.2.1
  have hts := E.2.2.2.2.1
  have hG := E.2.2.2.2.2
  have hl : lv_has ls 3 [(0, .ref o)] := hl
  refine lv_iconst (v := 0) hx hb dX5_outMany_0 (by decide) ?_
  refine lv_istore_n (lv' := [(1, .int 0), (0, .ref o)]) hx hb dX5_outMany_1 rfl hl (by decide) rfl (fun ls hl => ?_)
  refine lv_iconst (v := 0) hx hb dX5_outMany_2 (by decide) ?_
  refine lv_istore_n (lv' := [(2, .int 0), (1, .int 0), (0, .ref o)]) hx hb dX5_outMany_3 rfl hl (by decide) rfl (fun ls hl => ?_)
  have LP : ∀ (n9 i : Nat) (a9 : Int32), i ≤ nR → nR < i + n9 → (a9 = mOm M i) → ∀ (H : Heap) (locs : List Loc), va_S (nF F) s.heap H locs → PM g F o ad M H → ∀ (ls : Array Slot), lv_has ls 3 [(0, .ref o), (1, .int a9), (2, .int (nI i))] → W p l e { frames := 0, cells := 0, slots := 0, locals := 0 } s m args below meth c H locs 0 0 (MQ below (Qg F (fun v9 H9 => v9 = some (.int (mOm M nR)) ∧ PM g F o ad M H9)) args s 0 0 (nF F)) (F0 m 4 ls []) := by
    intro n9
    induction n9 with
    | zero => intro i a9 hi9 hn9; exact absurd hn9 (by omega)
    | succ n9 ihLP =>
      intro i a9 hi_LP hn_LP ha H locs hS hP ls hl
      refine lv_iload_n hx hb dX5_outMany_4 rfl (lv_at hl 2 rfl) ?_
      refine lv_aload_n hx hb dX5_outMany_5 rfl (lv_at hl 0 rfl) ?_
      refine mg E hP 14 (v := (nI nR)) dX5_outMany_6 hR (kk := ?_)
      refine lv_icmp_ge (tgt := 37) hx hb dX5_outMany_9 (by decide) (fun c_1 => ?_) (fun c_1 => ?_)
      · have n_c_1 : nR ≤ i := (nI_leI (by omega) (by omega)).mp c_1
        refine lv_iload_n hx hb dX5_outMany_37 rfl (lv_at hl 1 rfl) ?_
        have e1 : (mOm M nR) = a9 := by rw [ha, show i = nR by omega]
        exact ct_iret E hr hk hS ⟨(by rw [e1]), hP⟩ dX5_outMany_38
      · have n_c_1 : i < nR := Nat.lt_of_not_le (fun h9 => c_1 (nI_le h9 (by omega)))
        refine lv_iload_n hx hb dX5_outMany_12 rfl (lv_at hl 1 rfl) ?_
        refine lv_aload_n hx hb dX5_outMany_13 rfl (lv_at hl 0 rfl) ?_
        refine mga E hP 13 dX5_outMany_14 (kk := ?_)
        refine lv_iload_n hx hb dX5_outMany_17 rfl (lv_at hl 2 rfl) ?_
        refine mlc E hP 13 i (v := M 13 i) dX5_outMany_18 rfl (show i < 30 by omega) rfl (kk := ?_)
        refine lv_bipush (v := 100) hx hb dX5_outMany_19 (by decide) ?_
        refine lv_icmp_ne (tgt := 28) hx hb dX5_outMany_21 (by decide) (fun c_2 => ?_) (fun c_2 => ?_)
        · refine lv_iconst (v := 1) hx hb dX5_outMany_28 (by decide) ?_
          refine lv_iadd hx hb dX5_outMany_29 ?_
          refine lv_istore_n (lv' := [(1, .int (a9 + 1)), (0, .ref o), (2, .int (nI i))]) hx hb dX5_outMany_30 rfl hl (by decide) rfl (fun ls hl => ?_)
          refine lv_iinc (v := (nI (i + 1))) (lv' := [(2, .int (nI (i + 1))), (1, .int (a9 + 1)), (0, .ref o)]) hx hb dX5_outMany_31 hl (k := 2) rfl (by rw [nI_succ]; rfl) (by decide) rfl (fun ls hl => ?_)
          refine lv_goto (tgt := 4) hx hb dX5_outMany_34 (by decide) ?_
          exact ihLP (i + 1) _ (by omega) (by omega) (by rw [show mOm M (i + 1) = mOm M i + _ from rfl, ← ha]; simp only [mOm, eq_false c_1, eq_false c_2, if_true, if_false, reduceIte, true_and, and_true, false_and, and_false, true_or, or_true, false_or, or_false, not_true_eq_false, not_false_eq_true, decide_true, decide_false, Bool.true_and, Bool.and_true, Bool.false_and, Bool.and_false, Bool.not_true, Bool.not_false, Bool.or_false, Bool.false_or, Bool.or_true, Bool.true_or]) H locs hS hP ls (lv_sub hl [2, 1, 0] rfl)
        · refine lv_iconst (v := 0) hx hb dX5_outMany_24 (by decide) ?_
          refine lv_goto (tgt := 29) hx hb dX5_outMany_25 (by decide) ?_
          refine lv_iadd hx hb dX5_outMany_29 ?_
          refine lv_istore_n (lv' := [(1, .int (a9 + 0)), (0, .ref o), (2, .int (nI i))]) hx hb dX5_outMany_30 rfl hl (by decide) rfl (fun ls hl => ?_)
          refine lv_iinc (v := (nI (i + 1))) (lv' := [(2, .int (nI (i + 1))), (1, .int (a9 + 0)), (0, .ref o)]) hx hb dX5_outMany_31 hl (k := 2) rfl (by rw [nI_succ]; rfl) (by decide) rfl (fun ls hl => ?_)
          refine lv_goto (tgt := 4) hx hb dX5_outMany_34 (by decide) ?_
          exact ihLP (i + 1) _ (by omega) (by omega) (by rw [show mOm M (i + 1) = mOm M i + _ from rfl, ← ha]; simp only [mOm, eq_false c_1, eq_true c_2, if_true, if_false, reduceIte, true_and, and_true, false_and, and_false, true_or, or_true, false_or, or_false, not_true_eq_false, not_false_eq_true, decide_true, decide_false, Bool.true_and, Bool.and_true, Bool.false_and, Bool.and_false, Bool.not_true, Bool.not_false, Bool.or_false, Bool.false_or, Bool.or_true, Bool.true_or]) H locs hS hP ls (lv_sub hl [2, 1, 0] rfl)
  exact LP (nR + 1) 0 0 (Nat.zero_le _) (by omega) rfl _ _ hS hP ls (lv_sub hl [2, 1, 0] rfl)

set_option maxHeartbeats 4000000 in
set_option maxRecDepth 100000 in
theorem c_X5_passesOne (l : Launch) (g : cG) (F : Nat → Prop) (o : Nat) (ad : Nat → Nat) (M : TT) (nR nL : Nat) (hR : M 14 0 = nI nR) (hR30 : nR ≤ 30) (hL : M 22 0 = nI nL) (hL3 : nL ≤ 3) (hBd : ∀ r, r < nR → ∃ q, q < 8 ∧ M 7 r = nI q) (hWh : mWh M nL) : CT l yX5_passesOne cX5_passesOne 3 none 5 115 0 0 g F [.ref o] (PM g F o ad M) (fun v9 H9 => v9 = none ∧ PM g F o ad (mPass1 M nR nL) H9) := by
  refine CT.of (by decide) rfl ?_
  intro p e s m args below meth c E hr hk hnm hP ls hl
  have hS : va_S (nF F) s.heap s.heap [] := va_S.rf
  have hx := E.1
  have hb := E.2.1
  have hE_ml := E.2.2.1
  have hown := E.2.2.2.1
  have hts := E.2.2.2.2.1
  have hG := E.2.2.2.2.2
  have hl : lv_has ls 3 [(0, .ref o)] := hl
  refine lv_aload_n hx hb dX5_passesOne_0 rfl (lv_at hl 0 rfl) ?_
  refine mg E hP 27 (v := M 27 0) dX5_passesOne_1 rfl (kk := ?_)
  refine lv_if_eq (tgt := 14) hx hb dX5_passesOne_4 (by decide) (fun c_1 => ?_) (fun c_1 => ?_)
  · refine lv_iconst (v := (-1)) hx hb dX5_passesOne_14 (by decide) ?_
    refine lv_istore_n (lv' := [(1, .int (-1)), (0, .ref o)]) hx hb dX5_passesOne_15 rfl hl (by decide) rfl (fun ls hl => ?_)
    refine lv_aload_n hx hb dX5_passesOne_16 rfl (lv_at hl 1 rfl) ?_
    refine mg E hP 27 (v := M 27 0) dX5_passesOne_17 rfl (kk := ?_)
    refine lv_if_eq (tgt := 29) hx hb dX5_passesOne_20 (by decide) (fun c_2 => ?_) (fun c_2 => ?_)
    · refine lv_iconst (v := 0) hx hb dX5_passesOne_29 (by decide) ?_
      refine lv_istore_n (lv' := [(2, .int 0), (1, .int (-1)), (0, .ref o)]) hx hb dX5_passesOne_30 rfl hl (by decide) rfl (fun ls hl => ?_)
      have LA : ∀ (n9 i : Nat) (Mi : TT), i ≤ nR → nR < i + n9 → (Mi = mGall M nR nL (-1) i) → (∀ k, k ≠ 10 → Mi k = M k) → ∀ (H : Heap) (locs : List Loc), va_S (nF F) s.heap H locs → PM g F o ad Mi H → ∀ (ls : Array Slot), lv_has ls 3 [(0, .ref o), (1, .int (-1)), (2, .int (nI i))] → W p l e { frames := 5, cells := 0, slots := 0, locals := 115 } s m args below meth c H locs 0 0 (MQ below (Qg F (fun v9 H9 => v9 = none ∧ PM g F o ad (mPass1 M nR nL) H9)) args s 0 0 (nF F)) (F0 m 31 ls []) := by
        intro n9
        induction n9 with
        | zero => intro i Mi hi9 hn9; exact absurd hn9 (by omega)
        | succ n9 ihLA =>
          intro i Mi hi_LA hn_LA hMi hq H locs hS hP ls hl
          refine lv_iload_n hx hb dX5_passesOne_31 rfl (lv_at hl 2 rfl) ?_
          refine lv_aload_n hx hb dX5_passesOne_32 rfl (lv_at hl 0 rfl) ?_
          refine mg E hP 14 (v := (nI nR)) dX5_passesOne_33 ((congrFun (hq 14 (by decide)) _).trans hR) (kk := ?_)
          refine lv_icmp_ge (tgt := 87) hx hb dX5_passesOne_36 (by decide) (fun c_3 => ?_) (fun c_3 => ?_)
          · have n_c_3 : nR ≤ i := (nI_leI (by omega) (by omega)).mp c_3
            refine lv_iconst (v := 0) hx hb dX5_passesOne_87 (by decide) ?_
            refine lv_istore_n (lv' := [(2, .int 0), (0, .ref o), (1, .int (-1))]) hx hb dX5_passesOne_88 rfl hl (by decide) rfl (fun ls hl => ?_)
            have e_i : i = nR := by omega
            have LB : ∀ (n9 j : Nat) (Mj : TT), j ≤ nL → nL < j + n9 → (Mj = mWall Mi nR j) → (∀ k, mWk k = true → Mj k = M k) → (mWh Mj nL) → ∀ (H : Heap) (locs : List Loc), va_S (nF F) s.heap H locs → PM g F o ad Mj H → ∀ (ls : Array Slot), lv_has ls 3 [(0, .ref o), (1, .int (-1)), (2, .int (nI j))] → W p l e { frames := 5, cells := 0, slots := 0, locals := 115 } s m args below meth c H locs 0 0 (MQ below (Qg F (fun v9 H9 => v9 = none ∧ PM g F o ad (mPass1 M nR nL) H9)) args s 0 0 (nF F)) (F0 m 89 ls []) := by
              intro n9
              induction n9 with
              | zero => intro j Mj hi9 hn9; exact absurd hn9 (by omega)
              | succ n9 ihLB =>
                intro j Mj hi_LB hn_LB hMj hq2 hwh2 H locs hS hP ls hl
                refine lv_iload_n hx hb dX5_passesOne_89 rfl (lv_at hl 2 rfl) ?_
                refine lv_aload_n hx hb dX5_passesOne_90 rfl (lv_at hl 0 rfl) ?_
                refine mg E hP 22 (v := (nI nL)) dX5_passesOne_91 ((congrFun (hq2 22 rfl) _).trans hL) (kk := ?_)
                refine lv_icmp_ge (tgt := 108) hx hb dX5_passesOne_94 (by decide) (fun c_4 => ?_) (fun c_4 => ?_)
                · have n_c_4 : nL ≤ j := (nI_leI (by omega) (by omega)).mp c_4
                  refine lv_aload_n hx hb dX5_passesOne_108 rfl (lv_at hl 0 rfl) ?_
                  refine lv_dup hx hb dX5_passesOne_109 rfl ?_
                  refine mg E hP 23 (v := Mj 23 0) dX5_passesOne_110 rfl (kk := ?_)
                  refine lv_iconst (v := 1) hx hb dX5_passesOne_113 (by decide) ?_
                  refine lv_iadd hx hb dX5_passesOne_114 ?_
                  refine mp E hS hP 23 dX5_passesOne_115 rfl (kk := fun H locs hS hP => ?_)
                  refine lv_aload_n hx hb dX5_passesOne_118 rfl (lv_at hl 0 rfl) ?_
                  refine lv_aload_n hx hb dX5_passesOne_119 rfl (lv_at hl 0 rfl) ?_
                  refine mg E hP 27 (v := Mj 27 0) dX5_passesOne_120 (by simp [tu]) (kk := ?_)
                  refine lv_if_eq (tgt := 137) hx hb dX5_passesOne_123 (by decide) (fun c_5 => ?_) (fun c_5 => ?_)
                  · refine lv_iconst (v := 0) hx hb dX5_passesOne_137 (by decide) ?_
                    refine mp E hS hP 27 dX5_passesOne_138 (by decide) (kk := fun H locs hS hP => ?_)
                    have e2 : (mPass1 M nR nL) = (tu (tu Mj 23 0 ((Mj 23 0) + 1)) 27 0 0) := by simp only [mPass1, mPt, mP1, eq_true c_1, eq_true c_2, if_true, if_false, reduceIte, true_and, and_true, false_and, and_false, true_or, or_true, false_or, or_false, not_true_eq_false, not_false_eq_true, decide_true, decide_false, Bool.true_and, Bool.and_true, Bool.false_and, Bool.and_false, Bool.not_true, Bool.not_false, Bool.or_false, Bool.false_or, Bool.or_true, Bool.true_or]; rw [gall_e hMi e_i, wall_e hMj (show j = nL by omega)]; simp only [mPend, eq_true c_1, eq_true c_2, eq_true c_3, eq_true c_4, eq_true c_5, if_true, if_false, reduceIte, true_and, and_true, false_and, and_false, true_or, or_true, false_or, or_false, not_true_eq_false, not_false_eq_true, decide_true, decide_false, Bool.true_and, Bool.and_true, Bool.false_and, Bool.and_false, Bool.not_true, Bool.not_false, Bool.or_false, Bool.false_or, Bool.or_true, Bool.true_or]
                    exact ct_vret E hr hk hS ⟨rfl, (by rw [e2]; exact hP)⟩ dX5_passesOne_141
                  · refine lv_aload_n hx hb dX5_passesOne_126 rfl (lv_at hl 0 rfl) ?_
                    refine ct_V E hS (c_X5_outMany l g F o ad (tu Mj 23 0 ((Mj 23 0) + 1)) nR (by simp [tu, ((congrFun (hq2 14 rfl) _).trans hR)]) (by omega)) ok_X5_outMany lk_X5_185 hP (PM.recv hG hP) rfl hl ⟨rfl, rfl⟩ rfl ⟨Nat.le_refl _, Nat.le_refl _⟩ dX5_passesOne_127 rfl (fun v9 H locs hv9 hS hz9 => ?_)
                    obtain ⟨rfl, hP⟩ := hv9
                    refine lv_if_le (tgt := 137) hx hb dX5_passesOne_130 (by decide) (fun c_6 => ?_) (fun c_6 => ?_)
                    · refine lv_iconst (v := 0) hx hb dX5_passesOne_137 (by decide) ?_
                      refine mp E hS hP 27 dX5_passesOne_138 (by decide) (kk := fun H locs hS hP => ?_)
                      have e2 : (mPass1 M nR nL) = (tu (tu Mj 23 0 ((Mj 23 0) + 1)) 27 0 0) := by simp only [mPass1, mPt, mP1, eq_true c_1, eq_true c_2, if_true, if_false, reduceIte, true_and, and_true, false_and, and_false, true_or, or_true, false_or, or_false, not_true_eq_false, not_false_eq_true, decide_true, decide_false, Bool.true_and, Bool.and_true, Bool.false_and, Bool.and_false, Bool.not_true, Bool.not_false, Bool.or_false, Bool.false_or, Bool.or_true, Bool.true_or]; rw [gall_e hMi e_i, wall_e hMj (show j = nL by omega)]; simp only [mPend, eq_true c_1, eq_true c_2, eq_true c_3, eq_true c_4, eq_false c_5, eq_true c_6, if_true, if_false, reduceIte, true_and, and_true, false_and, and_false, true_or, or_true, false_or, or_false, not_true_eq_false, not_false_eq_true, decide_true, decide_false, Bool.true_and, Bool.and_true, Bool.false_and, Bool.and_false, Bool.not_true, Bool.not_false, Bool.or_false, Bool.false_or, Bool.or_true, Bool.true_or]
                      exact ct_vret E hr hk hS ⟨rfl, (by rw [e2]; exact hP)⟩ dX5_passesOne_141
                    · refine lv_iconst (v := 1) hx hb dX5_passesOne_133 (by decide) ?_
                      refine lv_goto (tgt := 138) hx hb dX5_passesOne_134 (by decide) ?_
                      refine mp E hS hP 27 dX5_passesOne_138 (by decide) (kk := fun H locs hS hP => ?_)
                      have e2 : (mPass1 M nR nL) = (tu (tu Mj 23 0 ((Mj 23 0) + 1)) 27 0 1) := by simp only [mPass1, mPt, mP1, eq_true c_1, eq_true c_2, if_true, if_false, reduceIte, true_and, and_true, false_and, and_false, true_or, or_true, false_or, or_false, not_true_eq_false, not_false_eq_true, decide_true, decide_false, Bool.true_and, Bool.and_true, Bool.false_and, Bool.and_false, Bool.not_true, Bool.not_false, Bool.or_false, Bool.false_or, Bool.or_true, Bool.true_or]; rw [gall_e hMi e_i, wall_e hMj (show j = nL by omega)]; simp only [mPend, eq_true c_1, eq_true c_2, eq_true c_3, eq_true c_4, eq_false c_5, eq_false c_6, if_true, if_false, reduceIte, true_and, and_true, false_and, and_false, true_or, or_true, false_or, or_false, not_true_eq_false, not_false_eq_true, decide_true, decide_false, Bool.true_and, Bool.and_true, Bool.false_and, Bool.and_false, Bool.not_true, Bool.not_false, Bool.or_false, Bool.false_or, Bool.or_true, Bool.true_or]
                      exact ct_vret E hr hk hS ⟨rfl, (by rw [e2]; exact hP)⟩ dX5_passesOne_141
                · have n_c_4 : j < nL := Nat.lt_of_not_le (fun h9 => c_4 (nI_le h9 (by omega)))
                  obtain ⟨w9, hw10, hw9⟩ := hwh2 j (by omega)
                  refine lv_aload_n hx hb dX5_passesOne_97 rfl (lv_at hl 0 rfl) ?_
                  refine lv_iload_n hx hb dX5_passesOne_98 rfl (lv_at hl 2 rfl) ?_
                  refine ct_V E hS (c_X5_works l g F o ad Mj nR j w9 ((congrFun (hq2 14 rfl) _).trans hR) (by omega) (by omega) hw9 (by omega) (fun r9 h9 => by rw [congrFun (hq2 7 rfl) r9]; exact hBd r9 h9)) ok_X5_works lk_X5_182 hP (PM.recv hG hP) rfl hl ⟨rfl, rfl⟩ rfl ⟨Nat.le_refl _, Nat.le_refl _⟩ dX5_passesOne_99 rfl (fun v9 H locs hv9 hS hz9 => ?_)
                  obtain ⟨rfl, hP⟩ := hv9
                  refine lv_iinc (v := (nI (j + 1))) (lv' := [(2, .int (nI (j + 1))), (0, .ref o), (1, .int (-1))]) hx hb dX5_passesOne_102 hl (k := 2) rfl (by rw [nI_succ]; rfl) (by decide) rfl (fun ls hl => ?_)
                  refine lv_goto (tgt := 89) hx hb dX5_passesOne_105 (by decide) ?_
                  exact ihLB (j + 1) (mWorks Mj nR j) (by omega) (by omega) (by simp only [mWall, ← hMj]) (fun k hk9 => (mWorks_k hk9).trans (hq2 k hk9)) (mWorks_wh hwh2 (by omega)) H locs hS hP ls (lv_sub hl [1, 2, 0] rfl)
            exact LB (nL + 1) 0 Mi (Nat.zero_le _) (by omega) rfl (fun k hk9 => hq k (mWk_10 hk9)) (mWh_of hWh (hq 18 (by decide))) _ _ hS hP ls (lv_sub hl [1, 2, 0] rfl)
          · have n_c_3 : i < nR := Nat.lt_of_not_le (fun h9 => c_3 (nI_le h9 (by omega)))
            refine lv_aload_n hx hb dX5_passesOne_39 rfl (lv_at hl 0 rfl) ?_
            refine mga E hP 13 dX5_passesOne_40 (kk := ?_)
            refine lv_iload_n hx hb dX5_passesOne_43 rfl (lv_at hl 2 rfl) ?_
            refine mlc E hP 13 i (v := Mi 13 i) dX5_passesOne_44 rfl (show i < 30 by omega) rfl (kk := ?_)
            refine lv_bipush (v := 119) hx hb dX5_passesOne_45 (by decide) ?_
            refine lv_icmp_ne (tgt := 81) hx hb dX5_passesOne_47 (by decide) (fun c_7 => ?_) (fun c_7 => ?_)
            · refine lv_iinc (v := (nI (i + 1))) (lv' := [(2, .int (nI (i + 1))), (0, .ref o), (1, .int (-1))]) hx hb dX5_passesOne_81 hl (k := 2) rfl (by rw [nI_succ]; rfl) (by decide) rfl (fun ls hl => ?_)
              refine lv_goto (tgt := 31) hx hb dX5_passesOne_84 (by decide) ?_
              exact ihLA (i + 1) Mi (by omega) (by omega) (by simp only [mGall, mGs, ← hMi, (congrFun (hq 27 (by decide)) 0), eq_true c_1, eq_true c_2, eq_false c_3, eq_false c_7, if_true, if_false, reduceIte, true_and, and_true, false_and, and_false, true_or, or_true, false_or, or_false, not_true_eq_false, not_false_eq_true, decide_true, decide_false, Bool.true_and, Bool.and_true, Bool.false_and, Bool.and_false, Bool.not_true, Bool.not_false, Bool.or_false, Bool.false_or, Bool.or_true, Bool.true_or]) hq H locs hS hP ls (lv_sub hl [1, 2, 0] rfl)
            · refine lv_aload_n hx hb dX5_passesOne_50 rfl (lv_at hl 0 rfl) ?_
              refine mga E hP 10 dX5_passesOne_51 (kk := ?_)
              refine lv_iload_n hx hb dX5_passesOne_54 rfl (lv_at hl 2 rfl) ?_
              refine mli E hP 10 i (v := Mi 10 i) dX5_passesOne_55 rfl (show i < 30 by omega) rfl (kk := ?_)
              refine lv_if_ge (tgt := 81) hx hb dX5_passesOne_56 (by decide) (fun c_8 => ?_) (fun c_8 => ?_)
              · refine lv_iinc (v := (nI (i + 1))) (lv' := [(2, .int (nI (i + 1))), (0, .ref o), (1, .int (-1))]) hx hb dX5_passesOne_81 hl (k := 2) rfl (by rw [nI_succ]; rfl) (by decide) rfl (fun ls hl => ?_)
                refine lv_goto (tgt := 31) hx hb dX5_passesOne_84 (by decide) ?_
                exact ihLA (i + 1) Mi (by omega) (by omega) (by simp only [mGall, mGs, ← hMi, (congrFun (hq 27 (by decide)) 0), eq_true c_1, eq_true c_2, eq_false c_3, eq_true c_7, eq_true c_8, if_true, if_false, reduceIte, true_and, and_true, false_and, and_false, true_or, or_true, false_or, or_false, not_true_eq_false, not_false_eq_true, decide_true, decide_false, Bool.true_and, Bool.and_true, Bool.false_and, Bool.and_false, Bool.not_true, Bool.not_false, Bool.or_false, Bool.false_or, Bool.or_true, Bool.true_or]) hq H locs hS hP ls (lv_sub hl [1, 2, 0] rfl)
              · refine lv_aload_n hx hb dX5_passesOne_59 rfl (lv_at hl 0 rfl) ?_
                refine mg E hP 27 (v := M 27 0) dX5_passesOne_60 (congrFun (hq 27 (by decide)) _) (kk := ?_)
                refine lv_if_eq (tgt := 76) hx hb dX5_passesOne_63 (by decide) (fun c_9 => ?_) (fun c_9 => ?_)
                · refine lv_aload_n hx hb dX5_passesOne_76 rfl (lv_at hl 0 rfl) ?_
                  refine lv_iload_n hx hb dX5_passesOne_77 rfl (lv_at hl 2 rfl) ?_
                  refine ct_V E hS (c_X5_gives l g F o ad Mi nR nL i ((congrFun (hq 14 (by decide)) _).trans hR) (by omega) ((congrFun (hq 22 (by decide)) _).trans hL) (by omega) (by omega)) ok_X5_gives lk_X5_123 hP (PM.recv hG hP) rfl hl ⟨rfl, rfl⟩ rfl ⟨Nat.le_refl _, Nat.le_refl _⟩ dX5_passesOne_78 rfl (fun v9 H locs hv9 hS hz9 => ?_)
                  obtain ⟨rfl, hP⟩ := hv9
                  refine lv_iinc (v := (nI (i + 1))) (lv' := [(2, .int (nI (i + 1))), (0, .ref o), (1, .int (-1))]) hx hb dX5_passesOne_81 hl (k := 2) rfl (by rw [nI_succ]; rfl) (by decide) rfl (fun ls hl => ?_)
                  refine lv_goto (tgt := 31) hx hb dX5_passesOne_84 (by decide) ?_
                  exact ihLA (i + 1) (mGives Mi nR nL i) (by omega) (by omega) (by simp only [mGall, mGs, ← hMi, (congrFun (hq 27 (by decide)) 0), eq_true c_1, eq_true c_2, eq_false c_3, eq_true c_7, eq_false c_8, eq_true c_9, if_true, if_false, reduceIte, true_and, and_true, false_and, and_false, true_or, or_true, false_or, or_false, not_true_eq_false, not_false_eq_true, decide_true, decide_false, Bool.true_and, Bool.and_true, Bool.false_and, Bool.and_false, Bool.not_true, Bool.not_false, Bool.or_false, Bool.false_or, Bool.or_true, Bool.true_or]) (fun k hk9 => (mGives_k hk9).trans (hq k hk9)) H locs hS hP ls (lv_sub hl [1, 2, 0] rfl)
                · exact absurd c_1 c_9
      exact LA (nR + 1) 0 M (Nat.zero_le _) (by omega) rfl (fun k _ => rfl) _ _ hS hP ls (lv_sub hl [2, 1, 0] rfl)
    · exact absurd c_1 c_2
  · refine lv_aload_n hx hb dX5_passesOne_7 rfl (lv_at hl 0 rfl) ?_
    refine ct_V E hS (c_X5_turnNow l g F o ad M nR hR (by omega)) ok_X5_turnNow lk_X5_178 hP (PM.recv hG hP) rfl hl ⟨rfl, rfl⟩ rfl ⟨Nat.le_refl _, Nat.le_refl _⟩ dX5_passesOne_8 rfl (fun v9 H locs hv9 hS hz9 => ?_)
    obtain ⟨rfl, hP⟩ := hv9
    refine lv_goto (tgt := 15) hx hb dX5_passesOne_11 (by decide) ?_
    refine lv_istore_n (lv' := [(1, .int (mTn M nR 10 0)), (0, .ref o)]) hx hb dX5_passesOne_15 rfl hl (by decide) rfl (fun ls hl => ?_)
    refine lv_aload_n hx hb dX5_passesOne_16 rfl (lv_at hl 1 rfl) ?_
    refine mg E hP 27 (v := M 27 0) dX5_passesOne_17 rfl (kk := ?_)
    refine lv_if_eq (tgt := 29) hx hb dX5_passesOne_20 (by decide) (fun c_10 => ?_) (fun c_10 => ?_)
    · exact absurd c_10 c_1
    · refine lv_aload_n hx hb dX5_passesOne_23 rfl (lv_at hl 1 rfl) ?_
      refine lv_iconst (v := (-1)) hx hb dX5_passesOne_24 (by decide) ?_
      refine ct_V E hS (c_X5_frees l g F o ad M nR (-1) hR (by omega)) ok_X5_frees lk_X5_142 hP (PM.recv hG hP) rfl hl ⟨rfl, rfl⟩ rfl ⟨Nat.le_refl _, Nat.le_refl _⟩ dX5_passesOne_25 rfl (fun v9 H locs hv9 hS hz9 => ?_)
      obtain ⟨rfl, hP⟩ := hv9
      refine lv_pop hx hb dX5_passesOne_28 rfl ?_
      refine lv_iconst (v := 0) hx hb dX5_passesOne_29 (by decide) ?_
      refine lv_istore_n (lv' := [(2, .int 0), (1, .int (mTn M nR 10 0)), (0, .ref o)]) hx hb dX5_passesOne_30 rfl hl (by decide) rfl (fun ls hl => ?_)
      have LA : ∀ (n9 i : Nat) (Mi : TT), i ≤ nR → nR < i + n9 → (Mi = mGall ((mFrees M (-1) nR).1) nR nL (mTn M nR 10 0) i) → (∀ k, k ≠ 10 → Mi k = M k) → ∀ (H : Heap) (locs : List Loc), va_S (nF F) s.heap H locs → PM g F o ad Mi H → ∀ (ls : Array Slot), lv_has ls 3 [(0, .ref o), (1, .int (mTn M nR 10 0)), (2, .int (nI i))] → W p l e { frames := 5, cells := 0, slots := 0, locals := 115 } s m args below meth c H locs 0 0 (MQ below (Qg F (fun v9 H9 => v9 = none ∧ PM g F o ad (mPass1 M nR nL) H9)) args s 0 0 (nF F)) (F0 m 31 ls []) := by
        intro n9
        induction n9 with
        | zero => intro i Mi hi9 hn9; exact absurd hn9 (by omega)
        | succ n9 ihLA =>
          intro i Mi hi_LA hn_LA hMi hq H locs hS hP ls hl
          refine lv_iload_n hx hb dX5_passesOne_31 rfl (lv_at hl 2 rfl) ?_
          refine lv_aload_n hx hb dX5_passesOne_32 rfl (lv_at hl 0 rfl) ?_
          refine mg E hP 14 (v := (nI nR)) dX5_passesOne_33 ((congrFun (hq 14 (by decide)) _).trans hR) (kk := ?_)
          refine lv_icmp_ge (tgt := 87) hx hb dX5_passesOne_36 (by decide) (fun c_11 => ?_) (fun c_11 => ?_)
          · have n_c_11 : nR ≤ i := (nI_leI (by omega) (by omega)).mp c_11
            refine lv_iconst (v := 0) hx hb dX5_passesOne_87 (by decide) ?_
            refine lv_istore_n (lv' := [(2, .int 0), (0, .ref o), (1, .int (mTn M nR 10 0))]) hx hb dX5_passesOne_88 rfl hl (by decide) rfl (fun ls hl => ?_)
            have e_i : i = nR := by omega
            have LB : ∀ (n9 j : Nat) (Mj : TT), j ≤ nL → nL < j + n9 → (Mj = mWall Mi nR j) → (∀ k, mWk k = true → Mj k = M k) → (mWh Mj nL) → ∀ (H : Heap) (locs : List Loc), va_S (nF F) s.heap H locs → PM g F o ad Mj H → ∀ (ls : Array Slot), lv_has ls 3 [(0, .ref o), (1, .int (mTn M nR 10 0)), (2, .int (nI j))] → W p l e { frames := 5, cells := 0, slots := 0, locals := 115 } s m args below meth c H locs 0 0 (MQ below (Qg F (fun v9 H9 => v9 = none ∧ PM g F o ad (mPass1 M nR nL) H9)) args s 0 0 (nF F)) (F0 m 89 ls []) := by
              intro n9
              induction n9 with
              | zero => intro j Mj hi9 hn9; exact absurd hn9 (by omega)
              | succ n9 ihLB =>
                intro j Mj hi_LB hn_LB hMj hq2 hwh2 H locs hS hP ls hl
                refine lv_iload_n hx hb dX5_passesOne_89 rfl (lv_at hl 2 rfl) ?_
                refine lv_aload_n hx hb dX5_passesOne_90 rfl (lv_at hl 0 rfl) ?_
                refine mg E hP 22 (v := (nI nL)) dX5_passesOne_91 ((congrFun (hq2 22 rfl) _).trans hL) (kk := ?_)
                refine lv_icmp_ge (tgt := 108) hx hb dX5_passesOne_94 (by decide) (fun c_12 => ?_) (fun c_12 => ?_)
                · have n_c_12 : nL ≤ j := (nI_leI (by omega) (by omega)).mp c_12
                  refine lv_aload_n hx hb dX5_passesOne_108 rfl (lv_at hl 0 rfl) ?_
                  refine lv_dup hx hb dX5_passesOne_109 rfl ?_
                  refine mg E hP 23 (v := Mj 23 0) dX5_passesOne_110 rfl (kk := ?_)
                  refine lv_iconst (v := 1) hx hb dX5_passesOne_113 (by decide) ?_
                  refine lv_iadd hx hb dX5_passesOne_114 ?_
                  refine mp E hS hP 23 dX5_passesOne_115 rfl (kk := fun H locs hS hP => ?_)
                  refine lv_aload_n hx hb dX5_passesOne_118 rfl (lv_at hl 0 rfl) ?_
                  refine lv_aload_n hx hb dX5_passesOne_119 rfl (lv_at hl 0 rfl) ?_
                  refine mg E hP 27 (v := Mj 27 0) dX5_passesOne_120 (by simp [tu]) (kk := ?_)
                  refine lv_if_eq (tgt := 137) hx hb dX5_passesOne_123 (by decide) (fun c_13 => ?_) (fun c_13 => ?_)
                  · refine lv_iconst (v := 0) hx hb dX5_passesOne_137 (by decide) ?_
                    refine mp E hS hP 27 dX5_passesOne_138 (by decide) (kk := fun H locs hS hP => ?_)
                    have e2 : (mPass1 M nR nL) = (tu (tu Mj 23 0 ((Mj 23 0) + 1)) 27 0 0) := by simp only [mPass1, mPt, mP1, eq_false c_1, eq_false c_10, if_true, if_false, reduceIte, true_and, and_true, false_and, and_false, true_or, or_true, false_or, or_false, not_true_eq_false, not_false_eq_true, decide_true, decide_false, Bool.true_and, Bool.and_true, Bool.false_and, Bool.and_false, Bool.not_true, Bool.not_false, Bool.or_false, Bool.false_or, Bool.or_true, Bool.true_or]; rw [gall_e hMi e_i, wall_e hMj (show j = nL by omega)]; simp only [mPend, eq_false c_1, eq_false c_10, eq_true c_11, eq_true c_12, eq_true c_13, if_true, if_false, reduceIte, true_and, and_true, false_and, and_false, true_or, or_true, false_or, or_false, not_true_eq_false, not_false_eq_true, decide_true, decide_false, Bool.true_and, Bool.and_true, Bool.false_and, Bool.and_false, Bool.not_true, Bool.not_false, Bool.or_false, Bool.false_or, Bool.or_true, Bool.true_or]
                    exact ct_vret E hr hk hS ⟨rfl, (by rw [e2]; exact hP)⟩ dX5_passesOne_141
                  · refine lv_aload_n hx hb dX5_passesOne_126 rfl (lv_at hl 0 rfl) ?_
                    refine ct_V E hS (c_X5_outMany l g F o ad (tu Mj 23 0 ((Mj 23 0) + 1)) nR (by simp [tu, ((congrFun (hq2 14 rfl) _).trans hR)]) (by omega)) ok_X5_outMany lk_X5_185 hP (PM.recv hG hP) rfl hl ⟨rfl, rfl⟩ rfl ⟨Nat.le_refl _, Nat.le_refl _⟩ dX5_passesOne_127 rfl (fun v9 H locs hv9 hS hz9 => ?_)
                    obtain ⟨rfl, hP⟩ := hv9
                    refine lv_if_le (tgt := 137) hx hb dX5_passesOne_130 (by decide) (fun c_14 => ?_) (fun c_14 => ?_)
                    · refine lv_iconst (v := 0) hx hb dX5_passesOne_137 (by decide) ?_
                      refine mp E hS hP 27 dX5_passesOne_138 (by decide) (kk := fun H locs hS hP => ?_)
                      have e2 : (mPass1 M nR nL) = (tu (tu Mj 23 0 ((Mj 23 0) + 1)) 27 0 0) := by simp only [mPass1, mPt, mP1, eq_false c_1, eq_false c_10, if_true, if_false, reduceIte, true_and, and_true, false_and, and_false, true_or, or_true, false_or, or_false, not_true_eq_false, not_false_eq_true, decide_true, decide_false, Bool.true_and, Bool.and_true, Bool.false_and, Bool.and_false, Bool.not_true, Bool.not_false, Bool.or_false, Bool.false_or, Bool.or_true, Bool.true_or]; rw [gall_e hMi e_i, wall_e hMj (show j = nL by omega)]; simp only [mPend, eq_false c_1, eq_false c_10, eq_true c_11, eq_true c_12, eq_false c_13, eq_true c_14, if_true, if_false, reduceIte, true_and, and_true, false_and, and_false, true_or, or_true, false_or, or_false, not_true_eq_false, not_false_eq_true, decide_true, decide_false, Bool.true_and, Bool.and_true, Bool.false_and, Bool.and_false, Bool.not_true, Bool.not_false, Bool.or_false, Bool.false_or, Bool.or_true, Bool.true_or]
                      exact ct_vret E hr hk hS ⟨rfl, (by rw [e2]; exact hP)⟩ dX5_passesOne_141
                    · refine lv_iconst (v := 1) hx hb dX5_passesOne_133 (by decide) ?_
                      refine lv_goto (tgt := 138) hx hb dX5_passesOne_134 (by decide) ?_
                      refine mp E hS hP 27 dX5_passesOne_138 (by decide) (kk := fun H locs hS hP => ?_)
                      have e2 : (mPass1 M nR nL) = (tu (tu Mj 23 0 ((Mj 23 0) + 1)) 27 0 1) := by simp only [mPass1, mPt, mP1, eq_false c_1, eq_false c_10, if_true, if_false, reduceIte, true_and, and_true, false_and, and_false, true_or, or_true, false_or, or_false, not_true_eq_false, not_false_eq_true, decide_true, decide_false, Bool.true_and, Bool.and_true, Bool.false_and, Bool.and_false, Bool.not_true, Bool.not_false, Bool.or_false, Bool.false_or, Bool.or_true, Bool.true_or]; rw [gall_e hMi e_i, wall_e hMj (show j = nL by omega)]; simp only [mPend, eq_false c_1, eq_false c_10, eq_true c_11, eq_true c_12, eq_false c_13, eq_false c_14, if_true, if_false, reduceIte, true_and, and_true, false_and, and_false, true_or, or_true, false_or, or_false, not_true_eq_false, not_false_eq_true, decide_true, decide_false, Bool.true_and, Bool.and_true, Bool.false_and, Bool.and_false, Bool.not_true, Bool.not_false, Bool.or_false, Bool.false_or, Bool.or_true, Bool.true_or]
                      exact ct_vret E hr hk hS ⟨rfl, (by rw [e2]; exact hP)⟩ dX5_passesOne_141
                · have n_c_12 : j < nL := Nat.lt_of_not_le (fun h9 => c_12 (nI_le h9 (by omega)))
                  obtain ⟨w9, hw10, hw9⟩ := hwh2 j (by omega)
                  refine lv_aload_n hx hb dX5_passesOne_97 rfl (lv_at hl 0 rfl) ?_
                  refine lv_iload_n hx hb dX5_passesOne_98 rfl (lv_at hl 2 rfl) ?_
                  refine ct_V E hS (c_X5_works l g F o ad Mj nR j w9 ((congrFun (hq2 14 rfl) _).trans hR) (by omega) (by omega) hw9 (by omega) (fun r9 h9 => by rw [congrFun (hq2 7 rfl) r9]; exact hBd r9 h9)) ok_X5_works lk_X5_182 hP (PM.recv hG hP) rfl hl ⟨rfl, rfl⟩ rfl ⟨Nat.le_refl _, Nat.le_refl _⟩ dX5_passesOne_99 rfl (fun v9 H locs hv9 hS hz9 => ?_)
                  obtain ⟨rfl, hP⟩ := hv9
                  refine lv_iinc (v := (nI (j + 1))) (lv' := [(2, .int (nI (j + 1))), (0, .ref o), (1, .int (mTn M nR 10 0))]) hx hb dX5_passesOne_102 hl (k := 2) rfl (by rw [nI_succ]; rfl) (by decide) rfl (fun ls hl => ?_)
                  refine lv_goto (tgt := 89) hx hb dX5_passesOne_105 (by decide) ?_
                  exact ihLB (j + 1) (mWorks Mj nR j) (by omega) (by omega) (by simp only [mWall, ← hMj]) (fun k hk9 => (mWorks_k hk9).trans (hq2 k hk9)) (mWorks_wh hwh2 (by omega)) H locs hS hP ls (lv_sub hl [1, 2, 0] rfl)
            exact LB (nL + 1) 0 Mi (Nat.zero_le _) (by omega) rfl (fun k hk9 => hq k (mWk_10 hk9)) (mWh_of hWh (hq 18 (by decide))) _ _ hS hP ls (lv_sub hl [1, 2, 0] rfl)
          · have n_c_11 : i < nR := Nat.lt_of_not_le (fun h9 => c_11 (nI_le h9 (by omega)))
            refine lv_aload_n hx hb dX5_passesOne_39 rfl (lv_at hl 0 rfl) ?_
            refine mga E hP 13 dX5_passesOne_40 (kk := ?_)
            refine lv_iload_n hx hb dX5_passesOne_43 rfl (lv_at hl 2 rfl) ?_
            refine mlc E hP 13 i (v := Mi 13 i) dX5_passesOne_44 rfl (show i < 30 by omega) rfl (kk := ?_)
            refine lv_bipush (v := 119) hx hb dX5_passesOne_45 (by decide) ?_
            refine lv_icmp_ne (tgt := 81) hx hb dX5_passesOne_47 (by decide) (fun c_15 => ?_) (fun c_15 => ?_)
            · refine lv_iinc (v := (nI (i + 1))) (lv' := [(2, .int (nI (i + 1))), (0, .ref o), (1, .int (mTn M nR 10 0))]) hx hb dX5_passesOne_81 hl (k := 2) rfl (by rw [nI_succ]; rfl) (by decide) rfl (fun ls hl => ?_)
              refine lv_goto (tgt := 31) hx hb dX5_passesOne_84 (by decide) ?_
              exact ihLA (i + 1) Mi (by omega) (by omega) (by simp only [mGall, mGs, ← hMi, (congrFun (hq 27 (by decide)) 0), eq_false c_1, eq_false c_10, eq_false c_11, eq_false c_15, if_true, if_false, reduceIte, true_and, and_true, false_and, and_false, true_or, or_true, false_or, or_false, not_true_eq_false, not_false_eq_true, decide_true, decide_false, Bool.true_and, Bool.and_true, Bool.false_and, Bool.and_false, Bool.not_true, Bool.not_false, Bool.or_false, Bool.false_or, Bool.or_true, Bool.true_or]) hq H locs hS hP ls (lv_sub hl [1, 2, 0] rfl)
            · refine lv_aload_n hx hb dX5_passesOne_50 rfl (lv_at hl 0 rfl) ?_
              refine mga E hP 10 dX5_passesOne_51 (kk := ?_)
              refine lv_iload_n hx hb dX5_passesOne_54 rfl (lv_at hl 2 rfl) ?_
              refine mli E hP 10 i (v := Mi 10 i) dX5_passesOne_55 rfl (show i < 30 by omega) rfl (kk := ?_)
              refine lv_if_ge (tgt := 81) hx hb dX5_passesOne_56 (by decide) (fun c_16 => ?_) (fun c_16 => ?_)
              · refine lv_iinc (v := (nI (i + 1))) (lv' := [(2, .int (nI (i + 1))), (0, .ref o), (1, .int (mTn M nR 10 0))]) hx hb dX5_passesOne_81 hl (k := 2) rfl (by rw [nI_succ]; rfl) (by decide) rfl (fun ls hl => ?_)
                refine lv_goto (tgt := 31) hx hb dX5_passesOne_84 (by decide) ?_
                exact ihLA (i + 1) Mi (by omega) (by omega) (by simp only [mGall, mGs, ← hMi, (congrFun (hq 27 (by decide)) 0), eq_false c_1, eq_false c_10, eq_false c_11, eq_true c_15, eq_true c_16, if_true, if_false, reduceIte, true_and, and_true, false_and, and_false, true_or, or_true, false_or, or_false, not_true_eq_false, not_false_eq_true, decide_true, decide_false, Bool.true_and, Bool.and_true, Bool.false_and, Bool.and_false, Bool.not_true, Bool.not_false, Bool.or_false, Bool.false_or, Bool.or_true, Bool.true_or]) hq H locs hS hP ls (lv_sub hl [1, 2, 0] rfl)
              · refine lv_aload_n hx hb dX5_passesOne_59 rfl (lv_at hl 0 rfl) ?_
                refine mg E hP 27 (v := M 27 0) dX5_passesOne_60 (congrFun (hq 27 (by decide)) _) (kk := ?_)
                refine lv_if_eq (tgt := 76) hx hb dX5_passesOne_63 (by decide) (fun c_17 => ?_) (fun c_17 => ?_)
                · exact absurd c_17 c_1
                · refine lv_aload_n hx hb dX5_passesOne_66 rfl (lv_at hl 0 rfl) ?_
                  refine mga E hP 8 dX5_passesOne_67 (kk := ?_)
                  refine lv_iload_n hx hb dX5_passesOne_70 rfl (lv_at hl 2 rfl) ?_
                  refine mli E hP 8 i (v := Mi 8 i) dX5_passesOne_71 rfl (show i < 30 by omega) rfl (kk := ?_)
                  refine lv_iload_n hx hb dX5_passesOne_72 rfl (lv_at hl 1 rfl) ?_
                  refine lv_icmp_ne (tgt := 81) hx hb dX5_passesOne_73 (by decide) (fun c_18 => ?_) (fun c_18 => ?_)
                  · refine lv_iinc (v := (nI (i + 1))) (lv' := [(2, .int (nI (i + 1))), (0, .ref o), (1, .int (mTn M nR 10 0))]) hx hb dX5_passesOne_81 hl (k := 2) rfl (by rw [nI_succ]; rfl) (by decide) rfl (fun ls hl => ?_)
                    refine lv_goto (tgt := 31) hx hb dX5_passesOne_84 (by decide) ?_
                    exact ihLA (i + 1) Mi (by omega) (by omega) (by simp only [mGall, mGs, ← hMi, (congrFun (hq 27 (by decide)) 0), eq_false c_1, eq_false c_10, eq_false c_11, eq_true c_15, eq_false c_16, eq_false c_17, eq_false c_18, if_true, if_false, reduceIte, true_and, and_true, false_and, and_false, true_or, or_true, false_or, or_false, not_true_eq_false, not_false_eq_true, decide_true, decide_false, Bool.true_and, Bool.and_true, Bool.false_and, Bool.and_false, Bool.not_true, Bool.not_false, Bool.or_false, Bool.false_or, Bool.or_true, Bool.true_or]) hq H locs hS hP ls (lv_sub hl [1, 2, 0] rfl)
                  · refine lv_aload_n hx hb dX5_passesOne_76 rfl (lv_at hl 0 rfl) ?_
                    refine lv_iload_n hx hb dX5_passesOne_77 rfl (lv_at hl 2 rfl) ?_
                    refine ct_V E hS (c_X5_gives l g F o ad Mi nR nL i ((congrFun (hq 14 (by decide)) _).trans hR) (by omega) ((congrFun (hq 22 (by decide)) _).trans hL) (by omega) (by omega)) ok_X5_gives lk_X5_123 hP (PM.recv hG hP) rfl hl ⟨rfl, rfl⟩ rfl ⟨Nat.le_refl _, Nat.le_refl _⟩ dX5_passesOne_78 rfl (fun v9 H locs hv9 hS hz9 => ?_)
                    obtain ⟨rfl, hP⟩ := hv9
                    refine lv_iinc (v := (nI (i + 1))) (lv' := [(2, .int (nI (i + 1))), (0, .ref o), (1, .int (mTn M nR 10 0))]) hx hb dX5_passesOne_81 hl (k := 2) rfl (by rw [nI_succ]; rfl) (by decide) rfl (fun ls hl => ?_)
                    refine lv_goto (tgt := 31) hx hb dX5_passesOne_84 (by decide) ?_
                    exact ihLA (i + 1) (mGives Mi nR nL i) (by omega) (by omega) (by simp only [mGall, mGs, ← hMi, (congrFun (hq 27 (by decide)) 0), eq_false c_1, eq_false c_10, eq_false c_11, eq_true c_15, eq_false c_16, eq_false c_17, eq_true c_18, if_true, if_false, reduceIte, true_and, and_true, false_and, and_false, true_or, or_true, false_or, or_false, not_true_eq_false, not_false_eq_true, decide_true, decide_false, Bool.true_and, Bool.and_true, Bool.false_and, Bool.and_false, Bool.not_true, Bool.not_false, Bool.or_false, Bool.false_or, Bool.or_true, Bool.true_or]) (fun k hk9 => (mGives_k hk9).trans (hq k hk9)) H locs hS hP ls (lv_sub hl [1, 2, 0] rfl)
      exact LA (nR + 1) 0 ((mFrees M (-1) nR).1) (Nat.zero_le _) (by omega) rfl (fun k hk9 => mFrees_k hk9 nR) _ _ hS hP ls (lv_sub hl [2, 1, 0] rfl)

set_option maxHeartbeats 4000000 in
set_option maxRecDepth 100000 in
theorem c_X5_pass (l : Launch) (g : cG) (F : Nat → Prop) (o : Nat) (ad : Nat → Nat) (M : TT) (nR nL : Nat) (x : Int32) (hR : M 14 0 = nI nR) (hR30 : nR ≤ 30) (hL : M 22 0 = nI nL) (hL3 : nL ≤ 3) (hBd : ∀ r, r < nR → ∃ q, q < 8 ∧ M 7 r = nI q) (hWh : mWh M nL) : CT l yX5_pass cX5_pass 4 (some .int) 6 137 0 0 g F [.ref o, .int x] (PM g F o ad M) (fun v9 H9 => v9 = some (.int ((mPass M nR nL x).1)) ∧ PM g F o ad ((mPass M nR nL x).2) H9) := by
  refine CT.of (by decide) rfl ?_
  intro p e s m args below meth c E hr hk hnm hP ls hl
  have hS : va_S (nF F) s.heap s.heap [] := va_S.rf
  have hx := E.1
  have hb := E.2.1
  have hE_ml := E.2.2.1
  have hown := E.2.2.2.1
  have hts := E.2.2.2.2.1
  have hG := E.2.2.2.2.2
  have hl : lv_has ls 4 [(0, .ref o), (1, .int x)] := hl
  refine lv_aload_n hx hb dX5_pass_0 rfl (lv_at hl 0 rfl) ?_
  refine lv_iconst (v := 0) hx hb dX5_pass_1 (by decide) ?_
  refine mp E hS hP 0 dX5_pass_2 rfl (kk := fun H locs hS hP => ?_)
  refine lv_iload_n hx hb dX5_pass_5 rfl (lv_at hl 1 rfl) ?_
  refine lv_iconst (v := 1) hx hb dX5_pass_6 (by decide) ?_
  refine lv_bipush (v := 100) hx hb dX5_pass_7 (by decide) ?_
  refine ct_S E hS (c_X5_isBetween l g F _ x 1 100) ok_X5_isBetween lk_X5_7 hP rfl hl ⟨rfl, rfl⟩ rfl ⟨Nat.le_refl _, Nat.le_refl _⟩ dX5_pass_9 rfl (fun v9 H locs hv9 hS hz9 => ?_)
  obtain ⟨rfl, hP⟩ := hv9
  refine bz_ne (tgt := 21) hx hb dX5_pass_12 (by decide) (fun c_1 => ?_) (fun c_1 => ?_)
  · obtain ⟨j, rfl, j_lo, j_hi⟩ := bet_nI 1 100 1 100 c_1 (by decide) (by decide)
    have j_cl : (nI j).toNatClampNeg = j := nI_clamp (by omega)
    refine lv_aload_n hx hb dX5_pass_21 rfl (lv_at hl 0 rfl) ?_
    refine mg E hP 16 (v := M 16 0) dX5_pass_22 (by simp [tu]) (kk := ?_)
    refine lv_istore_n (lv' := [(2, .int (M 16 0)), (0, .ref o), (1, .int (nI j))]) hx hb dX5_pass_25 rfl hl (by decide) rfl (fun ls hl => ?_)
    refine lv_iconst (v := 0) hx hb dX5_pass_26 (by decide) ?_
    refine lv_istore_n (lv' := [(3, .int 0), (2, .int (M 16 0)), (0, .ref o), (1, .int (nI j))]) hx hb dX5_pass_27 rfl hl (by decide) rfl (fun ls hl => ?_)
    have LA : ∀ (n9 i : Nat) (Mi : TT), i ≤ j → j < i + n9 → (Mi = mPassN (tu M 0 0 0) nR nL i) → (∀ k, mWk k = true → k ≠ 23 → k ≠ 27 → Mi k = (tu M 0 0 0) k) → (mWh Mi nL) → ∀ (H : Heap) (locs : List Loc), va_S (nF F) s.heap H locs → PM g F o ad Mi H → ∀ (ls : Array Slot), lv_has ls 4 [(0, .ref o), (1, .int (nI j)), (2, .int (M 16 0)), (3, .int (nI i))] → W p l e { frames := 6, cells := 0, slots := 0, locals := 137 } s m args below meth c H locs 0 0 (MQ below (Qg F (fun v9 H9 => v9 = some (.int ((mPass M nR nL (nI j)).1)) ∧ PM g F o ad ((mPass M nR nL (nI j)).2) H9)) args s 0 0 (nF F)) (F0 m 28 ls []) := by
      intro n9
      induction n9 with
      | zero => intro i Mi hi9 hn9; exact absurd hn9 (by omega)
      | succ n9 ihLA =>
        intro i Mi hi_LA hn_LA hMi hq hwh H locs hS hP ls hl
        refine lv_iload_n hx hb dX5_pass_28 rfl (lv_at hl 3 rfl) ?_
        refine lv_iload_n hx hb dX5_pass_29 rfl (lv_at hl 1 rfl) ?_
        refine lv_icmp_ge (tgt := 43) hx hb dX5_pass_30 (by decide) (fun c_2 => ?_) (fun c_2 => ?_)
        · have n_c_2 : j ≤ i := (nI_leI (by omega) (by omega)).mp c_2
          refine lv_aload_n hx hb dX5_pass_43 rfl (lv_at hl 0 rfl) ?_
          refine mg E hP 16 (v := Mi 16 0) dX5_pass_44 rfl (kk := ?_)
          refine lv_iload_n hx hb dX5_pass_47 rfl (lv_at hl 2 rfl) ?_
          refine lv_isub hx hb dX5_pass_48 ?_
          have e1 : ((mPass M nR nL (nI j)).1) = (Mi 16 0) - (M 16 0) := by simp only [mPass, eq_true c_1, j_cl, if_true, if_false, reduceIte, true_and, and_true, false_and, and_false, true_or, or_true, false_or, or_false, not_true_eq_false, not_false_eq_true, decide_true, decide_false, Bool.true_and, Bool.and_true, Bool.false_and, Bool.and_false, Bool.not_true, Bool.not_false, Bool.or_false, Bool.false_or, Bool.or_true, Bool.true_or]; rw [show j = i by omega, ← hMi]
          have e2 : ((mPass M nR nL (nI j)).2) = Mi := by simp only [mPass, eq_true c_1, j_cl, if_true, if_false, reduceIte, true_and, and_true, false_and, and_false, true_or, or_true, false_or, or_false, not_true_eq_false, not_false_eq_true, decide_true, decide_false, Bool.true_and, Bool.and_true, Bool.false_and, Bool.and_false, Bool.not_true, Bool.not_false, Bool.or_false, Bool.false_or, Bool.or_true, Bool.true_or]; rw [show j = i by omega, ← hMi]
          exact ct_iret E hr hk hS ⟨(by rw [e1]), (by rw [e2]; exact hP)⟩ dX5_pass_49
        · have n_c_2 : i < j := Nat.lt_of_not_le (fun h9 => c_2 (nI_le h9 (by omega)))
          refine lv_aload_n hx hb dX5_pass_33 rfl (lv_at hl 0 rfl) ?_
          refine ct_V E hS (c_X5_passesOne l g F o ad Mi nR nL ((congrFun (hq 14 rfl (by decide) (by decide)) _).trans hR) (by omega) ((congrFun (hq 22 rfl (by decide) (by decide)) _).trans hL) (by omega) (fun r9 h9 => by rw [congrFun (hq 7 rfl (by decide) (by decide)) r9]; exact hBd r9 h9) hwh) ok_X5_passesOne lk_X5_188 hP (PM.recv hG hP) rfl hl ⟨rfl, rfl⟩ rfl ⟨Nat.le_refl _, Nat.le_refl _⟩ dX5_pass_34 rfl (fun v9 H locs hv9 hS hz9 => ?_)
          obtain ⟨rfl, hP⟩ := hv9
          refine lv_iinc (v := (nI (i + 1))) (lv' := [(3, .int (nI (i + 1))), (0, .ref o), (1, .int (nI j)), (2, .int (M 16 0))]) hx hb dX5_pass_37 hl (k := 3) rfl (by rw [nI_succ]; rfl) (by decide) rfl (fun ls hl => ?_)
          refine lv_goto (tgt := 28) hx hb dX5_pass_40 (by decide) ?_
          exact ihLA (i + 1) (mPass1 Mi nR nL) (by omega) (by omega) (by simp only [mPassN, ← hMi]) (fun k h1 h2 h3 => (mPass1_k h1 h2 h3).trans (hq k h1 h2 h3)) (mPass1_wh hwh) H locs hS hP ls (lv_sub hl [1, 2, 3, 0] rfl)
    exact LA (j + 1) 0 (tu M 0 0 0) (Nat.zero_le _) (by omega) rfl (fun k _ _ _ => rfl) (mWh_of hWh (tu_r (by decide))) _ _ hS hP ls (lv_sub hl [2, 3, 1, 0] rfl)
  · refine lv_aload_n hx hb dX5_pass_15 rfl (lv_at hl 0 rfl) ?_
    refine lv_iconst (v := 1) hx hb dX5_pass_16 (by decide) ?_
    refine ct_V E hS (c_X5_fails l g F o ad (tu M 0 0 0) 1) ok_X5_fails lk_X5_80 hP (PM.recv hG hP) rfl hl ⟨rfl, rfl⟩ rfl ⟨Nat.le_refl _, Nat.le_refl _⟩ dX5_pass_17 rfl (fun v9 H locs hv9 hS hz9 => ?_)
    obtain ⟨rfl, hP⟩ := hv9
    have e1 : ((mPass M nR nL x).1) = 0 := by simp only [mPass, eq_false c_1, mF, if_true, if_false, reduceIte, true_and, and_true, false_and, and_false, true_or, or_true, false_or, or_false, not_true_eq_false, not_false_eq_true, decide_true, decide_false, Bool.true_and, Bool.and_true, Bool.false_and, Bool.and_false, Bool.not_true, Bool.not_false, Bool.or_false, Bool.false_or, Bool.or_true, Bool.true_or]
    have e2 : ((mPass M nR nL x).2) = (tu (tu M 0 0 0) 0 0 1) := by simp only [mPass, eq_false c_1, mF, if_true, if_false, reduceIte, true_and, and_true, false_and, and_false, true_or, or_true, false_or, or_false, not_true_eq_false, not_false_eq_true, decide_true, decide_false, Bool.true_and, Bool.and_true, Bool.false_and, Bool.and_false, Bool.not_true, Bool.not_false, Bool.or_false, Bool.false_or, Bool.or_true, Bool.true_or]
    exact ct_iret E hr hk hS ⟨(by rw [e1]), (by rw [e2]; exact hP)⟩ dX5_pass_20

set_option maxHeartbeats 4000000 in
set_option maxRecDepth 100000 in
theorem c_X5_alarm (l : Launch) (g : cG) (F : Nat → Prop) (o : Nat) (ad : Nat → Nat) (M : TT) (nR : Nat) (x : Int32) (hR : M 14 0 = nI nR) (hR30 : nR ≤ 30) : CT l yX5_alarm cX5_alarm 3 (some .int) 2 42 0 0 g F [.ref o, .int x] (PM g F o ad M) (fun v9 H9 => v9 = some (.int ((mAlarm M nR x).1)) ∧ PM g F o ad ((mAlarm M nR x).2) H9) := by
  refine CT.of (by decide) rfl ?_
  intro p e s m args below meth c E hr hk hnm hP ls hl
  have hS : va_S (nF F) s.heap s.heap [] := va_S.rf
  have hx := E.1
  have hb := E.2.1
  have hE_ml := E.2.2.1
  have hown := E.2.2.2.1
  have hts := E.2.2.2.2.1
  have hG := E.2.2.2.2.2
  have hl : lv_has ls 3 [(0, .ref o), (1, .int x)] := hl
  refine lv_aload_n hx hb dX5_alarm_0 rfl (lv_at hl 0 rfl) ?_
  refine lv_iconst (v := 0) hx hb dX5_alarm_1 (by decide) ?_
  refine mp E hS hP 0 dX5_alarm_2 rfl (kk := fun H locs hS hP => ?_)
  refine lv_iload_n hx hb dX5_alarm_5 rfl (lv_at hl 1 rfl) ?_
  refine ct_S E hS (c_X5_isFloor l g F _ x) ok_X5_isFloor lk_X5_94 hP rfl hl ⟨rfl, rfl⟩ rfl ⟨Nat.le_refl _, Nat.le_refl _⟩ dX5_alarm_6 rfl (fun v9 H locs hv9 hS hz9 => ?_)
  obtain ⟨rfl, hP⟩ := hv9
  refine bz_ne (tgt := 18) hx hb dX5_alarm_9 (by decide) (fun c_1 => ?_) (fun c_1 => ?_)
  · obtain ⟨f, rfl, f_lo, f_hi⟩ := bet_nI 0 9 0 9 c_1 (by decide) (by decide)
    have f_cl : (nI f).toNatClampNeg = f := nI_clamp (by omega)
    refine lv_aload_n hx hb dX5_alarm_18 rfl (lv_at hl 0 rfl) ?_
    refine mg E hP 27 (v := M 27 0) dX5_alarm_19 (by simp [tu]) (kk := ?_)
    refine lv_if_ne (tgt := 32) hx hb dX5_alarm_22 (by decide) (fun c_2 => ?_) (fun c_2 => ?_)
    · refine lv_aload_n hx hb dX5_alarm_32 rfl (lv_at hl 0 rfl) ?_
      refine lv_iconst (v := 2) hx hb dX5_alarm_33 (by decide) ?_
      refine ct_V E hS (c_X5_fails l g F o ad (tu M 0 0 0) 2) ok_X5_fails lk_X5_80 hP (PM.recv hG hP) rfl hl ⟨rfl, rfl⟩ rfl ⟨Nat.le_refl _, Nat.le_refl _⟩ dX5_alarm_34 rfl (fun v9 H locs hv9 hS hz9 => ?_)
      obtain ⟨rfl, hP⟩ := hv9
      have e1 : ((mAlarm M nR (nI f)).1) = 0 := by simp only [mAlarm, mF, eq_true c_1, eq_false c_2, if_true, if_false, reduceIte, true_and, and_true, false_and, and_false, true_or, or_true, false_or, or_false, not_true_eq_false, not_false_eq_true, decide_true, decide_false, Bool.true_and, Bool.and_true, Bool.false_and, Bool.and_false, Bool.not_true, Bool.not_false, Bool.or_false, Bool.false_or, Bool.or_true, Bool.true_or]
      have e2 : ((mAlarm M nR (nI f)).2) = (tu (tu M 0 0 0) 0 0 2) := by simp only [mAlarm, mF, eq_true c_1, eq_false c_2, if_true, if_false, reduceIte, true_and, and_true, false_and, and_false, true_or, or_true, false_or, or_false, not_true_eq_false, not_false_eq_true, decide_true, decide_false, Bool.true_and, Bool.and_true, Bool.false_and, Bool.and_false, Bool.not_true, Bool.not_false, Bool.or_false, Bool.false_or, Bool.or_true, Bool.true_or]
      exact ct_iret E hr hk hS ⟨(by rw [e1]), (by rw [e2]; exact hP)⟩ dX5_alarm_37
    · refine lv_aload_n hx hb dX5_alarm_25 rfl (lv_at hl 0 rfl) ?_
      refine ct_V E hS (c_X5_outMany l g F o ad (tu M 0 0 0) nR (by simp [tu, hR]) (by omega)) ok_X5_outMany lk_X5_185 hP (PM.recv hG hP) rfl hl ⟨rfl, rfl⟩ rfl ⟨Nat.le_refl _, Nat.le_refl _⟩ dX5_alarm_26 rfl (fun v9 H locs hv9 hS hz9 => ?_)
      obtain ⟨rfl, hP⟩ := hv9
      refine lv_if_ne (tgt := 38) hx hb dX5_alarm_29 (by decide) (fun c_3 => ?_) (fun c_3 => ?_)
      · refine lv_aload_n hx hb dX5_alarm_38 rfl (lv_at hl 0 rfl) ?_
        refine lv_iconst (v := 1) hx hb dX5_alarm_39 (by decide) ?_
        refine mp E hS hP 27 dX5_alarm_40 (by decide) (kk := fun H locs hS hP => ?_)
        refine lv_aload_n hx hb dX5_alarm_43 rfl (lv_at hl 0 rfl) ?_
        refine lv_iload_n hx hb dX5_alarm_44 rfl (lv_at hl 1 rfl) ?_
        refine mp E hS hP 26 dX5_alarm_45 rfl (kk := fun H locs hS hP => ?_)
        refine lv_aload_n hx hb dX5_alarm_48 rfl (lv_at hl 0 rfl) ?_
        refine lv_iconst (v := (-1)) hx hb dX5_alarm_49 (by decide) ?_
        refine ct_V E hS (c_X5_frees l g F o ad (tu (tu (tu M 0 0 0) 27 0 1) 26 0 (nI f)) nR (-1) (by simp [tu, hR]) (by omega)) ok_X5_frees lk_X5_142 hP (PM.recv hG hP) rfl hl ⟨rfl, rfl⟩ rfl ⟨Nat.le_refl _, Nat.le_refl _⟩ dX5_alarm_50 rfl (fun v9 H locs hv9 hS hz9 => ?_)
        obtain ⟨rfl, hP⟩ := hv9
        refine lv_pop hx hb dX5_alarm_53 rfl ?_
        refine lv_iconst (v := 0) hx hb dX5_alarm_54 (by decide) ?_
        refine lv_istore_n (lv' := [(2, .int 0), (0, .ref o), (1, .int (nI f))]) hx hb dX5_alarm_55 rfl hl (by decide) rfl (fun ls hl => ?_)
        have LA : ∀ (n9 i : Nat) (Mi : TT), i ≤ nR → nR < i + n9 → (Mi = mAl (mFrees (tu (tu (tu M 0 0 0) 27 0 1) 26 0 (nI f)) (-1) nR).1 i) → (∀ k, mOk k = true → Mi k = (mFrees (tu (tu (tu M 0 0 0) 27 0 1) 26 0 (nI f)) (-1) nR).1 k) → ∀ (H : Heap) (locs : List Loc), va_S (nF F) s.heap H locs → PM g F o ad Mi H → ∀ (ls : Array Slot), lv_has ls 3 [(0, .ref o), (1, .int (nI f)), (2, .int (nI i))] → W p l e { frames := 2, cells := 0, slots := 0, locals := 42 } s m args below meth c H locs 0 0 (MQ below (Qg F (fun v9 H9 => v9 = some (.int ((mAlarm M nR (nI f)).1)) ∧ PM g F o ad ((mAlarm M nR (nI f)).2) H9)) args s 0 0 (nF F)) (F0 m 56 ls []) := by
          intro n9
          induction n9 with
          | zero => intro i Mi hi9 hn9; exact absurd hn9 (by omega)
          | succ n9 ihLA =>
            intro i Mi hi_LA hn_LA hMi hq H locs hS hP ls hl
            refine lv_iload_n hx hb dX5_alarm_56 rfl (lv_at hl 2 rfl) ?_
            refine lv_aload_n hx hb dX5_alarm_57 rfl (lv_at hl 0 rfl) ?_
            refine mg E hP 14 (v := (nI nR)) dX5_alarm_58 ((congrFun ((hq 14 rfl).trans (mFrees_k (by decide) nR)) _).trans hR) (kk := ?_)
            refine lv_icmp_ge (tgt := 117) hx hb dX5_alarm_61 (by decide) (fun c_4 => ?_) (fun c_4 => ?_)
            · have n_c_4 : nR ≤ i := (nI_leI (by omega) (by omega)).mp c_4
              refine lv_aload_n hx hb dX5_alarm_117 rfl (lv_at hl 0 rfl) ?_
              refine ct_V E hS (c_X5_outMany l g F o ad Mi nR ((congrFun ((hq 14 rfl).trans (mFrees_k (by decide) nR)) _).trans hR) (by omega)) ok_X5_outMany lk_X5_185 hP (PM.recv hG hP) rfl hl ⟨rfl, rfl⟩ rfl ⟨Nat.le_refl _, Nat.le_refl _⟩ dX5_alarm_118 rfl (fun v9 H locs hv9 hS hz9 => ?_)
              obtain ⟨rfl, hP⟩ := hv9
              have e1 : ((mAlarm M nR (nI f)).1) = mOm Mi nR := by simp only [mAlarm, mF, eq_true c_1, eq_true c_2, eq_false c_3, eq_true c_4, if_true, if_false, reduceIte, true_and, and_true, false_and, and_false, true_or, or_true, false_or, or_false, not_true_eq_false, not_false_eq_true, decide_true, decide_false, Bool.true_and, Bool.and_true, Bool.false_and, Bool.and_false, Bool.not_true, Bool.not_false, Bool.or_false, Bool.false_or, Bool.or_true, Bool.true_or]; rw [al_e hMi (by omega)]
              have e2 : ((mAlarm M nR (nI f)).2) = Mi := by simp only [mAlarm, mF, eq_true c_1, eq_true c_2, eq_false c_3, eq_true c_4, if_true, if_false, reduceIte, true_and, and_true, false_and, and_false, true_or, or_true, false_or, or_false, not_true_eq_false, not_false_eq_true, decide_true, decide_false, Bool.true_and, Bool.and_true, Bool.false_and, Bool.and_false, Bool.not_true, Bool.not_false, Bool.or_false, Bool.false_or, Bool.or_true, Bool.true_or]; rw [al_e hMi (by omega)]
              exact ct_iret E hr hk hS ⟨(by rw [e1]), (by rw [e2]; exact hP)⟩ dX5_alarm_121
            · have n_c_4 : i < nR := Nat.lt_of_not_le (fun h9 => c_4 (nI_le h9 (by omega)))
              refine lv_aload_n hx hb dX5_alarm_64 rfl (lv_at hl 0 rfl) ?_
              refine mga E hP 13 dX5_alarm_65 (kk := ?_)
              refine lv_iload_n hx hb dX5_alarm_68 rfl (lv_at hl 2 rfl) ?_
              refine mlc E hP 13 i (v := Mi 13 i) dX5_alarm_69 rfl (show i < 30 by omega) rfl (kk := ?_)
              refine lv_bipush (v := 100) hx hb dX5_alarm_70 (by decide) ?_
              refine lv_icmp_ne (tgt := 78) hx hb dX5_alarm_72 (by decide) (fun c_5 => ?_) (fun c_5 => ?_)
              · refine lv_aload_n hx hb dX5_alarm_78 rfl (lv_at hl 0 rfl) ?_
                refine mga E hP 9 dX5_alarm_79 (kk := ?_)
                refine lv_iload_n hx hb dX5_alarm_82 rfl (lv_at hl 2 rfl) ?_
                refine lv_iconst (v := 0) hx hb dX5_alarm_83 (by decide) ?_
                refine msi E hS hP 9 i dX5_alarm_84 rfl (show i < 30 by omega) (kk := fun H locs hS hP => ?_)
                refine lv_aload_n hx hb dX5_alarm_85 rfl (lv_at hl 0 rfl) ?_
                refine mga E hP 13 dX5_alarm_86 (kk := ?_)
                refine lv_iload_n hx hb dX5_alarm_89 rfl (lv_at hl 2 rfl) ?_
                refine mlc E hP 13 i (v := Mi 13 i) dX5_alarm_90 rfl (show i < 30 by omega) (by simp [tu]) (kk := ?_)
                refine lv_bipush (v := 119) hx hb dX5_alarm_91 (by decide) ?_
                refine lv_icmp_ne (tgt := 111) hx hb dX5_alarm_93 (by decide) (fun c_6 => ?_) (fun c_6 => ?_)
                · refine lv_iinc (v := (nI (i + 1))) (lv' := [(2, .int (nI (i + 1))), (0, .ref o), (1, .int (nI f))]) hx hb dX5_alarm_111 hl (k := 2) rfl (by rw [nI_succ]; rfl) (by decide) rfl (fun ls hl => ?_)
                  refine lv_goto (tgt := 56) hx hb dX5_alarm_114 (by decide) ?_
                  exact ihLA (i + 1) (tu Mi 9 i 0) (by omega) (by omega) (by simp only [mAl, mAls, ← hMi, eq_true c_1, eq_true c_2, eq_false c_3, eq_false c_4, eq_false c_5, eq_false c_6, if_true, if_false, reduceIte, true_and, and_true, false_and, and_false, true_or, or_true, false_or, or_false, not_true_eq_false, not_false_eq_true, decide_true, decide_false, Bool.true_and, Bool.and_true, Bool.false_and, Bool.and_false, Bool.not_true, Bool.not_false, Bool.or_false, Bool.false_or, Bool.or_true, Bool.true_or]) (fun k hk9 => by rw [tu_r (by rintro rfl; cases hk9)]; exact hq k hk9) H locs hS hP ls (lv_sub hl [1, 2, 0] rfl)
                · refine lv_aload_n hx hb dX5_alarm_96 rfl (lv_at hl 0 rfl) ?_
                  refine mga E hP 8 dX5_alarm_97 (kk := ?_)
                  refine lv_iload_n hx hb dX5_alarm_100 rfl (lv_at hl 2 rfl) ?_
                  refine mli E hP 8 i (v := Mi 8 i) dX5_alarm_101 rfl (show i < 30 by omega) (by simp [tu]) (kk := ?_)
                  refine lv_if_ne (tgt := 111) hx hb dX5_alarm_102 (by decide) (fun c_7 => ?_) (fun c_7 => ?_)
                  · refine lv_iinc (v := (nI (i + 1))) (lv' := [(2, .int (nI (i + 1))), (0, .ref o), (1, .int (nI f))]) hx hb dX5_alarm_111 hl (k := 2) rfl (by rw [nI_succ]; rfl) (by decide) rfl (fun ls hl => ?_)
                    refine lv_goto (tgt := 56) hx hb dX5_alarm_114 (by decide) ?_
                    exact ihLA (i + 1) (tu Mi 9 i 0) (by omega) (by omega) (by simp only [mAl, mAls, ← hMi, eq_true c_1, eq_true c_2, eq_false c_3, eq_false c_4, eq_false c_5, eq_true c_6, eq_false c_7, if_true, if_false, reduceIte, true_and, and_true, false_and, and_false, true_or, or_true, false_or, or_false, not_true_eq_false, not_false_eq_true, decide_true, decide_false, Bool.true_and, Bool.and_true, Bool.false_and, Bool.and_false, Bool.not_true, Bool.not_false, Bool.or_false, Bool.false_or, Bool.or_true, Bool.true_or]) (fun k hk9 => by rw [tu_r (by rintro rfl; cases hk9)]; exact hq k hk9) H locs hS hP ls (lv_sub hl [1, 2, 0] rfl)
                  · refine lv_aload_n hx hb dX5_alarm_105 rfl (lv_at hl 0 rfl) ?_
                    refine lv_iload_n hx hb dX5_alarm_106 rfl (lv_at hl 2 rfl) ?_
                    refine lv_iconst (v := 0) hx hb dX5_alarm_107 (by decide) ?_
                    refine ct_V E hS (c_X5_ends l g F o ad (tu Mi 9 i 0) i 0 (by omega)) ok_X5_ends lk_X5_151 hP (PM.recv hG hP) rfl hl ⟨rfl, rfl⟩ rfl ⟨Nat.le_refl _, Nat.le_refl _⟩ dX5_alarm_108 rfl (fun v9 H locs hv9 hS hz9 => ?_)
                    obtain ⟨rfl, hP⟩ := hv9
                    refine lv_iinc (v := (nI (i + 1))) (lv' := [(2, .int (nI (i + 1))), (0, .ref o), (1, .int (nI f))]) hx hb dX5_alarm_111 hl (k := 2) rfl (by rw [nI_succ]; rfl) (by decide) rfl (fun ls hl => ?_)
                    refine lv_goto (tgt := 56) hx hb dX5_alarm_114 (by decide) ?_
                    exact ihLA (i + 1) (mEnds (tu Mi 9 i 0) i 0) (by omega) (by omega) (by simp only [mAl, mAls, ← hMi, eq_true c_1, eq_true c_2, eq_false c_3, eq_false c_4, eq_false c_5, eq_true c_6, eq_true c_7, if_true, if_false, reduceIte, true_and, and_true, false_and, and_false, true_or, or_true, false_or, or_false, not_true_eq_false, not_false_eq_true, decide_true, decide_false, Bool.true_and, Bool.and_true, Bool.false_and, Bool.and_false, Bool.not_true, Bool.not_false, Bool.or_false, Bool.false_or, Bool.or_true, Bool.true_or]) (fun k hk9 => (mEnds_k hk9).trans (by rw [tu_r (by rintro rfl; cases hk9)]; exact hq k hk9)) H locs hS hP ls (lv_sub hl [1, 2, 0] rfl)
              · refine lv_goto (tgt := 111) hx hb dX5_alarm_75 (by decide) ?_
                refine lv_iinc (v := (nI (i + 1))) (lv' := [(2, .int (nI (i + 1))), (0, .ref o), (1, .int (nI f))]) hx hb dX5_alarm_111 hl (k := 2) rfl (by rw [nI_succ]; rfl) (by decide) rfl (fun ls hl => ?_)
                refine lv_goto (tgt := 56) hx hb dX5_alarm_114 (by decide) ?_
                exact ihLA (i + 1) Mi (by omega) (by omega) (by simp only [mAl, mAls, ← hMi, eq_true c_1, eq_true c_2, eq_false c_3, eq_false c_4, eq_true c_5, if_true, if_false, reduceIte, true_and, and_true, false_and, and_false, true_or, or_true, false_or, or_false, not_true_eq_false, not_false_eq_true, decide_true, decide_false, Bool.true_and, Bool.and_true, Bool.false_and, Bool.and_false, Bool.not_true, Bool.not_false, Bool.or_false, Bool.false_or, Bool.or_true, Bool.true_or]) hq H locs hS hP ls (lv_sub hl [1, 2, 0] rfl)
        exact LA (nR + 1) 0 _ (Nat.zero_le _) (by omega) rfl (fun k _ => rfl) _ _ hS hP ls (lv_sub hl [1, 2, 0] rfl)
      · refine lv_aload_n hx hb dX5_alarm_32 rfl (lv_at hl 0 rfl) ?_
        refine lv_iconst (v := 2) hx hb dX5_alarm_33 (by decide) ?_
        refine ct_V E hS (c_X5_fails l g F o ad (tu M 0 0 0) 2) ok_X5_fails lk_X5_80 hP (PM.recv hG hP) rfl hl ⟨rfl, rfl⟩ rfl ⟨Nat.le_refl _, Nat.le_refl _⟩ dX5_alarm_34 rfl (fun v9 H locs hv9 hS hz9 => ?_)
        obtain ⟨rfl, hP⟩ := hv9
        have e1 : ((mAlarm M nR (nI f)).1) = 0 := by simp only [mAlarm, mF, eq_true c_1, eq_true c_2, eq_true c_3, if_true, if_false, reduceIte, true_and, and_true, false_and, and_false, true_or, or_true, false_or, or_false, not_true_eq_false, not_false_eq_true, decide_true, decide_false, Bool.true_and, Bool.and_true, Bool.false_and, Bool.and_false, Bool.not_true, Bool.not_false, Bool.or_false, Bool.false_or, Bool.or_true, Bool.true_or]
        have e2 : ((mAlarm M nR (nI f)).2) = (tu (tu M 0 0 0) 0 0 2) := by simp only [mAlarm, mF, eq_true c_1, eq_true c_2, eq_true c_3, if_true, if_false, reduceIte, true_and, and_true, false_and, and_false, true_or, or_true, false_or, or_false, not_true_eq_false, not_false_eq_true, decide_true, decide_false, Bool.true_and, Bool.and_true, Bool.false_and, Bool.and_false, Bool.not_true, Bool.not_false, Bool.or_false, Bool.false_or, Bool.or_true, Bool.true_or]
        exact ct_iret E hr hk hS ⟨(by rw [e1]), (by rw [e2]; exact hP)⟩ dX5_alarm_37
  · refine lv_aload_n hx hb dX5_alarm_12 rfl (lv_at hl 0 rfl) ?_
    refine lv_iconst (v := 1) hx hb dX5_alarm_13 (by decide) ?_
    refine ct_V E hS (c_X5_fails l g F o ad (tu M 0 0 0) 1) ok_X5_fails lk_X5_80 hP (PM.recv hG hP) rfl hl ⟨rfl, rfl⟩ rfl ⟨Nat.le_refl _, Nat.le_refl _⟩ dX5_alarm_14 rfl (fun v9 H locs hv9 hS hz9 => ?_)
    obtain ⟨rfl, hP⟩ := hv9
    have e1 : ((mAlarm M nR x).1) = 0 := by simp only [mAlarm, mF, eq_false c_1, if_true, if_false, reduceIte, true_and, and_true, false_and, and_false, true_or, or_true, false_or, or_false, not_true_eq_false, not_false_eq_true, decide_true, decide_false, Bool.true_and, Bool.and_true, Bool.false_and, Bool.and_false, Bool.not_true, Bool.not_false, Bool.or_false, Bool.false_or, Bool.or_true, Bool.true_or]
    have e2 : ((mAlarm M nR x).2) = (tu (tu M 0 0 0) 0 0 1) := by simp only [mAlarm, mF, eq_false c_1, if_true, if_false, reduceIte, true_and, and_true, false_and, and_false, true_or, or_true, false_or, or_false, not_true_eq_false, not_false_eq_true, decide_true, decide_false, Bool.true_and, Bool.and_true, Bool.false_and, Bool.and_false, Bool.not_true, Bool.not_false, Bool.or_false, Bool.false_or, Bool.or_true, Bool.true_or]
    exact ct_iret E hr hk hS ⟨(by rw [e1]), (by rw [e2]; exact hP)⟩ dX5_alarm_17

set_option maxHeartbeats 4000000 in
set_option maxRecDepth 100000 in
theorem c_X5_turn (l : Launch) (g : cG) (F : Nat → Prop) (o : Nat) (ad : Nat → Nat) (M : TT) (nR : Nat) (hR : M 14 0 = nI nR) (hR30 : nR ≤ 30) : CT l yX5_turn cX5_turn 2 (some .int) 2 43 0 0 g F [.ref o] (PM g F o ad M) (fun v9 H9 => v9 = some (.int ((mTurn M nR).1)) ∧ PM g F o ad ((mTurn M nR).2) H9) := by
  refine CT.of (by decide) rfl ?_
  intro p e s m args below meth c E hr hk hnm hP ls hl
  have hS : va_S (nF F) s.heap s.heap [] := va_S.rf
  have hx := E.1
  have hb := E.2.1
  have hE_ml := E.2.2.1
  have hown := E.2.2.2.1
  have hts := E.2.2.2.2.1
  have hG := E.2.2.2.2.2
  have hl : lv_has ls 2 [(0, .ref o)] := hl
  refine lv_aload_n hx hb dX5_turn_0 rfl (lv_at hl 0 rfl) ?_
  refine lv_iconst (v := 0) hx hb dX5_turn_1 (by decide) ?_
  refine mp E hS hP 0 dX5_turn_2 rfl (kk := fun H locs hS hP => ?_)
  refine lv_aload_n hx hb dX5_turn_5 rfl (lv_at hl 0 rfl) ?_
  refine mg E hP 27 (v := M 27 0) dX5_turn_6 (by simp [tu]) (kk := ?_)
  refine lv_if_eq (tgt := 19) hx hb dX5_turn_9 (by decide) (fun c_1 => ?_) (fun c_1 => ?_)
  · refine lv_iconst (v := (-1)) hx hb dX5_turn_19 (by decide) ?_
    refine lv_istore_n (lv' := [(1, .int (-1)), (0, .ref o)]) hx hb dX5_turn_20 rfl hl (by decide) rfl (fun ls hl => ?_)
    refine lv_iload_n hx hb dX5_turn_21 rfl (lv_at hl 0 rfl) ?_
    refine lv_if_ge (tgt := 33) hx hb dX5_turn_22 (by decide) (fun c_2 => ?_) (fun c_2 => ?_)
    · exact absurd c_2 (by decide)
    · refine lv_aload_n hx hb dX5_turn_25 rfl (lv_at hl 1 rfl) ?_
      refine lv_iconst (v := 1) hx hb dX5_turn_26 (by decide) ?_
      refine ct_V E hS (c_X5_fails l g F o ad (tu M 0 0 0) 1) ok_X5_fails lk_X5_80 hP (PM.recv hG hP) rfl hl ⟨rfl, rfl⟩ rfl ⟨Nat.le_refl _, Nat.le_refl _⟩ dX5_turn_27 rfl (fun v9 H locs hv9 hS hz9 => ?_)
      obtain ⟨rfl, hP⟩ := hv9
      refine lv_goto (tgt := 34) hx hb dX5_turn_30 (by decide) ?_
      have e1 : ((mTurn M nR).1) = 0 := by simp only [mTurn, mPt, mF, tu_k (show (27 : Nat) ≠ 0 by decide), eq_true c_1, eq_false c_2, if_true, if_false, reduceIte, true_and, and_true, false_and, and_false, true_or, or_true, false_or, or_false, not_true_eq_false, not_false_eq_true, decide_true, decide_false, Bool.true_and, Bool.and_true, Bool.false_and, Bool.and_false, Bool.not_true, Bool.not_false, Bool.or_false, Bool.false_or, Bool.or_true, Bool.true_or]
      have e2 : ((mTurn M nR).2) = (tu (tu M 0 0 0) 0 0 1) := by simp only [mTurn, mPt, mF, tu_k (show (27 : Nat) ≠ 0 by decide), eq_true c_1, eq_false c_2, if_true, if_false, reduceIte, true_and, and_true, false_and, and_false, true_or, or_true, false_or, or_false, not_true_eq_false, not_false_eq_true, decide_true, decide_false, Bool.true_and, Bool.and_true, Bool.false_and, Bool.and_false, Bool.not_true, Bool.not_false, Bool.or_false, Bool.false_or, Bool.or_true, Bool.true_or]
      exact ct_iret E hr hk hS ⟨(by rw [e1]), (by rw [e2]; exact hP)⟩ dX5_turn_34
  · refine lv_aload_n hx hb dX5_turn_12 rfl (lv_at hl 0 rfl) ?_
    refine ct_V E hS (c_X5_turnNow l g F o ad (tu M 0 0 0) nR (by simp [tu, hR]) (by omega)) ok_X5_turnNow lk_X5_178 hP (PM.recv hG hP) rfl hl ⟨rfl, rfl⟩ rfl ⟨Nat.le_refl _, Nat.le_refl _⟩ dX5_turn_13 rfl (fun v9 H locs hv9 hS hz9 => ?_)
    obtain ⟨rfl, hP⟩ := hv9
    refine lv_goto (tgt := 20) hx hb dX5_turn_16 (by decide) ?_
    refine lv_istore_n (lv' := [(1, .int (mTn (tu M 0 0 0) nR 10 0)), (0, .ref o)]) hx hb dX5_turn_20 rfl hl (by decide) rfl (fun ls hl => ?_)
    refine lv_iload_n hx hb dX5_turn_21 rfl (lv_at hl 0 rfl) ?_
    refine lv_if_ge (tgt := 33) hx hb dX5_turn_22 (by decide) (fun c_3 => ?_) (fun c_3 => ?_)
    · refine lv_iload_n hx hb dX5_turn_33 rfl (lv_at hl 0 rfl) ?_
      have e1 : ((mTurn M nR).1) = mTn (tu M 0 0 0) nR 10 0 := by simp only [mTurn, mPt, mF, tu_k (show (27 : Nat) ≠ 0 by decide), eq_false c_1, eq_true c_3, if_true, if_false, reduceIte, true_and, and_true, false_and, and_false, true_or, or_true, false_or, or_false, not_true_eq_false, not_false_eq_true, decide_true, decide_false, Bool.true_and, Bool.and_true, Bool.false_and, Bool.and_false, Bool.not_true, Bool.not_false, Bool.or_false, Bool.false_or, Bool.or_true, Bool.true_or]
      have e2 : ((mTurn M nR).2) = (tu M 0 0 0) := by simp only [mTurn, mPt, mF, tu_k (show (27 : Nat) ≠ 0 by decide), eq_false c_1, eq_true c_3, if_true, if_false, reduceIte, true_and, and_true, false_and, and_false, true_or, or_true, false_or, or_false, not_true_eq_false, not_false_eq_true, decide_true, decide_false, Bool.true_and, Bool.and_true, Bool.false_and, Bool.and_false, Bool.not_true, Bool.not_false, Bool.or_false, Bool.false_or, Bool.or_true, Bool.true_or]
      exact ct_iret E hr hk hS ⟨(by rw [e1]), (by rw [e2]; exact hP)⟩ dX5_turn_34
    · refine lv_aload_n hx hb dX5_turn_25 rfl (lv_at hl 1 rfl) ?_
      refine lv_iconst (v := 1) hx hb dX5_turn_26 (by decide) ?_
      refine ct_V E hS (c_X5_fails l g F o ad (tu M 0 0 0) 1) ok_X5_fails lk_X5_80 hP (PM.recv hG hP) rfl hl ⟨rfl, rfl⟩ rfl ⟨Nat.le_refl _, Nat.le_refl _⟩ dX5_turn_27 rfl (fun v9 H locs hv9 hS hz9 => ?_)
      obtain ⟨rfl, hP⟩ := hv9
      refine lv_goto (tgt := 34) hx hb dX5_turn_30 (by decide) ?_
      have e1 : ((mTurn M nR).1) = 0 := by simp only [mTurn, mPt, mF, tu_k (show (27 : Nat) ≠ 0 by decide), eq_false c_1, eq_false c_3, if_true, if_false, reduceIte, true_and, and_true, false_and, and_false, true_or, or_true, false_or, or_false, not_true_eq_false, not_false_eq_true, decide_true, decide_false, Bool.true_and, Bool.and_true, Bool.false_and, Bool.and_false, Bool.not_true, Bool.not_false, Bool.or_false, Bool.false_or, Bool.or_true, Bool.true_or]
      have e2 : ((mTurn M nR).2) = (tu (tu M 0 0 0) 0 0 1) := by simp only [mTurn, mPt, mF, tu_k (show (27 : Nat) ≠ 0 by decide), eq_false c_1, eq_false c_3, if_true, if_false, reduceIte, true_and, and_true, false_and, and_false, true_or, or_true, false_or, or_false, not_true_eq_false, not_false_eq_true, decide_true, decide_false, Bool.true_and, Bool.and_true, Bool.false_and, Bool.and_false, Bool.not_true, Bool.not_false, Bool.or_false, Bool.false_or, Bool.or_true, Bool.true_or]
      exact ct_iret E hr hk hS ⟨(by rw [e1]), (by rw [e2]; exact hP)⟩ dX5_turn_34
