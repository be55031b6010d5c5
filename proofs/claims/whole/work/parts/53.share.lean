set_option maxHeartbeats 4000000 in
set_option maxRecDepth 100000 in
theorem c_X5_doneShare (l : Launch) (g : cG) (F : Nat → Prop) (o : Nat) (ad : Nat → Nat) (M : TT) (nR dn : Nat) (hR : M 14 0 = nI nR) (hR30 : nR ≤ 30) (hdn : M 16 0 = nI dn) (hdn30 : dn ≤ 30) : CT l yX5_doneShare cX5_doneShare 1 (some .float) 1 21 0 0 g F [.ref o] (PM g F o ad M) (fun v9 H9 => v9 = some (.float (if nI nR = 0 then FP.i2f 0 else FP.fdiv (FP.i2f (nI dn)) (FP.i2f (nI nR)))) ∧ PM g F o ad (if nI nR = 0 then tu (tu M 0 0 0) 0 0 1 else tu M 0 0 0) H9) := by
  refine CT.of (by decide) rfl ?_
  intro p e s m args below meth c E hr hk hnm hP ls hl
  have hS : va_S (nF F) s.heap s.heap [] := va_S.rf
  have hx := E.1
  have hb := E.2.1
  have hE_ml := E.2.2.1
  have hown := E.2.2.2.1
  have hts := E.2.2.2.2.1
  have hG := E.2.2.2.2.2
  have hl : lv_has ls 1 [(0, .ref o)] := hl
  refine lv_aload_n hx hb dX5_doneShare_0 rfl (lv_at hl 0 rfl) ?_
  refine lv_iconst (v := 0) hx hb dX5_doneShare_1 (by decide) ?_
  refine mp E hS hP 0 dX5_doneShare_2 rfl (kk := fun H locs hS hP => ?_)
  refine lv_aload_n hx hb dX5_doneShare_5 rfl (lv_at hl 0 rfl) ?_
  refine mg E hP 14 (v := (nI nR)) dX5_doneShare_6 (by simp [tu, hR]) (kk := ?_)
  refine lv_if_ne (tgt := 21) hx hb dX5_doneShare_9 (by decide) (fun c_1 => ?_) (fun c_1 => ?_)
  · have n_c_1 : nR ≠ 0 := fun h9 => c_1 (by rw [h9]; rfl)
    refine lv_aload_n hx hb dX5_doneShare_21 rfl (lv_at hl 0 rfl) ?_
    refine mg E hP 16 (v := (nI dn)) dX5_doneShare_22 (by simp [tu, hdn]) (kk := ?_)
    refine lv_i2f hx hb dX5_doneShare_25 ?_
    refine lv_aload_n hx hb dX5_doneShare_26 rfl (lv_at hl 0 rfl) ?_
    refine mg E hP 14 (v := (nI nR)) dX5_doneShare_27 (by simp [tu, hR]) (kk := ?_)
    refine lv_i2f hx hb dX5_doneShare_30 ?_
    refine lv_fdiv hx hb dX5_doneShare_31 (fp_s32 hdn30 hR30 (by omega)) ?_
    have e1 : (if nI nR = 0 then FP.i2f 0 else FP.fdiv (FP.i2f (nI dn)) (FP.i2f (nI nR))) = FP.fdiv (FP.i2f (nI dn)) (FP.i2f (nI nR)) := by simp only [eq_false c_1, if_true, if_false, reduceIte, true_and, and_true, false_and, and_false, true_or, or_true, false_or, or_false, not_true_eq_false, not_false_eq_true, decide_true, decide_false, Bool.true_and, Bool.and_true, Bool.false_and, Bool.and_false, Bool.not_true, Bool.not_false, Bool.or_false, Bool.false_or, Bool.or_true, Bool.true_or]
    have e2 : (if nI nR = 0 then tu (tu M 0 0 0) 0 0 1 else tu M 0 0 0) = (tu M 0 0 0) := by simp only [eq_false c_1, if_true, if_false, reduceIte, true_and, and_true, false_and, and_false, true_or, or_true, false_or, or_false, not_true_eq_false, not_false_eq_true, decide_true, decide_false, Bool.true_and, Bool.and_true, Bool.false_and, Bool.and_false, Bool.not_true, Bool.not_false, Bool.or_false, Bool.false_or, Bool.or_true, Bool.true_or]
    exact ct_fret E hr hk hS ⟨(by rw [e1]), (by rw [e2]; exact hP)⟩ dX5_doneShare_32
  · have n_c_1 : nR = 0 := (nI_eq (by omega) (by decide)).mp (show nI nR = nI 0 from c_1)
    refine lv_aload_n hx hb dX5_doneShare_12 rfl (lv_at hl 0 rfl) ?_
    refine lv_iconst (v := 1) hx hb dX5_doneShare_13 (by decide) ?_
    refine ct_V E hS (c_X5_fails l g F o ad (tu M 0 0 0) 1) ok_X5_fails lk_X5_80 hP (PM.recv hG hP) rfl hl ⟨rfl, rfl⟩ rfl ⟨Nat.le_refl _, Nat.le_refl _⟩ dX5_doneShare_14 rfl (fun v9 H locs hv9 hS hz9 => ?_)
    obtain ⟨rfl, hP⟩ := hv9
    refine lv_i2f hx hb dX5_doneShare_17 ?_
    refine lv_goto (tgt := 32) hx hb dX5_doneShare_18 (by decide) ?_
    have e1 : (if nI nR = 0 then FP.i2f 0 else FP.fdiv (FP.i2f (nI dn)) (FP.i2f (nI nR))) = FP.i2f 0 := by simp only [eq_true c_1, if_true, if_false, reduceIte, true_and, and_true, false_and, and_false, true_or, or_true, false_or, or_false, not_true_eq_false, not_false_eq_true, decide_true, decide_false, Bool.true_and, Bool.and_true, Bool.false_and, Bool.and_false, Bool.not_true, Bool.not_false, Bool.or_false, Bool.false_or, Bool.or_true, Bool.true_or]
    have e2 : (if nI nR = 0 then tu (tu M 0 0 0) 0 0 1 else tu M 0 0 0) = (tu (tu M 0 0 0) 0 0 1) := by simp only [eq_true c_1, if_true, if_false, reduceIte, true_and, and_true, false_and, and_false, true_or, or_true, false_or, or_false, not_true_eq_false, not_false_eq_true, decide_true, decide_false, Bool.true_and, Bool.and_true, Bool.false_and, Bool.and_false, Bool.not_true, Bool.not_false, Bool.or_false, Bool.false_or, Bool.or_true, Bool.true_or]
    exact ct_fret E hr hk hS ⟨(by rw [e1]), (by rw [e2]; exact hP)⟩ dX5_doneShare_32

set_option maxHeartbeats 4000000 in
set_option maxRecDepth 100000 in
theorem c_X5_meanWait (l : Launch) (g : cG) (F : Nat → Prop) (o : Nat) (ad : Nat → Nat) (M : TT) (nR : Nat) (hR : M 14 0 = nI nR) (hR30 : nR ≤ 30) : CT l yX5_meanWait cX5_meanWait 3 (some .double) 1 21 0 0 g F [.ref o] (PM g F o ad M) (fun v9 H9 => v9 = some (.double (if nI nR = 0 then FP.i2d 0 else FP.ddiv (FP.i2d (mWsum M nR)) (FP.i2d (nI nR)))) ∧ PM g F o ad (if nI nR = 0 then tu (tu M 0 0 0) 0 0 1 else tu M 0 0 0) H9) := by
  refine CT.of (by decide) rfl ?_
  intro p e s m args below meth c E hr hk hnm hP ls hl
  have hS : va_S (nF F) s.heap s.heap [] := va_S.rf
  have hx := E.1
  have hb := E.2.1
  have hE_ml := E.2.2.1
  have hown := E.2.2.2.1
  have hts := E.2.2.2.2.1
  have hG := E.2.2.2.2.2
  have hl : lv_has ls 3 [(0, .ref o)] := hl
  refine lv_aload_n hx hb dX5_meanWait_0 rfl (lv_at hl 0 rfl) ?_
  refine lv_iconst (v := 0) hx hb dX5_meanWait_1 (by decide) ?_
  refine mp E hS hP 0 dX5_meanWait_2 rfl (kk := fun H locs hS hP => ?_)
  refine lv_iconst (v := 0) hx hb dX5_meanWait_5 (by decide) ?_
  refine lv_istore_n (lv' := [(1, .int 0), (0, .ref o)]) hx hb dX5_meanWait_6 rfl hl (by decide) rfl (fun ls hl => ?_)
  refine lv_iconst (v := 0) hx hb dX5_meanWait_7 (by decide) ?_
  refine lv_istore_n (lv' := [(2, .int 0), (1, .int 0), (0, .ref o)]) hx hb dX5_meanWait_8 rfl hl (by decide) rfl (fun ls hl => ?_)
  have LP : ∀ (n9 i : Nat) (a9 : Int32), i ≤ nR → nR < i + n9 → (a9 = mWsum M i) → ∀ (H : Heap) (locs : List Loc), va_S (nF F) s.heap H locs → PM g F o ad (tu M 0 0 0) H → ∀ (ls : Array Slot), lv_has ls 3 [(0, .ref o), (1, .int a9), (2, .int (nI i))] → W p l e { frames := 1, cells := 0, slots := 0, locals := 21 } s m args below meth c H locs 0 0 (MQ below (Qg F (fun v9 H9 => v9 = some (.double (if nI nR = 0 then FP.i2d 0 else FP.ddiv (FP.i2d (mWsum M nR)) (FP.i2d (nI nR)))) ∧ PM g F o ad (if nI nR = 0 then tu (tu M 0 0 0) 0 0 1 else tu M 0 0 0) H9)) args s 0 0 (nF F)) (F0 m 9 ls []) := by
    intro n9
    induction n9 with
    | zero => intro i a9 hi9 hn9; exact absurd hn9 (by omega)
    | succ n9 ihLP =>
      intro i a9 hi_LP hn_LP ha H locs hS hP ls hl
      refine lv_iload_n hx hb dX5_meanWait_9 rfl (lv_at hl 2 rfl) ?_
      refine lv_aload_n hx hb dX5_meanWait_10 rfl (lv_at hl 0 rfl) ?_
      refine mg E hP 14 (v := (nI nR)) dX5_meanWait_11 (by simp [tu, hR]) (kk := ?_)
      refine lv_icmp_ge (tgt := 31) hx hb dX5_meanWait_14 (by decide) (fun c_1 => ?_) (fun c_1 => ?_)
      · have n_c_1 : nR ≤ i := (nI_leI (by omega) (by omega)).mp c_1
        have e_i : i = nR := by omega
        refine lv_aload_n hx hb dX5_meanWait_31 rfl (lv_at hl 0 rfl) ?_
        refine mg E hP 14 (v := (nI nR)) dX5_meanWait_32 (by simp [tu, hR]) (kk := ?_)
        refine lv_if_ne (tgt := 47) hx hb dX5_meanWait_35 (by decide) (fun c_2 => ?_) (fun c_2 => ?_)
        · have n_c_2 : nR ≠ 0 := fun h9 => c_2 (by rw [h9]; rfl)
          refine lv_iload_n hx hb dX5_meanWait_47 rfl (lv_at hl 1 rfl) ?_
          refine lv_i2d hx hb dX5_meanWait_48 ?_
          refine lv_aload_n hx hb dX5_meanWait_49 rfl (lv_at hl 0 rfl) ?_
          refine mg E hP 14 (v := (nI nR)) dX5_meanWait_50 (by simp [tu, hR]) (kk := ?_)
          refine lv_i2d hx hb dX5_meanWait_53 ?_
          refine lv_ddiv hx hb dX5_meanWait_54 (fp_mean _ hR30 (by omega)) ?_
          have e1 : (if nI nR = 0 then FP.i2d 0 else FP.ddiv (FP.i2d (mWsum M nR)) (FP.i2d (nI nR))) = FP.ddiv (FP.i2d a9) (FP.i2d (nI nR)) := by simp only [eq_true c_1, eq_false c_2, if_true, if_false, reduceIte, true_and, and_true, false_and, and_false, true_or, or_true, false_or, or_false, not_true_eq_false, not_false_eq_true, decide_true, decide_false, Bool.true_and, Bool.and_true, Bool.false_and, Bool.and_false, Bool.not_true, Bool.not_false, Bool.or_false, Bool.false_or, Bool.or_true, Bool.true_or]; rw [ha, e_i]
          have e2 : (if nI nR = 0 then tu (tu M 0 0 0) 0 0 1 else tu M 0 0 0) = (tu M 0 0 0) := by simp only [eq_true c_1, eq_false c_2, if_true, if_false, reduceIte, true_and, and_true, false_and, and_false, true_or, or_true, false_or, or_false, not_true_eq_false, not_false_eq_true, decide_true, decide_false, Bool.true_and, Bool.and_true, Bool.false_and, Bool.and_false, Bool.not_true, Bool.not_false, Bool.or_false, Bool.false_or, Bool.or_true, Bool.true_or]
          exact ct_dret E hr hk hS ⟨(by rw [e1]), (by rw [e2]; exact hP)⟩ dX5_meanWait_55
        · have n_c_2 : nR = 0 := (nI_eq (by omega) (by decide)).mp (show nI nR = nI 0 from c_2)
          refine lv_aload_n hx hb dX5_meanWait_38 rfl (lv_at hl 0 rfl) ?_
          refine lv_iconst (v := 1) hx hb dX5_meanWait_39 (by decide) ?_
          refine ct_V E hS (c_X5_fails l g F o ad (tu M 0 0 0) 1) ok_X5_fails lk_X5_80 hP (PM.recv hG hP) rfl hl ⟨rfl, rfl⟩ rfl ⟨Nat.le_refl _, Nat.le_refl _⟩ dX5_meanWait_40 rfl (fun v9 H locs hv9 hS hz9 => ?_)
          obtain ⟨rfl, hP⟩ := hv9
          refine lv_i2d hx hb dX5_meanWait_43 ?_
          refine lv_goto (tgt := 55) hx hb dX5_meanWait_44 (by decide) ?_
          have e1 : (if nI nR = 0 then FP.i2d 0 else FP.ddiv (FP.i2d (mWsum M nR)) (FP.i2d (nI nR))) = FP.i2d 0 := by simp only [eq_true c_1, eq_true c_2, if_true, if_false, reduceIte, true_and, and_true, false_and, and_false, true_or, or_true, false_or, or_false, not_true_eq_false, not_false_eq_true, decide_true, decide_false, Bool.true_and, Bool.and_true, Bool.false_and, Bool.and_false, Bool.not_true, Bool.not_false, Bool.or_false, Bool.false_or, Bool.or_true, Bool.true_or]
          have e2 : (if nI nR = 0 then tu (tu M 0 0 0) 0 0 1 else tu M 0 0 0) = (tu (tu M 0 0 0) 0 0 1) := by simp only [eq_true c_1, eq_true c_2, if_true, if_false, reduceIte, true_and, and_true, false_and, and_false, true_or, or_true, false_or, or_false, not_true_eq_false, not_false_eq_true, decide_true, decide_false, Bool.true_and, Bool.and_true, Bool.false_and, Bool.and_false, Bool.not_true, Bool.not_false, Bool.or_false, Bool.false_or, Bool.or_true, Bool.true_or]
          exact ct_dret E hr hk hS ⟨(by rw [e1]), (by rw [e2]; exact hP)⟩ dX5_meanWait_55
      · have n_c_1 : i < nR := Nat.lt_of_not_le (fun h9 => c_1 (nI_le h9 (by omega)))
        refine lv_iload_n hx hb dX5_meanWait_17 rfl (lv_at hl 1 rfl) ?_
        refine lv_aload_n hx hb dX5_meanWait_18 rfl (lv_at hl 0 rfl) ?_
        refine lv_iload_n hx hb dX5_meanWait_19 rfl (lv_at hl 2 rfl) ?_
        refine ct_V E hS (c_X5_waitedBy l g F o ad (tu M 0 0 0) i (by omega)) ok_X5_waitedBy lk_X5_133 hP (PM.recv hG hP) rfl hl ⟨rfl, rfl⟩ rfl ⟨Nat.le_refl _, Nat.le_refl _⟩ dX5_meanWait_20 rfl (fun v9 H locs hv9 hS hz9 => ?_)
        obtain ⟨rfl, hP⟩ := hv9
        refine lv_iadd hx hb dX5_meanWait_23 ?_
        refine lv_istore_n (lv' := [(1, .int (a9 + (mWb (tu M 0 0 0) i))), (0, .ref o), (2, .int (nI i))]) hx hb dX5_meanWait_24 rfl hl (by decide) rfl (fun ls hl => ?_)
        refine lv_iinc (v := (nI (i + 1))) (lv' := [(2, .int (nI (i + 1))), (1, .int (a9 + (mWb (tu M 0 0 0) i))), (0, .ref o)]) hx hb dX5_meanWait_25 hl (k := 2) rfl (by rw [nI_succ]; rfl) (by decide) rfl (fun ls hl => ?_)
        refine lv_goto (tgt := 9) hx hb dX5_meanWait_28 (by decide) ?_
        exact ihLP (i + 1) _ (by omega) (by omega) (by rw [show mWsum M (i + 1) = mWsum M i + mWb M i from rfl, ← ha, mWb_0]) H locs hS hP ls (lv_sub hl [2, 1, 0] rfl)
  exact LP (nR + 1) 0 0 (Nat.zero_le _) (by omega) rfl _ _ hS hP ls (lv_sub hl [2, 1, 0] rfl)

set_option maxHeartbeats 4000000 in
set_option maxRecDepth 100000 in
theorem c_X4_doneShare (l : Launch) (g : cG) (F : Nat → Prop) (A : Nat → Nat → Nat) (nb nl nr ne : Nat) (pr : List Nat) (t : TT) (hl9 : l.stackTraces = false)  (hpl : pr.length ≤ nr) : CX l yX4_doneShare cX4_doneShare 2 (some .float) 6 90 (4) (24) g F [.ref (A 0 0)] (PD g F A nb nl nr ne pr t)
    (fun v9 H9 => v9 = some (.float (FP.fdiv (FP.i2f (nI nr - nI pr.length)) (FP.i2f (nI nr)))) ∧ (if nI nr = 0 then 1 else 0) = 0 ∧ PD g F A nb nl nr ne pr t H9)
    (fun E9 H9 => (0 < (if nI nr = 0 then 1 else 0) ∧ [kARE][(if nI nr = 0 then 1 else 0) - 1]? = some E9) ∧ PD g F A nb nl nr ne pr t H9) := by
  refine CX.of (by decide) rfl ?_
  intro p e s m args below meth c E hr hk ht hP ls hl
  have hS : va_S (nF F) s.heap s.heap [] := va_S.rf
  have hx := E.1
  have hb := E.2.1
  have hE_ml := E.2.2.1
  have hown := E.2.2.2.1
  have hts := E.2.2.2.2.1
  have hG := E.2.2.2.2.2
  have hd0 := hP.di.1
  have hl : lv_has ls 2 [(0, .ref (A 0 0))] := hl
  refine lv_aload_n hx hb dX4_doneShare_0 rfl (lv_at hl 0 rfl) ?_
  refine dg E hP 5 fk_X4_29 dX4_doneShare_1 (v := .ref (A 2 2)) (kk := ?_)
  refine d_emp E hS hP 2 nr hl ⟨rfl, rfl⟩ ⟨Nat.le_of_ble_eq_true rfl, Nat.le_of_ble_eq_true rfl⟩ dX4_doneShare_4 (kk := fun locs hS => ?_)
  refine bz_eq (tgt := 20) hx hb dX4_doneShare_7 (by decide) (fun c_1 => ?_) (fun c_1 => ?_)
  · have n0 : ¬ nI nr = 0 := c_1
    refine lv_aload_n hx hb dX4_doneShare_20 rfl (lv_at hl 0 rfl) ?_
    refine dg E hP 5 fk_X4_29 dX4_doneShare_21 (v := .ref (A 2 2)) (kk := ?_)
    refine d_len E hS hP 2 nr hl ⟨rfl, rfl⟩ ⟨Nat.le_of_ble_eq_true rfl, Nat.le_of_ble_eq_true rfl⟩ dX4_doneShare_24 (kk := fun locs hS => ?_)
    refine lv_aload_n hx hb dX4_doneShare_27 rfl (lv_at hl 0 rfl) ?_
    refine dg E hP 6 fk_X4_32 dX4_doneShare_28 (v := .ref (A 2 3)) (kk := ?_)
    refine d_len E hS hP 3 pr.length hl ⟨rfl, rfl⟩ ⟨Nat.le_of_ble_eq_true rfl, Nat.le_of_ble_eq_true rfl⟩ dX4_doneShare_31 (kk := fun locs hS => ?_)
    refine lv_isub hx hb dX4_doneShare_34 ?_
    refine lv_istore_n (lv' := [(1, .int ((nI nr) - (nI pr.length))), (0, .ref (A 0 0))]) hx hb dX4_doneShare_35 rfl hl (by decide) rfl (fun ls hl => ?_)
    refine lv_iload_n hx hb dX4_doneShare_36 rfl (lv_at hl 0 rfl) ?_
    refine lv_i2f hx hb dX4_doneShare_37 ?_
    refine lv_aload_n hx hb dX4_doneShare_38 rfl (lv_at hl 1 rfl) ?_
    refine dg E hP 5 fk_X4_29 dX4_doneShare_39 (v := .ref (A 2 2)) (kk := ?_)
    refine d_len E hS hP 2 nr hl ⟨rfl, rfl⟩ ⟨Nat.le_of_ble_eq_true rfl, Nat.le_of_ble_eq_true rfl⟩ dX4_doneShare_42 (kk := fun locs hS => ?_)
    refine lv_i2f hx hb dX4_doneShare_45 ?_
    refine lv_fdiv hx hb dX4_doneShare_46 (by rw [pk_sub hpl]; exact fp_s32 (by omega) (by omega) (fun z => n0 (by rw [z]; rfl))) ?_
    have hcode : (if nI nr = 0 then 1 else 0) = 0 := by simp only [eq_false c_1, if_true, if_false, reduceIte, true_and, and_true, false_and, and_false, true_or, or_true, false_or, or_false, not_true_eq_false, not_false_eq_true, decide_true, decide_false, Bool.true_and, Bool.and_true, Bool.false_and, Bool.and_false, Bool.not_true, Bool.not_false, Bool.or_false, Bool.false_or, Bool.or_true, Bool.true_or]
    have e1 : (FP.fdiv (FP.i2f (nI nr - nI pr.length)) (FP.i2f (nI nr))) = FP.fdiv (FP.i2f ((nI nr) - (nI pr.length))) (FP.i2f (nI nr)) := by simp only [eq_false c_1, if_true, if_false, reduceIte, true_and, and_true, false_and, and_false, true_or, or_true, false_or, or_false, not_true_eq_false, not_false_eq_true, decide_true, decide_false, Bool.true_and, Bool.and_true, Bool.false_and, Bool.and_false, Bool.not_true, Bool.not_false, Bool.or_false, Bool.false_or, Bool.or_true, Bool.true_or]
    exact vx_ret (ct_fret E hr hk hS ⟨(by rw [e1]), hcode, hP⟩ dX4_doneShare_47 (Nat.le_of_ble_eq_true rfl) (Nat.le_of_ble_eq_true rfl))
  · exact cx_throw E hl9 hS ht hk dx_ARE (text := "nobody called") (by simp [lw_str]) hl dX4_doneShare_10 dX4_doneShare_13 dX4_doneShare_14 dX4_doneShare_16 dX4_doneShare_19 ⟨rfl, rfl⟩ rfl ⟨Nat.le_of_ble_eq_true rfl, Nat.le_of_ble_eq_true rfl⟩ (Nat.le_of_ble_eq_true rfl) (Nat.le_of_ble_eq_true rfl) (fun H1 hz1 oq1 => ⟨(by have hcode : (if nI nr = 0 then 1 else 0) = 1 := (by simp only [eq_true c_1, if_true, if_false, reduceIte, true_and, and_true, false_and, and_false, true_or, or_true, false_or, or_false, not_true_eq_false, not_false_eq_true, decide_true, decide_false, Bool.true_and, Bool.and_true, Bool.false_and, Bool.and_false, Bool.not_true, Bool.not_false, Bool.or_false, Bool.false_or, Bool.or_true, Bool.true_or]); rw [hcode]; exact ⟨by decide, rfl⟩), hP.keep oq1 hz1⟩)

def dWsum (t : TT) : Nat → Int32
  | 0 => 0
  | r + 1 => dWsum t r + t 40 r

set_option maxHeartbeats 4000000 in
set_option maxRecDepth 100000 in
theorem c_X4_meanWait (l : Launch) (g : cG) (F : Nat → Prop) (A : Nat → Nat → Nat) (nb nl nr ne : Nat) (pr : List Nat) (t : TT) (hl9 : l.stackTraces = false)   : CX l yX4_meanWait cX4_meanWait 3 (some .double) 6 90 (4) (24) g F [.ref (A 0 0)] (PD g F A nb nl nr ne pr t)
    (fun v9 H9 => v9 = some (.double (FP.ddiv (FP.i2d (dWsum t nr)) (FP.i2d (nI nr)))) ∧ (if nI nr = 0 then 1 else 0) = 0 ∧ PD g F A nb nl nr ne pr t H9)
    (fun E9 H9 => (0 < (if nI nr = 0 then 1 else 0) ∧ [kARE][(if nI nr = 0 then 1 else 0) - 1]? = some E9) ∧ PD g F A nb nl nr ne pr t H9) := by
  refine CX.of (by decide) rfl ?_
  intro p e s m args below meth c E hr hk ht hP ls hl
  have hS : va_S (nF F) s.heap s.heap [] := va_S.rf
  have hx := E.1
  have hb := E.2.1
  have hE_ml := E.2.2.1
  have hown := E.2.2.2.1
  have hts := E.2.2.2.2.1
  have hG := E.2.2.2.2.2
  have hd0 := hP.di.1
  have hl : lv_has ls 3 [(0, .ref (A 0 0))] := hl
  refine lv_aload_n hx hb dX4_meanWait_0 rfl (lv_at hl 0 rfl) ?_
  refine dg E hP 5 fk_X4_29 dX4_meanWait_1 (v := .ref (A 2 2)) (kk := ?_)
  refine d_emp E hS hP 2 nr hl ⟨rfl, rfl⟩ ⟨Nat.le_of_ble_eq_true rfl, Nat.le_of_ble_eq_true rfl⟩ dX4_meanWait_4 (kk := fun locs hS => ?_)
  refine bz_eq (tgt := 20) hx hb dX4_meanWait_7 (by decide) (fun c_1 => ?_) (fun c_1 => ?_)
  · have n0 : ¬ nI nr = 0 := c_1
    refine lv_iconst (v := 0) hx hb dX4_meanWait_20 (by decide) ?_
    refine lv_istore_n (lv' := [(1, .int 0), (0, .ref (A 0 0))]) hx hb dX4_meanWait_21 rfl hl (by decide) rfl (fun ls hl => ?_)
    refine lv_iconst (v := 0) hx hb dX4_meanWait_22 (by decide) ?_
    refine lv_istore_n (lv' := [(2, .int 0), (1, .int 0), (0, .ref (A 0 0))]) hx hb dX4_meanWait_23 rfl hl (by decide) rfl (fun ls hl => ?_)
    have LP : ∀ (n9 i : Nat) (a9 : Int32), i ≤ nr → nr < i + n9 → a9 = dWsum t i → ∀ (H : Heap) (locs : List Loc), va_S (nF F) s.heap H locs → PD g F A nb nl nr ne pr t H → ∀ (ls : Array Slot), lv_has ls 3 [(2, .int (nI i)), (1, .int a9), (0, .ref (A 0 0))] → W p l e { frames := 6, cells := 4, slots := 24, locals := 90 } s m args below meth c H locs 0 0 (vx_MQ below (Qg F (fun v9 H9 => v9 = some (.double (FP.ddiv (FP.i2d (dWsum t nr)) (FP.i2d (nI nr)))) ∧ (if nI nr = 0 then 1 else 0) = 0 ∧ PD g F A nb nl nr ne pr t H9)) (Xg F (fun E9 H9 => (0 < (if nI nr = 0 then 1 else 0) ∧ [kARE][(if nI nr = 0 then 1 else 0) - 1]? = some E9) ∧ PD g F A nb nl nr ne pr t H9)) args s 4 24 (nF F)) (F0 m 24 ls []) := by
      intro n9
      induction n9 with
      | zero => intro i a9 hi9 hn9; exact absurd hn9 (by omega)
      | succ n9 ih =>
        intro i a9 hi hn ha H locs hS hP ls hl
        refine lv_iload_n hx hb dX4_meanWait_24 rfl (lv_at hl 0 rfl) ?_
        refine lv_aload_n hx hb dX4_meanWait_25 rfl (lv_at hl 2 rfl) ?_
        refine dg E hP 5 fk_X4_29 dX4_meanWait_26 (v := .ref (A 2 2)) (kk := ?_)
        refine d_len E hS hP 2 nr hl ⟨rfl, rfl⟩ ⟨Nat.le_of_ble_eq_true rfl, Nat.le_of_ble_eq_true rfl⟩ dX4_meanWait_29 (kk := fun locs hS => ?_)
        refine lv_icmp_ge (tgt := 58) hx hb dX4_meanWait_32 (by decide) (fun c_2 => ?_) (fun c_2 => ?_)
        · have n_c_2 : nr ≤ i := (nI_leI (by omega) (by omega)).mp c_2
          refine lv_iload_n hx hb dX4_meanWait_58 rfl (lv_at hl 1 rfl) ?_
          refine lv_i2d hx hb dX4_meanWait_59 ?_
          refine lv_aload_n hx hb dX4_meanWait_60 rfl (lv_at hl 2 rfl) ?_
          refine dg E hP 5 fk_X4_29 dX4_meanWait_61 (v := .ref (A 2 2)) (kk := ?_)
          refine d_len E hS hP 2 nr hl ⟨rfl, rfl⟩ ⟨Nat.le_of_ble_eq_true rfl, Nat.le_of_ble_eq_true rfl⟩ dX4_meanWait_64 (kk := fun locs hS => ?_)
          refine lv_i2d hx hb dX4_meanWait_67 ?_
          refine lv_ddiv hx hb dX4_meanWait_68 (fp_mean _ (by omega) (fun z => n0 (by rw [z]; rfl))) ?_
          have hcode : (if nI nr = 0 then 1 else 0) = 0 := by simp only [eq_false c_1, eq_true c_2, if_true, if_false, reduceIte, true_and, and_true, false_and, and_false, true_or, or_true, false_or, or_false, not_true_eq_false, not_false_eq_true, decide_true, decide_false, Bool.true_and, Bool.and_true, Bool.false_and, Bool.and_false, Bool.not_true, Bool.not_false, Bool.or_false, Bool.false_or, Bool.or_true, Bool.true_or]
          have e1 : (FP.ddiv (FP.i2d (dWsum t nr)) (FP.i2d (nI nr))) = FP.ddiv (FP.i2d a9) (FP.i2d (nI nr)) := by rw [ha, show i = nr by omega]
          exact vx_ret (ct_dret E hr hk hS ⟨(by rw [e1]), hcode, hP⟩ dX4_meanWait_69 (Nat.le_of_ble_eq_true rfl) (Nat.le_of_ble_eq_true rfl))
        · have n_c_2 : i < nr := Nat.lt_of_not_le (fun h9 => c_2 (nI_le h9 (by omega)))
          refine lv_iload_n hx hb dX4_meanWait_35 rfl (lv_at hl 1 rfl) ?_
          refine lv_aload_n hx hb dX4_meanWait_36 rfl (lv_at hl 2 rfl) ?_
          refine dg E hP 5 fk_X4_29 dX4_meanWait_37 (v := .ref (A 2 2)) (kk := ?_)
          refine lv_iload_n hx hb dX4_meanWait_40 rfl (lv_at hl 0 rfl) ?_
          have h_3 : i < nr := by omega
          refine d_getR E hS hP i rfl h_3 hl ⟨rfl, rfl⟩ ⟨Nat.le_of_ble_eq_true rfl, Nat.le_of_ble_eq_true rfl⟩ dX4_meanWait_41 dX4_meanWait_44 (kk := fun locs hS => ?_)
          refine dgn E hP 6 i h_3 kcX3 6 fn_X4_160 dX4_meanWait_47 (v := .int (t 40 i)) (kk := ?_)
          refine lv_iadd hx hb dX4_meanWait_50 ?_
          refine lv_istore_n (lv' := [(1, .int (a9 + (t 40 i))), (2, .int (nI i)), (0, .ref (A 0 0))]) hx hb dX4_meanWait_51 rfl hl (by decide) rfl (fun ls hl => ?_)
          refine lv_iinc (v := (nI (i + 1))) (lv' := [(2, .int (nI (i + 1))), (1, .int (a9 + (t 40 i))), (0, .ref (A 0 0))]) hx hb dX4_meanWait_52 hl (k := 1) rfl (by rw [nI_succ]; rfl) (by decide) rfl (fun ls hl => ?_)
          refine lv_goto (tgt := 24) hx hb dX4_meanWait_55 (by decide) ?_
          exact ih (i + 1) _ (by omega) (by omega) (by rw [ha]; rfl) H locs hS hP ls (lv_sub hl [0, 1, 2] rfl)
    exact LP (nr + 1) 0 0 (Nat.zero_le _) (by omega) rfl _ _ hS hP ls (lv_sub hl [0, 1, 2] rfl)
  · exact cx_throw E hl9 hS ht hk dx_ARE (text := "nobody called") (by simp [lw_str]) hl dX4_meanWait_10 dX4_meanWait_13 dX4_meanWait_14 dX4_meanWait_16 dX4_meanWait_19 ⟨rfl, rfl⟩ rfl ⟨Nat.le_of_ble_eq_true rfl, Nat.le_of_ble_eq_true rfl⟩ (Nat.le_of_ble_eq_true rfl) (Nat.le_of_ble_eq_true rfl) (fun H1 hz1 oq1 => ⟨(by have hcode : (if nI nr = 0 then 1 else 0) = 1 := (by simp only [eq_true c_1, if_true, if_false, reduceIte, true_and, and_true, false_and, and_false, true_or, or_true, false_or, or_false, not_true_eq_false, not_false_eq_true, decide_true, decide_false, Bool.true_and, Bool.and_true, Bool.false_and, Bool.and_false, Bool.not_true, Bool.not_false, Bool.or_false, Bool.false_or, Bool.or_true, Bool.true_or]); rw [hcode]; exact ⟨by decide, rfl⟩), hP.keep oq1 hz1⟩)
