set_option maxHeartbeats 4000000 in
set_option maxRecDepth 100000 in
theorem c_X5_isBetween (l : Launch) (g : cG) (F : Nat → Prop) (P : Heap → Prop) (a lo hi : Int32)  : CT l yX5_isBetween cX5_isBetween 3 (some .boolean) 0 0 0 0 g F [.int a, .int lo, .int hi] P (fun v9 H9 => v9 = some (.int (b2i (bet a lo hi))) ∧ P H9) := by
  refine CT.of (by decide) rfl ?_
  intro p e s m args below meth c E hr hk hnm hP ls hl
  have hS : va_S (nF F) s.heap s.heap [] := va_S.rf
  have hx := E.1
  have hb := E.2.1
  have hE_ml := E.2.2.1
  have hown := E.2.2.2.1
  have hts := E.2.2.2.2.1
  have hG := E.2.2.2.2.2
  have hl : lv_has ls 3 [(0, .int a), (1, .int lo), (2, .int hi)] := hl
  refine lv_iload_n hx hb dX5_isBetween_0 rfl (lv_at hl 1 rfl) ?_
  refine lv_iload_n hx hb dX5_isBetween_1 rfl (lv_at hl 0 rfl) ?_
  refine lv_icmp_gt (tgt := 14) hx hb dX5_isBetween_2 (by decide) (fun c_1 => ?_) (fun c_1 => ?_)
  · refine lv_iconst (v := 0) hx hb dX5_isBetween_14 (by decide) ?_
    have e1 : (b2i (bet a lo hi)) = 0 := by simp only [b2i, bet, Int32.not_le.mpr c_1, if_true, if_false, reduceIte, true_and, and_true, false_and, and_false, true_or, or_true, false_or, or_false, not_true_eq_false, not_false_eq_true, decide_true, decide_false, Bool.true_and, Bool.and_true, Bool.false_and, Bool.and_false, Bool.not_true, Bool.not_false, Bool.or_false, Bool.false_or, Bool.or_true, Bool.true_or]
    exact ct_zret E hr (by decide) hk hS ⟨(by rw [e1]), hP⟩ dX5_isBetween_15
  · refine lv_iload_n hx hb dX5_isBetween_5 rfl (lv_at hl 0 rfl) ?_
    refine lv_iload_n hx hb dX5_isBetween_6 rfl (lv_at hl 2 rfl) ?_
    refine lv_icmp_gt (tgt := 14) hx hb dX5_isBetween_7 (by decide) (fun c_2 => ?_) (fun c_2 => ?_)
    · refine lv_iconst (v := 0) hx hb dX5_isBetween_14 (by decide) ?_
      have e1 : (b2i (bet a lo hi)) = 0 := by simp only [b2i, bet, Int32.not_lt.mp c_1, Int32.not_le.mpr c_2, if_true, if_false, reduceIte, true_and, and_true, false_and, and_false, true_or, or_true, false_or, or_false, not_true_eq_false, not_false_eq_true, decide_true, decide_false, Bool.true_and, Bool.and_true, Bool.false_and, Bool.and_false, Bool.not_true, Bool.not_false, Bool.or_false, Bool.false_or, Bool.or_true, Bool.true_or]
      exact ct_zret E hr (by decide) hk hS ⟨(by rw [e1]), hP⟩ dX5_isBetween_15
    · refine lv_iconst (v := 1) hx hb dX5_isBetween_10 (by decide) ?_
      refine lv_goto (tgt := 15) hx hb dX5_isBetween_11 (by decide) ?_
      have e1 : (b2i (bet a lo hi)) = 1 := by simp only [b2i, bet, Int32.not_lt.mp c_1, Int32.not_lt.mp c_2, if_true, if_false, reduceIte, true_and, and_true, false_and, and_false, true_or, or_true, false_or, or_false, not_true_eq_false, not_false_eq_true, decide_true, decide_false, Bool.true_and, Bool.and_true, Bool.false_and, Bool.and_false, Bool.not_true, Bool.not_false, Bool.or_false, Bool.false_or, Bool.or_true, Bool.true_or]
      exact ct_zret E hr (by decide) hk hS ⟨(by rw [e1]), hP⟩ dX5_isBetween_15

set_option maxHeartbeats 4000000 in
set_option maxRecDepth 100000 in
theorem c_X5_isFloor (l : Launch) (g : cG) (F : Nat → Prop) (P : Heap → Prop) (a : Int32)  : CT l yX5_isFloor cX5_isFloor 1 (some .boolean) 1 22 0 0 g F [.int a] P (fun v9 H9 => v9 = some (.int (b2i (bet a 0 9))) ∧ P H9) := by
  refine CT.of (by decide) rfl ?_
  intro p e s m args below meth c E hr hk hnm hP ls hl
  have hS : va_S (nF F) s.heap s.heap [] := va_S.rf
  have hx := E.1
  have hb := E.2.1
  have hE_ml := E.2.2.1
  have hown := E.2.2.2.1
  have hts := E.2.2.2.2.1
  have hG := E.2.2.2.2.2
  have hl : lv_has ls 1 [(0, .int a)] := hl
  refine lv_iload_n hx hb dX5_isFloor_0 rfl (lv_at hl 0 rfl) ?_
  refine lv_iconst (v := 0) hx hb dX5_isFloor_1 (by decide) ?_
  refine lv_bipush (v := 9) hx hb dX5_isFloor_2 (by decide) ?_
  refine ct_S E hS (c_X5_isBetween l g F _ a 0 9) ok_X5_isBetween lk_X5_7 hP rfl hl ⟨rfl, rfl⟩ rfl ⟨Nat.le_refl _, Nat.le_refl _⟩ dX5_isFloor_4 rfl (fun v9 H locs hv9 hS hz9 => ?_)
  obtain ⟨rfl, hP⟩ := hv9
  exact ct_zret E hr b2i_n hk hS ⟨rfl, hP⟩ dX5_isFloor_7

set_option maxHeartbeats 4000000 in
set_option maxRecDepth 100000 in
theorem c_X5_isBadge (l : Launch) (g : cG) (F : Nat → Prop) (o : Nat) (ad : Nat → Nat) (M : TT) (a n : Int32) (hn : M 6 0 = n) : CT l yX5_isBadge cX5_isBadge 2 (some .boolean) 1 22 0 0 g F [.ref o, .int a] (PM g F o ad M) (fun v9 H9 => v9 = some (.int (b2i (bet a 0 (n - 1)))) ∧ PM g F o ad M H9) := by
  refine CT.of (by decide) rfl ?_
  intro p e s m args below meth c E hr hk hnm hP ls hl
  have hS : va_S (nF F) s.heap s.heap [] := va_S.rf
  have hx := E.1
  have hb := E.2.1
  have hE_ml := E.2.2.1
  have hown := E.2.2.2.1
  have hts := E.2.2.2.2.1
  have hG := E.2.2.2.2.2
  have hl : lv_has ls 2 [(0, .ref o), (1, .int a)] := hl
  refine lv_iload_n hx hb dX5_isBadge_0 rfl (lv_at hl 1 rfl) ?_
  refine lv_iconst (v := 0) hx hb dX5_isBadge_1 (by decide) ?_
  refine lv_aload_n hx hb dX5_isBadge_2 rfl (lv_at hl 0 rfl) ?_
  refine mg E hP 6 (v := n) dX5_isBadge_3 hn (kk := ?_)
  refine lv_iconst (v := 1) hx hb dX5_isBadge_6 (by decide) ?_
  refine lv_isub hx hb dX5_isBadge_7 ?_
  refine ct_S E hS (c_X5_isBetween l g F _ a 0 (n - 1)) ok_X5_isBetween lk_X5_7 hP rfl hl ⟨rfl, rfl⟩ rfl ⟨Nat.le_refl _, Nat.le_refl _⟩ dX5_isBadge_8 rfl (fun v9 H locs hv9 hS hz9 => ?_)
  obtain ⟨rfl, hP⟩ := hv9
  exact ct_zret E hr b2i_n hk hS ⟨rfl, hP⟩ dX5_isBadge_11

set_option maxHeartbeats 4000000 in
set_option maxRecDepth 100000 in
theorem c_X5_isRider (l : Launch) (g : cG) (F : Nat → Prop) (o : Nat) (ad : Nat → Nat) (M : TT) (a n : Int32) (hn : M 14 0 = n) : CT l yX5_isRider cX5_isRider 2 (some .boolean) 1 22 0 0 g F [.ref o, .int a] (PM g F o ad M) (fun v9 H9 => v9 = some (.int (b2i (bet a 0 (n - 1)))) ∧ PM g F o ad M H9) := by
  refine CT.of (by decide) rfl ?_
  intro p e s m args below meth c E hr hk hnm hP ls hl
  have hS : va_S (nF F) s.heap s.heap [] := va_S.rf
  have hx := E.1
  have hb := E.2.1
  have hE_ml := E.2.2.1
  have hown := E.2.2.2.1
  have hts := E.2.2.2.2.1
  have hG := E.2.2.2.2.2
  have hl : lv_has ls 2 [(0, .ref o), (1, .int a)] := hl
  refine lv_iload_n hx hb dX5_isRider_0 rfl (lv_at hl 1 rfl) ?_
  refine lv_iconst (v := 0) hx hb dX5_isRider_1 (by decide) ?_
  refine lv_aload_n hx hb dX5_isRider_2 rfl (lv_at hl 0 rfl) ?_
  refine mg E hP 14 (v := n) dX5_isRider_3 hn (kk := ?_)
  refine lv_iconst (v := 1) hx hb dX5_isRider_6 (by decide) ?_
  refine lv_isub hx hb dX5_isRider_7 ?_
  refine ct_S E hS (c_X5_isBetween l g F _ a 0 (n - 1)) ok_X5_isBetween lk_X5_7 hP rfl hl ⟨rfl, rfl⟩ rfl ⟨Nat.le_refl _, Nat.le_refl _⟩ dX5_isRider_8 rfl (fun v9 H locs hv9 hS hz9 => ?_)
  obtain ⟨rfl, hP⟩ := hv9
  exact ct_zret E hr b2i_n hk hS ⟨rfl, hP⟩ dX5_isRider_11

set_option maxHeartbeats 4000000 in
set_option maxRecDepth 100000 in
theorem c_X5_isLift (l : Launch) (g : cG) (F : Nat → Prop) (o : Nat) (ad : Nat → Nat) (M : TT) (a n : Int32) (hn : M 22 0 = n) : CT l yX5_isLift cX5_isLift 2 (some .boolean) 1 22 0 0 g F [.ref o, .int a] (PM g F o ad M) (fun v9 H9 => v9 = some (.int (b2i (bet a 0 (n - 1)))) ∧ PM g F o ad M H9) := by
  refine CT.of (by decide) rfl ?_
  intro p e s m args below meth c E hr hk hnm hP ls hl
  have hS : va_S (nF F) s.heap s.heap [] := va_S.rf
  have hx := E.1
  have hb := E.2.1
  have hE_ml := E.2.2.1
  have hown := E.2.2.2.1
  have hts := E.2.2.2.2.1
  have hG := E.2.2.2.2.2
  have hl : lv_has ls 2 [(0, .ref o), (1, .int a)] := hl
  refine lv_iload_n hx hb dX5_isLift_0 rfl (lv_at hl 1 rfl) ?_
  refine lv_iconst (v := 0) hx hb dX5_isLift_1 (by decide) ?_
  refine lv_aload_n hx hb dX5_isLift_2 rfl (lv_at hl 0 rfl) ?_
  refine mg E hP 22 (v := n) dX5_isLift_3 hn (kk := ?_)
  refine lv_iconst (v := 1) hx hb dX5_isLift_6 (by decide) ?_
  refine lv_isub hx hb dX5_isLift_7 ?_
  refine ct_S E hS (c_X5_isBetween l g F _ a 0 (n - 1)) ok_X5_isBetween lk_X5_7 hP rfl hl ⟨rfl, rfl⟩ rfl ⟨Nat.le_refl _, Nat.le_refl _⟩ dX5_isLift_8 rfl (fun v9 H locs hv9 hS hz9 => ?_)
  obtain ⟨rfl, hP⟩ := hv9
  exact ct_zret E hr b2i_n hk hS ⟨rfl, hP⟩ dX5_isLift_11

set_option maxHeartbeats 4000000 in
set_option maxRecDepth 100000 in
theorem c_X5_fails (l : Launch) (g : cG) (F : Nat → Prop) (o : Nat) (ad : Nat → Nat) (M : TT) (a : Int32)  : CT l yX5_fails cX5_fails 2 (some .int) 0 0 0 0 g F [.ref o, .int a] (PM g F o ad M) (fun v9 H9 => v9 = some (.int 0) ∧ PM g F o ad (tu M 0 0 a) H9) := by
  refine CT.of (by decide) rfl ?_
  intro p e s m args below meth c E hr hk hnm hP ls hl
  have hS : va_S (nF F) s.heap s.heap [] := va_S.rf
  have hx := E.1
  have hb := E.2.1
  have hE_ml := E.2.2.1
  have hown := E.2.2.2.1
  have hts := E.2.2.2.2.1
  have hG := E.2.2.2.2.2
  have hl : lv_has ls 2 [(0, .ref o), (1, .int a)] := hl
  refine lv_aload_n hx hb dX5_fails_0 rfl (lv_at hl 0 rfl) ?_
  refine lv_iload_n hx hb dX5_fails_1 rfl (lv_at hl 1 rfl) ?_
  refine mp E hS hP 0 dX5_fails_2 rfl (kk := fun H locs hS hP => ?_)
  refine lv_iconst (v := 0) hx hb dX5_fails_5 (by decide) ?_
  exact ct_iret E hr hk hS ⟨rfl, hP⟩ dX5_fails_6

set_option maxHeartbeats 4000000 in
set_option maxRecDepth 100000 in
theorem c_X5_isWrong (l : Launch) (g : cG) (F : Nat → Prop) (o : Nat) (ad : Nat → Nat) (M : TT) (a : Int32)  : CT l yX5_isWrong cX5_isWrong 2 (some .boolean) 0 0 0 0 g F [.ref o, .int a] (PM g F o ad M) (fun v9 H9 => v9 = some (.int 0) ∧ PM g F o ad (tu M 0 0 a) H9) := by
  refine CT.of (by decide) rfl ?_
  intro p e s m args below meth c E hr hk hnm hP ls hl
  have hS : va_S (nF F) s.heap s.heap [] := va_S.rf
  have hx := E.1
  have hb := E.2.1
  have hE_ml := E.2.2.1
  have hown := E.2.2.2.1
  have hts := E.2.2.2.2.1
  have hG := E.2.2.2.2.2
  have hl : lv_has ls 2 [(0, .ref o), (1, .int a)] := hl
  refine lv_aload_n hx hb dX5_isWrong_0 rfl (lv_at hl 0 rfl) ?_
  refine lv_iload_n hx hb dX5_isWrong_1 rfl (lv_at hl 1 rfl) ?_
  refine mp E hS hP 0 dX5_isWrong_2 rfl (kk := fun H locs hS hP => ?_)
  refine lv_iconst (v := 0) hx hb dX5_isWrong_5 (by decide) ?_
  exact ct_zret E hr (by decide) hk hS ⟨rfl, hP⟩ dX5_isWrong_6

set_option maxHeartbeats 4000000 in
set_option maxRecDepth 100000 in
theorem c_X5_thrown (l : Launch) (g : cG) (F : Nat → Prop) (o : Nat) (ad : Nat → Nat) (M : TT)   : CT l yX5_thrown cX5_thrown 1 (some .int) 0 0 0 0 g F [.ref o] (PM g F o ad M) (fun v9 H9 => v9 = some (.int (M 0 0)) ∧ PM g F o ad M H9) := by
  refine CT.of (by decide) rfl ?_
  intro p e s m args below meth c E hr hk hnm hP ls hl
  have hS : va_S (nF F) s.heap s.heap [] := va_S.rf
  have hx := E.1
  have hb := E.2.1
  have hE_ml := E.2.2.1
  have hown := E.2.2.2.1
  have hts := E.2.2.2.2.1
  have hG := E.2.2.2.2.2
  have hl : lv_has ls 1 [(0, .ref o)] := hl
  refine lv_aload_n hx hb dX5_thrown_0 rfl (lv_at hl 0 rfl) ?_
  refine mg E hP 0 (v := M 0 0) dX5_thrown_1 rfl (kk := ?_)
  exact ct_iret E hr hk hS ⟨rfl, hP⟩ dX5_thrown_4

set_option maxHeartbeats 4000000 in
set_option maxRecDepth 100000 in
theorem c_X5_why (l : Launch) (g : cG) (F : Nat → Prop) (o : Nat) (ad : Nat → Nat) (M : TT) (b f : Nat) (hb8 : b < 8) (hf10 : f < 10) : CT l yX5_why cX5_why 3 (some .char) 1 22 0 0 g F [.ref o, .int (nI b), .int (nI f)] (PM g F o ad M) (fun v9 H9 => v9 = some (.int (mWhy M b f)) ∧ PM g F o ad M H9) := by
  refine CT.of (by decide) rfl ?_
  intro p e s m args below meth c E hr hk hnm hP ls hl
  have hS : va_S (nF F) s.heap s.heap [] := va_S.rf
  have hx := E.1
  have hb := E.2.1
  have hE_ml := E.2.2.1
  have hown := E.2.2.2.1
  have hts := E.2.2.2.2.1
  have hG := E.2.2.2.2.2
  have hl : lv_has ls 3 [(0, .ref o), (1, .int (nI b)), (2, .int (nI f))] := hl
  refine lv_iload_n hx hb dX5_why_0 rfl (lv_at hl 2 rfl) ?_
  refine lv_if_ne (tgt := 7) hx hb dX5_why_1 (by decide) (fun c_1 => ?_) (fun c_1 => ?_)
  · have n_c_1 : f ≠ 0 := fun h9 => c_1 (by rw [h9]; rfl)
    refine lv_aload_n hx hb dX5_why_7 rfl (lv_at hl 0 rfl) ?_
    refine mga E hP 5 dX5_why_8 (kk := ?_)
    refine lv_iload_n hx hb dX5_why_11 rfl (lv_at hl 1 rfl) ?_
    refine mlz E hP 5 b (v := M 5 b) dX5_why_12 rfl (show b < 8 by omega) rfl (kk := ?_)
    refine lv_if_eq (tgt := 19) hx hb dX5_why_13 (by decide) (fun c_2 => ?_) (fun c_2 => ?_)
    · refine lv_aload_n hx hb dX5_why_19 rfl (lv_at hl 0 rfl) ?_
      refine mga E hP 1 dX5_why_20 (kk := ?_)
      refine lv_iload_n hx hb dX5_why_23 rfl (lv_at hl 2 rfl) ?_
      refine mli E hP 1 f (v := M 1 f) dX5_why_24 rfl (show f < 10 by omega) rfl (kk := ?_)
      refine lv_iconst (v := (-1)) hx hb dX5_why_25 (by decide) ?_
      refine lv_icmp_eq (tgt := 52) hx hb dX5_why_26 (by decide) (fun c_3 => ?_) (fun c_3 => ?_)
      · refine lv_aload_n hx hb dX5_why_52 rfl (lv_at hl 0 rfl) ?_
        refine mg E hP 23 (v := M 23 0) dX5_why_53 rfl (kk := ?_)
        refine lv_bipush (v := 100) hx hb dX5_why_56 (by decide) ?_
        refine lv_irem hx hb dX5_why_58 (by decide) ?_
        refine lv_aload_n hx hb dX5_why_59 rfl (lv_at hl 0 rfl) ?_
        refine mga E hP 2 dX5_why_60 (kk := ?_)
        refine lv_iload_n hx hb dX5_why_63 rfl (lv_at hl 2 rfl) ?_
        refine mli E hP 2 f (v := M 2 f) dX5_why_64 rfl (show f < 10 by omega) rfl (kk := ?_)
        refine lv_aload_n hx hb dX5_why_65 rfl (lv_at hl 0 rfl) ?_
        refine mga E hP 3 dX5_why_66 (kk := ?_)
        refine lv_iload_n hx hb dX5_why_69 rfl (lv_at hl 2 rfl) ?_
        refine mli E hP 3 f (v := M 3 f) dX5_why_70 rfl (show f < 10 by omega) rfl (kk := ?_)
        refine lv_iconst (v := 1) hx hb dX5_why_71 (by decide) ?_
        refine lv_isub hx hb dX5_why_72 ?_
        refine ct_S E hS (c_X5_isBetween l g F _ ((M 23 0) - (M 23 0) / 100 * 100) (M 2 f) ((M 3 f) - 1)) ok_X5_isBetween lk_X5_7 hP rfl hl ⟨rfl, rfl⟩ rfl ⟨Nat.le_refl _, Nat.le_refl _⟩ dX5_why_73 rfl (fun v9 H locs hv9 hS hz9 => ?_)
        obtain ⟨rfl, hP⟩ := hv9
        refine bz_eq (tgt := 84) hx hb dX5_why_76 (by decide) (fun c_4 => ?_) (fun c_4 => ?_)
        · refine lv_bipush (v := 104) hx hb dX5_why_84 (by decide) ?_
          have e1 : (mWhy M b f) = 104 := by simp only [mWhy, mTod, bet, eq_false c_1, eq_true c_2, eq_true c_3, eq_false c_4, if_true, if_false, reduceIte, true_and, and_true, false_and, and_false, true_or, or_true, false_or, or_false, not_true_eq_false, not_false_eq_true, decide_true, decide_false, Bool.true_and, Bool.and_true, Bool.false_and, Bool.and_false, Bool.not_true, Bool.not_false, Bool.or_false, Bool.false_or, Bool.or_true, Bool.true_or]
          exact ct_zret E hr (by decide) hk hS ⟨(by rw [e1]), hP⟩ dX5_why_86
        · refine lv_bipush (v := 110) hx hb dX5_why_79 (by decide) ?_
          refine lv_goto (tgt := 86) hx hb dX5_why_81 (by decide) ?_
          have e1 : (mWhy M b f) = 110 := by simp only [mWhy, mTod, bet, eq_false c_1, eq_true c_2, eq_true c_3, eq_true c_4, if_true, if_false, reduceIte, true_and, and_true, false_and, and_false, true_or, or_true, false_or, or_false, not_true_eq_false, not_false_eq_true, decide_true, decide_false, Bool.true_and, Bool.and_true, Bool.false_and, Bool.and_false, Bool.not_true, Bool.not_false, Bool.or_false, Bool.false_or, Bool.or_true, Bool.true_or]
          exact ct_zret E hr (by decide) hk hS ⟨(by rw [e1]), hP⟩ dX5_why_86
      · refine lv_aload_n hx hb dX5_why_29 rfl (lv_at hl 0 rfl) ?_
        refine mga E hP 1 dX5_why_30 (kk := ?_)
        refine lv_iload_n hx hb dX5_why_33 rfl (lv_at hl 2 rfl) ?_
        refine mli E hP 1 f (v := M 1 f) dX5_why_34 rfl (show f < 10 by omega) rfl (kk := ?_)
        refine lv_aload_n hx hb dX5_why_35 rfl (lv_at hl 0 rfl) ?_
        refine mga E hP 4 dX5_why_36 (kk := ?_)
        refine lv_iload_n hx hb dX5_why_39 rfl (lv_at hl 1 rfl) ?_
        refine mli E hP 4 b (v := M 4 b) dX5_why_40 rfl (show b < 8 by omega) rfl (kk := ?_)
        refine lv_icmp_ne (tgt := 49) hx hb dX5_why_41 (by decide) (fun c_5 => ?_) (fun c_5 => ?_)
        · refine lv_bipush (v := 116) hx hb dX5_why_49 (by decide) ?_
          have e1 : (mWhy M b f) = 116 := by simp only [mWhy, mTod, bet, eq_false c_1, eq_true c_2, eq_false c_3, eq_false c_5, if_true, if_false, reduceIte, true_and, and_true, false_and, and_false, true_or, or_true, false_or, or_false, not_true_eq_false, not_false_eq_true, decide_true, decide_false, Bool.true_and, Bool.and_true, Bool.false_and, Bool.and_false, Bool.not_true, Bool.not_false, Bool.or_false, Bool.false_or, Bool.or_true, Bool.true_or]
          exact ct_zret E hr (by decide) hk hS ⟨(by rw [e1]), hP⟩ dX5_why_51
        · refine lv_bipush (v := 110) hx hb dX5_why_44 (by decide) ?_
          refine lv_goto (tgt := 51) hx hb dX5_why_46 (by decide) ?_
          have e1 : (mWhy M b f) = 110 := by simp only [mWhy, mTod, bet, eq_false c_1, eq_true c_2, eq_false c_3, eq_true c_5, if_true, if_false, reduceIte, true_and, and_true, false_and, and_false, true_or, or_true, false_or, or_false, not_true_eq_false, not_false_eq_true, decide_true, decide_false, Bool.true_and, Bool.and_true, Bool.false_and, Bool.and_false, Bool.not_true, Bool.not_false, Bool.or_false, Bool.false_or, Bool.or_true, Bool.true_or]
          exact ct_zret E hr (by decide) hk hS ⟨(by rw [e1]), hP⟩ dX5_why_51
    · refine lv_bipush (v := 114) hx hb dX5_why_16 (by decide) ?_
      have e1 : (mWhy M b f) = 114 := by simp only [mWhy, mTod, bet, eq_false c_1, eq_false c_2, if_true, if_false, reduceIte, true_and, and_true, false_and, and_false, true_or, or_true, false_or, or_false, not_true_eq_false, not_false_eq_true, decide_true, decide_false, Bool.true_and, Bool.and_true, Bool.false_and, Bool.and_false, Bool.not_true, Bool.not_false, Bool.or_false, Bool.false_or, Bool.or_true, Bool.true_or]
      exact ct_zret E hr (by decide) hk hS ⟨(by rw [e1]), hP⟩ dX5_why_18
  · have n_c_1 : f = 0 := (nI_eq (by omega) (by decide)).mp (show nI f = nI 0 from c_1)
    refine lv_bipush (v := 110) hx hb dX5_why_4 (by decide) ?_
    have e1 : (mWhy M b f) = 110 := by simp only [mWhy, mTod, bet, eq_true c_1, if_true, if_false, reduceIte, true_and, and_true, false_and, and_false, true_or, or_true, false_or, or_false, not_true_eq_false, not_false_eq_true, decide_true, decide_false, Bool.true_and, Bool.and_true, Bool.false_and, Bool.and_false, Bool.not_true, Bool.not_false, Bool.or_false, Bool.false_or, Bool.or_true, Bool.true_or]
    exact ct_zret E hr (by decide) hk hS ⟨(by rw [e1]), hP⟩ dX5_why_6

set_option maxHeartbeats 4000000 in
set_option maxRecDepth 100000 in
theorem c_X5_aboardMany (l : Launch) (g : cG) (F : Nat → Prop) (o : Nat) (ad : Nat → Nat) (M : TT) (nR lf : Nat) (hR : M 14 0 = nI nR) (hR30 : nR ≤ 30) : CT l yX5_aboardMany cX5_aboardMany 4 (some .int) 0 0 0 0 g F [.ref o, .int (nI lf)] (PM g F o ad M) (fun v9 H9 => v9 = some (.int (mAb M lf nR)) ∧ PM g F o ad M H9) := by
  refine CT.of (by decide) rfl ?_
  intro p e s m args below meth c E hr hk hnm hP ls hl
  have hS : va_S (nF F) s.heap s.heap [] := va_S.rf
  have hx := E.1
  have hb := E.2.1
  have hE_ml := E.2.2.1
  have hown := E.2.2.2.1
  have hts := E.2.2.2.2.1
  have hG := E.2.2.2.2.2
  have hl : lv_has ls 4 [(0, .ref o), (1, .int (nI lf))] := hl
  refine lv_iconst (v := 0) hx hb dX5_aboardMany_0 (by decide) ?_
  refine lv_istore_n (lv' := [(2, .int 0), (0, .ref o), (1, .int (nI lf))]) hx hb dX5_aboardMany_1 rfl hl (by decide) rfl (fun ls hl => ?_)
  refine lv_iconst (v := 0) hx hb dX5_aboardMany_2 (by decide) ?_
  refine lv_istore_n (lv' := [(3, .int 0), (2, .int 0), (0, .ref o), (1, .int (nI lf))]) hx hb dX5_aboardMany_3 rfl hl (by decide) rfl (fun ls hl => ?_)
  have LP : ∀ (n9 i : Nat) (a9 : Int32), i ≤ nR → nR < i + n9 → (a9 = mAb M lf i) → ∀ (H : Heap) (locs : List Loc), va_S (nF F) s.heap H locs → PM g F o ad M H → ∀ (ls : Array Slot), lv_has ls 4 [(0, .ref o), (1, .int (nI lf)), (2, .int a9), (3, .int (nI i))] → W p l e { frames := 0, cells := 0, slots := 0, locals := 0 } s m args below meth c H locs 0 0 (MQ below (Qg F (fun v9 H9 => v9 = some (.int (mAb M lf nR)) ∧ PM g F o ad M H9)) args s 0 0 (nF F)) (F0 m 4 ls []) := by
    intro n9
    induction n9 with
    | zero => intro i a9 hi9 hn9; exact absurd hn9 (by omega)
    | succ n9 ihLP =>
      intro i a9 hi_LP hn_LP ha H locs hS hP ls hl
      refine lv_iload_n hx hb dX5_aboardMany_4 rfl (lv_at hl 3 rfl) ?_
      refine lv_aload_n hx hb dX5_aboardMany_5 rfl (lv_at hl 0 rfl) ?_
      refine mg E hP 14 (v := (nI nR)) dX5_aboardMany_6 hR (kk := ?_)
      refine lv_icmp_ge (tgt := 47) hx hb dX5_aboardMany_9 (by decide) (fun c_1 => ?_) (fun c_1 => ?_)
      · have n_c_1 : nR ≤ i := (nI_leI (by omega) (by omega)).mp c_1
        refine lv_iload_n hx hb dX5_aboardMany_47 rfl (lv_at hl 2 rfl) ?_
        have e1 : (mAb M lf nR) = a9 := by rw [ha, show i = nR by omega]
        exact ct_iret E hr hk hS ⟨(by rw [e1]), hP⟩ dX5_aboardMany_48
      · have n_c_1 : i < nR := Nat.lt_of_not_le (fun h9 => c_1 (nI_le h9 (by omega)))
        refine lv_iload_n hx hb dX5_aboardMany_12 rfl (lv_at hl 2 rfl) ?_
        refine lv_aload_n hx hb dX5_aboardMany_13 rfl (lv_at hl 0 rfl) ?_
        refine mga E hP 13 dX5_aboardMany_14 (kk := ?_)
        refine lv_iload_n hx hb dX5_aboardMany_17 rfl (lv_at hl 3 rfl) ?_
        refine mlc E hP 13 i (v := M 13 i) dX5_aboardMany_18 rfl (show i < 30 by omega) rfl (kk := ?_)
        refine lv_bipush (v := 97) hx hb dX5_aboardMany_19 (by decide) ?_
        refine lv_icmp_ne (tgt := 38) hx hb dX5_aboardMany_21 (by decide) (fun c_2 => ?_) (fun c_2 => ?_)
        · refine lv_iconst (v := 0) hx hb dX5_aboardMany_38 (by decide) ?_
          refine lv_iadd hx hb dX5_aboardMany_39 ?_
          refine lv_istore_n (lv' := [(2, .int (a9 + 0)), (0, .ref o), (1, .int (nI lf)), (3, .int (nI i))]) hx hb dX5_aboardMany_40 rfl hl (by decide) rfl (fun ls hl => ?_)
          refine lv_iinc (v := (nI (i + 1))) (lv' := [(3, .int (nI (i + 1))), (2, .int (a9 + 0)), (0, .ref o), (1, .int (nI lf))]) hx hb dX5_aboardMany_41 hl (k := 3) rfl (by rw [nI_succ]; rfl) (by decide) rfl (fun ls hl => ?_)
          refine lv_goto (tgt := 4) hx hb dX5_aboardMany_44 (by decide) ?_
          exact ihLP (i + 1) _ (by omega) (by omega) (by rw [show mAb M lf (i + 1) = mAb M lf i + _ from rfl, ← ha]; simp only [mAb, eq_false c_1, eq_false c_2, if_true, if_false, reduceIte, true_and, and_true, false_and, and_false, true_or, or_true, false_or, or_false, not_true_eq_false, not_false_eq_true, decide_true, decide_false, Bool.true_and, Bool.and_true, Bool.false_and, Bool.and_false, Bool.not_true, Bool.not_false, Bool.or_false, Bool.false_or, Bool.or_true, Bool.true_or]) H locs hS hP ls (lv_sub hl [2, 3, 1, 0] rfl)
        · refine lv_aload_n hx hb dX5_aboardMany_24 rfl (lv_at hl 0 rfl) ?_
          refine mga E hP 10 dX5_aboardMany_25 (kk := ?_)
          refine lv_iload_n hx hb dX5_aboardMany_28 rfl (lv_at hl 3 rfl) ?_
          refine mli E hP 10 i (v := M 10 i) dX5_aboardMany_29 rfl (show i < 30 by omega) rfl (kk := ?_)
          refine lv_iload_n hx hb dX5_aboardMany_30 rfl (lv_at hl 1 rfl) ?_
          refine lv_icmp_ne (tgt := 38) hx hb dX5_aboardMany_31 (by decide) (fun c_3 => ?_) (fun c_3 => ?_)
          · refine lv_iconst (v := 0) hx hb dX5_aboardMany_38 (by decide) ?_
            refine lv_iadd hx hb dX5_aboardMany_39 ?_
            refine lv_istore_n (lv' := [(2, .int (a9 + 0)), (0, .ref o), (1, .int (nI lf)), (3, .int (nI i))]) hx hb dX5_aboardMany_40 rfl hl (by decide) rfl (fun ls hl => ?_)
            refine lv_iinc (v := (nI (i + 1))) (lv' := [(3, .int (nI (i + 1))), (2, .int (a9 + 0)), (0, .ref o), (1, .int (nI lf))]) hx hb dX5_aboardMany_41 hl (k := 3) rfl (by rw [nI_succ]; rfl) (by decide) rfl (fun ls hl => ?_)
            refine lv_goto (tgt := 4) hx hb dX5_aboardMany_44 (by decide) ?_
            exact ihLP (i + 1) _ (by omega) (by omega) (by rw [show mAb M lf (i + 1) = mAb M lf i + _ from rfl, ← ha]; simp only [mAb, eq_false c_1, eq_true c_2, eq_false c_3, if_true, if_false, reduceIte, true_and, and_true, false_and, and_false, true_or, or_true, false_or, or_false, not_true_eq_false, not_false_eq_true, decide_true, decide_false, Bool.true_and, Bool.and_true, Bool.false_and, Bool.and_false, Bool.not_true, Bool.not_false, Bool.or_false, Bool.false_or, Bool.or_true, Bool.true_or]) H locs hS hP ls (lv_sub hl [2, 3, 1, 0] rfl)
          · refine lv_iconst (v := 1) hx hb dX5_aboardMany_34 (by decide) ?_
            refine lv_goto (tgt := 39) hx hb dX5_aboardMany_35 (by decide) ?_
            refine lv_iadd hx hb dX5_aboardMany_39 ?_
            refine lv_istore_n (lv' := [(2, .int (a9 + 1)), (0, .ref o), (1, .int (nI lf)), (3, .int (nI i))]) hx hb dX5_aboardMany_40 rfl hl (by decide) rfl (fun ls hl => ?_)
            refine lv_iinc (v := (nI (i + 1))) (lv' := [(3, .int (nI (i + 1))), (2, .int (a9 + 1)), (0, .ref o), (1, .int (nI lf))]) hx hb dX5_aboardMany_41 hl (k := 3) rfl (by rw [nI_succ]; rfl) (by decide) rfl (fun ls hl => ?_)
            refine lv_goto (tgt := 4) hx hb dX5_aboardMany_44 (by decide) ?_
            exact ihLP (i + 1) _ (by omega) (by omega) (by rw [show mAb M lf (i + 1) = mAb M lf i + _ from rfl, ← ha]; simp only [mAb, eq_false c_1, eq_true c_2, eq_true c_3, if_true, if_false, reduceIte, true_and, and_true, false_and, and_false, true_or, or_true, false_or, or_false, not_true_eq_false, not_false_eq_true, decide_true, decide_false, Bool.true_and, Bool.and_true, Bool.false_and, Bool.and_false, Bool.not_true, Bool.not_false, Bool.or_false, Bool.false_or, Bool.or_true, Bool.true_or]) H locs hS hP ls (lv_sub hl [2, 3, 1, 0] rfl)
  exact LP (nR + 1) 0 0 (Nat.zero_le _) (by omega) rfl _ _ hS hP ls (lv_sub hl [2, 3, 1, 0] rfl)
