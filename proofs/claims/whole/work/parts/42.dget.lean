/-! the desk's methods that throw -/
def dcN (x : Int32) (n : Nat) : Nat := if x < 0 then 1 else if x < nI n then 0 else 1
def dcF (x : Int32) : Nat := if x < 0 then 1 else if x < 10 then 0 else 1
theorem ix_of {x : Int32} {n : Nat} (h : ¬ x < 0) (h2 : x < nI n) (hn : n < 1000) : ∃ j, x = nI j ∧ j < n := by
  obtain ⟨j, hj, rfl⟩ := nI_of h
  exact ⟨j, rfl, (nI_ltI (by omega) (by omega)).mp h2⟩
theorem PD.lift {g : cG} {F : Nat → Prop} {A : Nat → Nat → Nat} {nb nl nr ne : Nat} {pr : List Nat} {t : TT} {H : Heap} (h : PD g F A nb nl nr ne pr t H) {i : Nat} (hi : i < nr) (hx : ¬ t 10 i < 0) : ∃ q, q < nl ∧ t 10 i = nI q := by
  rcases h.di.2.2.1 i hi with e | z
  · rw [e] at hx; exact absurd (by decide) hx
  · exact z
theorem dWhy_c {t : TT} {b : Nat} {f : Int32} : narrow .char (.int (dWhy t b f)) = .int (dWhy t b f) := by
  unfold dWhy
  repeat' split
  all_goals rfl
abbrev kIOB : String := "java/lang/IndexOutOfBoundsException"
abbrev kIAE : String := "java/lang/IllegalArgumentException"
abbrev kISE : String := "java/lang/IllegalStateException"
abbrev kUOE : String := "java/lang/UnsupportedOperationException"
abbrev kNSE : String := "java/util/NoSuchElementException"
abbrev kARE : String := "java/lang/ArithmeticException"

set_option maxHeartbeats 4000000 in
set_option maxRecDepth 100000 in
theorem c_X4_badgeNumbered (l : Launch) (g : cG) (F : Nat → Prop) (A : Nat → Nat → Nat) (nb nl nr ne : Nat) (pr : List Nat) (t : TT) (hl9 : l.stackTraces = false) (x : Int32) : CX l yX4_badgeNumbered cX4_badgeNumbered 2 (some (.object "LiftDesk$Badge")) 6 90 1 6 g F [.ref (A 0 0), .int x] (PD g F A nb nl nr ne pr t)
    (fun v9 H9 => ∃ j, x = nI j ∧ j < nb ∧ v9 = some (.ref (A 4 j)) ∧ dcN x nb = 0 ∧ PD g F A nb nl nr ne pr t H9) (fun E9 H9 => (E9 = kIOB ∧ ¬ dcN x nb = 0) ∧ PD g F A nb nl nr ne pr t H9) := by
  refine CX.of (by decide) rfl ?_
  intro p e s m args below meth c E hr hk ht hP ls hl
  have hS : va_S (nF F) s.heap s.heap [] := va_S.rf
  have hx := E.1
  have hb := E.2.1
  have hE_ml := E.2.2.1
  have hown := E.2.2.2.1
  have hts := E.2.2.2.2.1
  have hG := E.2.2.2.2.2
  have hd0 := hP.di.1
  have hl : lv_has ls 2 [(0, .ref (A 0 0)), (1, .int x)] := hl
  refine lv_iload_n hx hb dX4_badgeNumbered_0 rfl (lv_at hl 1 rfl) ?_
  refine lv_if_lt (tgt := 15) hx hb dX4_badgeNumbered_1 (by decide) (fun c1 => ?_) (fun c1 => ?_)
  · exact cx_throw E hl9 hS ht hk dx_IOB (text := "there is no such badge") (by simp [lw_str]) hl dX4_badgeNumbered_15 dX4_badgeNumbered_18 dX4_badgeNumbered_19 dX4_badgeNumbered_21 dX4_badgeNumbered_24 ⟨rfl, rfl⟩ rfl ⟨Nat.le_of_ble_eq_true rfl, Nat.le_of_ble_eq_true rfl⟩ (Nat.le_of_ble_eq_true rfl) (Nat.le_of_ble_eq_true rfl) (fun H1 hz1 oq1 => ⟨⟨rfl, by rw [dcN, if_pos c1]; decide⟩, hP.keep oq1 hz1⟩)
  · refine lv_iload_n hx hb dX4_badgeNumbered_4 rfl (lv_at hl 1 rfl) ?_
    refine lv_aload_n hx hb dX4_badgeNumbered_5 rfl (lv_at hl 0 rfl) ?_
    refine dg E hP 3 fk_X4_22 dX4_badgeNumbered_6 (v := .ref (A 2 0)) (kk := ?_)
    refine d_len E hS hP 0 nb hl ⟨rfl, rfl⟩ ⟨Nat.zero_le _, Nat.zero_le _⟩ dX4_badgeNumbered_9 (kk := fun locs hS => ?_)
    refine lv_icmp_lt (tgt := 25) hx hb dX4_badgeNumbered_12 (by decide) (fun c2 => ?_) (fun c2 => ?_)
    · have hc : dcN x nb = 0 := by rw [dcN, if_neg c1, if_pos c2]
      obtain ⟨j, rfl, hj⟩ := ix_of c1 c2 (by omega)
      refine lv_aload_n hx hb dX4_badgeNumbered_25 rfl (lv_at hl 0 rfl) ?_
      refine dg E hP 3 fk_X4_22 dX4_badgeNumbered_26 (v := .ref (A 2 0)) (kk := ?_)
      refine lv_iload_n hx hb dX4_badgeNumbered_29 rfl (lv_at hl 1 rfl) ?_
      refine d_getB E hS hP j rfl hj hl ⟨rfl, rfl⟩ ⟨Nat.zero_le _, Nat.zero_le _⟩ dX4_badgeNumbered_30 dX4_badgeNumbered_33 (kk := fun locs hS => ?_)
      exact vx_ret (ct_aret (v := .ref (A 4 j)) E hr (Or.inl ⟨_, rfl⟩) (Or.inr ⟨_, rfl⟩) hk hS ⟨j, rfl, hj, rfl, hc, hP⟩ dX4_badgeNumbered_36)
    · exact cx_throw E hl9 hS ht hk dx_IOB (text := "there is no such badge") (by simp [lw_str]) hl dX4_badgeNumbered_15 dX4_badgeNumbered_18 dX4_badgeNumbered_19 dX4_badgeNumbered_21 dX4_badgeNumbered_24 ⟨rfl, rfl⟩ rfl ⟨Nat.le_of_ble_eq_true rfl, Nat.le_of_ble_eq_true rfl⟩ (Nat.le_of_ble_eq_true rfl) (Nat.le_of_ble_eq_true rfl) (fun H1 hz1 oq1 => ⟨⟨rfl, by rw [dcN, if_neg c1, if_neg c2]; decide⟩, hP.keep oq1 hz1⟩)

set_option maxHeartbeats 4000000 in
set_option maxRecDepth 100000 in
theorem c_X4_riderNumbered (l : Launch) (g : cG) (F : Nat → Prop) (A : Nat → Nat → Nat) (nb nl nr ne : Nat) (pr : List Nat) (t : TT) (hl9 : l.stackTraces = false) (x : Int32) : CX l yX4_riderNumbered cX4_riderNumbered 2 (some (.object "LiftDesk$Rider")) 6 90 1 6 g F [.ref (A 0 0), .int x] (PD g F A nb nl nr ne pr t)
    (fun v9 H9 => ∃ j, x = nI j ∧ j < nr ∧ v9 = some (.ref (A 6 j)) ∧ dcN x nr = 0 ∧ PD g F A nb nl nr ne pr t H9) (fun E9 H9 => (E9 = kIOB ∧ ¬ dcN x nr = 0) ∧ PD g F A nb nl nr ne pr t H9) := by
  refine CX.of (by decide) rfl ?_
  intro p e s m args below meth c E hr hk ht hP ls hl
  have hS : va_S (nF F) s.heap s.heap [] := va_S.rf
  have hx := E.1
  have hb := E.2.1
  have hE_ml := E.2.2.1
  have hown := E.2.2.2.1
  have hts := E.2.2.2.2.1
  have hG := E.2.2.2.2.2
  have hd0 := hP.di.1
  have hl : lv_has ls 2 [(0, .ref (A 0 0)), (1, .int x)] := hl
  refine lv_iload_n hx hb dX4_riderNumbered_0 rfl (lv_at hl 1 rfl) ?_
  refine lv_if_lt (tgt := 15) hx hb dX4_riderNumbered_1 (by decide) (fun c1 => ?_) (fun c1 => ?_)
  · exact cx_throw E hl9 hS ht hk dx_IOB (text := "there is no such rider") (by simp [lw_str]) hl dX4_riderNumbered_15 dX4_riderNumbered_18 dX4_riderNumbered_19 dX4_riderNumbered_21 dX4_riderNumbered_24 ⟨rfl, rfl⟩ rfl ⟨Nat.le_of_ble_eq_true rfl, Nat.le_of_ble_eq_true rfl⟩ (Nat.le_of_ble_eq_true rfl) (Nat.le_of_ble_eq_true rfl) (fun H1 hz1 oq1 => ⟨⟨rfl, by rw [dcN, if_pos c1]; decide⟩, hP.keep oq1 hz1⟩)
  · refine lv_iload_n hx hb dX4_riderNumbered_4 rfl (lv_at hl 1 rfl) ?_
    refine lv_aload_n hx hb dX4_riderNumbered_5 rfl (lv_at hl 0 rfl) ?_
    refine dg E hP 5 fk_X4_29 dX4_riderNumbered_6 (v := .ref (A 2 2)) (kk := ?_)
    refine d_len E hS hP 2 nr hl ⟨rfl, rfl⟩ ⟨Nat.zero_le _, Nat.zero_le _⟩ dX4_riderNumbered_9 (kk := fun locs hS => ?_)
    refine lv_icmp_lt (tgt := 25) hx hb dX4_riderNumbered_12 (by decide) (fun c2 => ?_) (fun c2 => ?_)
    · have hc : dcN x nr = 0 := by rw [dcN, if_neg c1, if_pos c2]
      obtain ⟨j, rfl, hj⟩ := ix_of c1 c2 (by omega)
      refine lv_aload_n hx hb dX4_riderNumbered_25 rfl (lv_at hl 0 rfl) ?_
      refine dg E hP 5 fk_X4_29 dX4_riderNumbered_26 (v := .ref (A 2 2)) (kk := ?_)
      refine lv_iload_n hx hb dX4_riderNumbered_29 rfl (lv_at hl 1 rfl) ?_
      refine d_getR E hS hP j rfl hj hl ⟨rfl, rfl⟩ ⟨Nat.zero_le _, Nat.zero_le _⟩ dX4_riderNumbered_30 dX4_riderNumbered_33 (kk := fun locs hS => ?_)
      exact vx_ret (ct_aret (v := .ref (A 6 j)) E hr (Or.inl ⟨_, rfl⟩) (Or.inr ⟨_, rfl⟩) hk hS ⟨j, rfl, hj, rfl, hc, hP⟩ dX4_riderNumbered_36)
    · exact cx_throw E hl9 hS ht hk dx_IOB (text := "there is no such rider") (by simp [lw_str]) hl dX4_riderNumbered_15 dX4_riderNumbered_18 dX4_riderNumbered_19 dX4_riderNumbered_21 dX4_riderNumbered_24 ⟨rfl, rfl⟩ rfl ⟨Nat.le_of_ble_eq_true rfl, Nat.le_of_ble_eq_true rfl⟩ (Nat.le_of_ble_eq_true rfl) (Nat.le_of_ble_eq_true rfl) (fun H1 hz1 oq1 => ⟨⟨rfl, by rw [dcN, if_neg c1, if_neg c2]; decide⟩, hP.keep oq1 hz1⟩)

set_option maxHeartbeats 4000000 in
set_option maxRecDepth 100000 in
theorem c_X4_liftNumbered (l : Launch) (g : cG) (F : Nat → Prop) (A : Nat → Nat → Nat) (nb nl nr ne : Nat) (pr : List Nat) (t : TT) (hl9 : l.stackTraces = false) (x : Int32) : CX l yX4_liftNumbered cX4_liftNumbered 2 (some (.object "LiftDesk$Lift")) 6 90 1 6 g F [.ref (A 0 0), .int x] (PD g F A nb nl nr ne pr t)
    (fun v9 H9 => ∃ j, x = nI j ∧ j < nl ∧ v9 = some (.ref (A 5 j)) ∧ dcN x nl = 0 ∧ PD g F A nb nl nr ne pr t H9) (fun E9 H9 => (E9 = kIOB ∧ ¬ dcN x nl = 0) ∧ PD g F A nb nl nr ne pr t H9) := by
  refine CX.of (by decide) rfl ?_
  intro p e s m args below meth c E hr hk ht hP ls hl
  have hS : va_S (nF F) s.heap s.heap [] := va_S.rf
  have hx := E.1
  have hb := E.2.1
  have hE_ml := E.2.2.1
  have hown := E.2.2.2.1
  have hts := E.2.2.2.2.1
  have hG := E.2.2.2.2.2
  have hd0 := hP.di.1
  have hl : lv_has ls 2 [(0, .ref (A 0 0)), (1, .int x)] := hl
  refine lv_iload_n hx hb dX4_liftNumbered_0 rfl (lv_at hl 1 rfl) ?_
  refine lv_if_lt (tgt := 15) hx hb dX4_liftNumbered_1 (by decide) (fun c1 => ?_) (fun c1 => ?_)
  · exact cx_throw E hl9 hS ht hk dx_IOB (text := "there is no such lift") (by simp [lw_str]) hl dX4_liftNumbered_15 dX4_liftNumbered_18 dX4_liftNumbered_19 dX4_liftNumbered_21 dX4_liftNumbered_24 ⟨rfl, rfl⟩ rfl ⟨Nat.le_of_ble_eq_true rfl, Nat.le_of_ble_eq_true rfl⟩ (Nat.le_of_ble_eq_true rfl) (Nat.le_of_ble_eq_true rfl) (fun H1 hz1 oq1 => ⟨⟨rfl, by rw [dcN, if_pos c1]; decide⟩, hP.keep oq1 hz1⟩)
  · refine lv_iload_n hx hb dX4_liftNumbered_4 rfl (lv_at hl 1 rfl) ?_
    refine lv_aload_n hx hb dX4_liftNumbered_5 rfl (lv_at hl 0 rfl) ?_
    refine dg E hP 4 fk_X4_26 dX4_liftNumbered_6 (v := .ref (A 2 1)) (kk := ?_)
    refine d_len E hS hP 1 nl hl ⟨rfl, rfl⟩ ⟨Nat.zero_le _, Nat.zero_le _⟩ dX4_liftNumbered_9 (kk := fun locs hS => ?_)
    refine lv_icmp_lt (tgt := 25) hx hb dX4_liftNumbered_12 (by decide) (fun c2 => ?_) (fun c2 => ?_)
    · have hc : dcN x nl = 0 := by rw [dcN, if_neg c1, if_pos c2]
      obtain ⟨j, rfl, hj⟩ := ix_of c1 c2 (by omega)
      refine lv_aload_n hx hb dX4_liftNumbered_25 rfl (lv_at hl 0 rfl) ?_
      refine dg E hP 4 fk_X4_26 dX4_liftNumbered_26 (v := .ref (A 2 1)) (kk := ?_)
      refine lv_iload_n hx hb dX4_liftNumbered_29 rfl (lv_at hl 1 rfl) ?_
      refine d_getL E hS hP j rfl hj hl ⟨rfl, rfl⟩ ⟨Nat.zero_le _, Nat.zero_le _⟩ dX4_liftNumbered_30 dX4_liftNumbered_33 (kk := fun locs hS => ?_)
      exact vx_ret (ct_aret (v := .ref (A 5 j)) E hr (Or.inl ⟨_, rfl⟩) (Or.inr ⟨_, rfl⟩) hk hS ⟨j, rfl, hj, rfl, hc, hP⟩ dX4_liftNumbered_36)
    · exact cx_throw E hl9 hS ht hk dx_IOB (text := "there is no such lift") (by simp [lw_str]) hl dX4_liftNumbered_15 dX4_liftNumbered_18 dX4_liftNumbered_19 dX4_liftNumbered_21 dX4_liftNumbered_24 ⟨rfl, rfl⟩ rfl ⟨Nat.le_of_ble_eq_true rfl, Nat.le_of_ble_eq_true rfl⟩ (Nat.le_of_ble_eq_true rfl) (Nat.le_of_ble_eq_true rfl) (fun H1 hz1 oq1 => ⟨⟨rfl, by rw [dcN, if_neg c1, if_neg c2]; decide⟩, hP.keep oq1 hz1⟩)

set_option maxHeartbeats 4000000 in
set_option maxRecDepth 100000 in
theorem c_X4_checkFloor (l : Launch) (g : cG) (F : Nat → Prop) (A : Nat → Nat → Nat) (nb nl nr ne : Nat) (pr : List Nat) (t : TT) (hl9 : l.stackTraces = false) (x : Int32) : CX l yX4_checkFloor cX4_checkFloor 1 none 6 90 1 6 g F [.int x] (PD g F A nb nl nr ne pr t)
    (fun v9 H9 => ∃ j, x = nI j ∧ j < 10 ∧ v9 = none ∧ dcF x = 0 ∧ PD g F A nb nl nr ne pr t H9) (fun E9 H9 => (E9 = kIOB ∧ ¬ dcF x = 0) ∧ PD g F A nb nl nr ne pr t H9) := by
  refine CX.of (by decide) rfl ?_
  intro p e s m args below meth c E hr hk ht hP ls hl
  have hS : va_S (nF F) s.heap s.heap [] := va_S.rf
  have hx := E.1
  have hb := E.2.1
  have hE_ml := E.2.2.1
  have hown := E.2.2.2.1
  have hts := E.2.2.2.2.1
  have hG := E.2.2.2.2.2
  have hd0 := hP.di.1
  have hl : lv_has ls 1 [(0, .int x)] := hl
  refine lv_iload_n hx hb dX4_checkFloor_0 rfl (lv_at hl 0 rfl) ?_
  refine lv_if_lt (tgt := 10) hx hb dX4_checkFloor_1 (by decide) (fun c1 => ?_) (fun c1 => ?_)
  · exact cx_throw E hl9 hS ht hk dx_IOB (text := "the floor is out of range") (by simp [lw_str]) hl dX4_checkFloor_10 dX4_checkFloor_13 dX4_checkFloor_14 dX4_checkFloor_16 dX4_checkFloor_19 ⟨rfl, rfl⟩ rfl ⟨Nat.le_of_ble_eq_true rfl, Nat.le_of_ble_eq_true rfl⟩ (Nat.le_of_ble_eq_true rfl) (Nat.le_of_ble_eq_true rfl) (fun H1 hz1 oq1 => ⟨⟨rfl, by rw [dcF, if_pos c1]; decide⟩, hP.keep oq1 hz1⟩)
  · refine lv_iload_n hx hb dX4_checkFloor_4 rfl (lv_at hl 0 rfl) ?_
    refine lv_bipush (v := 10) hx hb dX4_checkFloor_5 (by decide) ?_
    refine lv_icmp_lt (tgt := 20) hx hb dX4_checkFloor_7 (by decide) (fun c2 => ?_) (fun c2 => ?_)
    · have hc : dcF x = 0 := by rw [dcF, if_neg c1, if_pos c2]
      obtain ⟨j, rfl, hj⟩ := ix_of (n := 10) c1 c2 (by omega)
      exact vx_ret (ct_vret E hr hk hS ⟨j, rfl, hj, rfl, hc, hP⟩ dX4_checkFloor_20)
    · exact cx_throw E hl9 hS ht hk dx_IOB (text := "the floor is out of range") (by simp [lw_str]) hl dX4_checkFloor_10 dX4_checkFloor_13 dX4_checkFloor_14 dX4_checkFloor_16 dX4_checkFloor_19 ⟨rfl, rfl⟩ rfl ⟨Nat.le_of_ble_eq_true rfl, Nat.le_of_ble_eq_true rfl⟩ (Nat.le_of_ble_eq_true rfl) (Nat.le_of_ble_eq_true rfl) (fun H1 hz1 oq1 => ⟨⟨rfl, by rw [dcF, if_neg c1, if_neg c2]; decide⟩, hP.keep oq1 hz1⟩)

set_option maxHeartbeats 4000000 in
set_option maxRecDepth 100000 in
theorem c_X4_state (l : Launch) (g : cG) (F : Nat → Prop) (A : Nat → Nat → Nat) (nb nl nr ne : Nat) (pr : List Nat) (t : TT) (hl9 : l.stackTraces = false) (x : Int32)  : CX l yX4_state cX4_state 2 (some .char) 7 111 (4) (24) g F [.ref (A 0 0), .int x] (PD g F A nb nl nr ne pr t)
    (fun v9 H9 => v9 = some (.int (t 13 x.toNatClampNeg)) ∧ (if dcN x nr = 0 then 0 else 1) = 0 ∧ PD g F A nb nl nr ne pr t H9)
    (fun E9 H9 => (0 < (if dcN x nr = 0 then 0 else 1) ∧ [kIOB][(if dcN x nr = 0 then 0 else 1) - 1]? = some E9) ∧ PD g F A nb nl nr ne pr t H9) := by
  refine CX.of (by decide) rfl ?_
  intro p e s m args below meth c E hr hk ht hP ls hl
  have hS : va_S (nF F) s.heap s.heap [] := va_S.rf
  have hx := E.1
  have hb := E.2.1
  have hE_ml := E.2.2.1
  have hown := E.2.2.2.1
  have hts := E.2.2.2.2.1
  have hG := E.2.2.2.2.2
  have hd0 := hP.di.1
  have hl : lv_has ls 2 [(0, .ref (A 0 0)), (1, .int x)] := hl
  refine lv_aload_n hx hb dX4_state_0 rfl (lv_at hl 0 rfl) ?_
  refine lv_iload_n hx hb dX4_state_1 rfl (lv_at hl 1 rfl) ?_
  refine cx_V E hS (c_X4_riderNumbered l g F A nb nl nr ne pr t hl9 x) ok_X4_riderNumbered lk_X4_136 hP (hP.recv hG) rfl hl ⟨rfl, rfl⟩ rfl ⟨Nat.le_of_ble_eq_true rfl, Nat.le_of_ble_eq_true rfl⟩ dX4_state_2 rfl
    (fun E9 ce9 q9 H9 locs hX9 hz9 hS hc9 hv9 hf9 => by
      obtain ⟨⟨rfl, c_1⟩, hP9⟩ := hX9
      exact cx_out ht hk hc9 hv9 hf9 ⟨(by have hcode : (if dcN x nr = 0 then 0 else 1) = 1 := (by simp only [eq_false c_1, if_true, if_false, reduceIte, true_and, and_true, false_and, and_false, true_or, or_true, false_or, or_false, not_true_eq_false, not_false_eq_true, decide_true, decide_false, Bool.true_and, Bool.and_true, Bool.false_and, Bool.and_false, Bool.not_true, Bool.not_false, Bool.or_false, Bool.false_or, Bool.or_true, Bool.true_or]); rw [hcode]; exact ⟨by decide, rfl⟩), hP9⟩ hS (Nat.le_of_ble_eq_true rfl) (Nat.le_of_ble_eq_true rfl)) (fun v9 H locs hv9 hS hz9 => ?_)
  obtain ⟨jx, rfl, hjx, rfl, c_1, hP⟩ := hv9
  have jx_cl : (nI jx).toNatClampNeg = jx := nI_clamp (by omega)
  refine dgn E hP 6 jx hjx kcX3 4 fn_X4_140 dX4_state_5 (v := .int (t 13 jx)) (kk := ?_)
  have hcode : (if dcN (nI jx) nr = 0 then 0 else 1) = 0 := by simp only [eq_true c_1, jx_cl, if_true, if_false, reduceIte, true_and, and_true, false_and, and_false, true_or, or_true, false_or, or_false, not_true_eq_false, not_false_eq_true, decide_true, decide_false, Bool.true_and, Bool.and_true, Bool.false_and, Bool.and_false, Bool.not_true, Bool.not_false, Bool.or_false, Bool.false_or, Bool.or_true, Bool.true_or]
  have e1 : (t 13 (nI jx).toNatClampNeg) = t 13 jx := by simp only [eq_true c_1, jx_cl, if_true, if_false, reduceIte, true_and, and_true, false_and, and_false, true_or, or_true, false_or, or_false, not_true_eq_false, not_false_eq_true, decide_true, decide_false, Bool.true_and, Bool.and_true, Bool.false_and, Bool.and_false, Bool.not_true, Bool.not_false, Bool.or_false, Bool.false_or, Bool.or_true, Bool.true_or]
  exact vx_ret (ct_zret E hr (hP.di.2.2.2.2.1 jx hjx) hk hS ⟨(by rw [e1]), hcode, hP⟩ dX4_state_8 (Nat.le_of_ble_eq_true rfl) (Nat.le_of_ble_eq_true rfl))

set_option maxHeartbeats 4000000 in
set_option maxRecDepth 100000 in
theorem c_X4_aim (l : Launch) (g : cG) (F : Nat → Prop) (A : Nat → Nat → Nat) (nb nl nr ne : Nat) (pr : List Nat) (t : TT) (hl9 : l.stackTraces = false) (x : Int32)  : CX l yX4_aim cX4_aim 2 (some .int) 7 111 (4) (24) g F [.ref (A 0 0), .int x] (PD g F A nb nl nr ne pr t)
    (fun v9 H9 => v9 = some (.int (t 9 x.toNatClampNeg)) ∧ (if dcN x nr = 0 then 0 else 1) = 0 ∧ PD g F A nb nl nr ne pr t H9)
    (fun E9 H9 => (0 < (if dcN x nr = 0 then 0 else 1) ∧ [kIOB][(if dcN x nr = 0 then 0 else 1) - 1]? = some E9) ∧ PD g F A nb nl nr ne pr t H9) := by
  refine CX.of (by decide) rfl ?_
  intro p e s m args below meth c E hr hk ht hP ls hl
  have hS : va_S (nF F) s.heap s.heap [] := va_S.rf
  have hx := E.1
  have hb := E.2.1
  have hE_ml := E.2.2.1
  have hown := E.2.2.2.1
  have hts := E.2.2.2.2.1
  have hG := E.2.2.2.2.2
  have hd0 := hP.di.1
  have hl : lv_has ls 2 [(0, .ref (A 0 0)), (1, .int x)] := hl
  refine lv_aload_n hx hb dX4_aim_0 rfl (lv_at hl 0 rfl) ?_
  refine lv_iload_n hx hb dX4_aim_1 rfl (lv_at hl 1 rfl) ?_
  refine cx_V E hS (c_X4_riderNumbered l g F A nb nl nr ne pr t hl9 x) ok_X4_riderNumbered lk_X4_136 hP (hP.recv hG) rfl hl ⟨rfl, rfl⟩ rfl ⟨Nat.le_of_ble_eq_true rfl, Nat.le_of_ble_eq_true rfl⟩ dX4_aim_2 rfl
    (fun E9 ce9 q9 H9 locs hX9 hz9 hS hc9 hv9 hf9 => by
      obtain ⟨⟨rfl, c_1⟩, hP9⟩ := hX9
      exact cx_out ht hk hc9 hv9 hf9 ⟨(by have hcode : (if dcN x nr = 0 then 0 else 1) = 1 := (by simp only [eq_false c_1, if_true, if_false, reduceIte, true_and, and_true, false_and, and_false, true_or, or_true, false_or, or_false, not_true_eq_false, not_false_eq_true, decide_true, decide_false, Bool.true_and, Bool.and_true, Bool.false_and, Bool.and_false, Bool.not_true, Bool.not_false, Bool.or_false, Bool.false_or, Bool.or_true, Bool.true_or]); rw [hcode]; exact ⟨by decide, rfl⟩), hP9⟩ hS (Nat.le_of_ble_eq_true rfl) (Nat.le_of_ble_eq_true rfl)) (fun v9 H locs hv9 hS hz9 => ?_)
  obtain ⟨jx, rfl, hjx, rfl, c_1, hP⟩ := hv9
  have jx_cl : (nI jx).toNatClampNeg = jx := nI_clamp (by omega)
  refine dgn E hP 6 jx hjx kcX3 3 fn_X4_152 dX4_aim_5 (v := .int (t 9 jx)) (kk := ?_)
  have hcode : (if dcN (nI jx) nr = 0 then 0 else 1) = 0 := by simp only [eq_true c_1, jx_cl, if_true, if_false, reduceIte, true_and, and_true, false_and, and_false, true_or, or_true, false_or, or_false, not_true_eq_false, not_false_eq_true, decide_true, decide_false, Bool.true_and, Bool.and_true, Bool.false_and, Bool.and_false, Bool.not_true, Bool.not_false, Bool.or_false, Bool.false_or, Bool.or_true, Bool.true_or]
  have e1 : (t 9 (nI jx).toNatClampNeg) = t 9 jx := by simp only [eq_true c_1, jx_cl, if_true, if_false, reduceIte, true_and, and_true, false_and, and_false, true_or, or_true, false_or, or_false, not_true_eq_false, not_false_eq_true, decide_true, decide_false, Bool.true_and, Bool.and_true, Bool.false_and, Bool.and_false, Bool.not_true, Bool.not_false, Bool.or_false, Bool.false_or, Bool.or_true, Bool.true_or]
  exact vx_ret (ct_iret E hr hk hS ⟨(by rw [e1]), hcode, hP⟩ dX4_aim_8 (Nat.le_of_ble_eq_true rfl) (Nat.le_of_ble_eq_true rfl))

set_option maxHeartbeats 4000000 in
set_option maxRecDepth 100000 in
theorem c_X4_waited (l : Launch) (g : cG) (F : Nat → Prop) (A : Nat → Nat → Nat) (nb nl nr ne : Nat) (pr : List Nat) (t : TT) (hl9 : l.stackTraces = false) (x : Int32)  : CX l yX4_waited cX4_waited 2 (some .int) 7 111 (4) (24) g F [.ref (A 0 0), .int x] (PD g F A nb nl nr ne pr t)
    (fun v9 H9 => v9 = some (.int (t 40 x.toNatClampNeg)) ∧ (if dcN x nr = 0 then 0 else 1) = 0 ∧ PD g F A nb nl nr ne pr t H9)
    (fun E9 H9 => (0 < (if dcN x nr = 0 then 0 else 1) ∧ [kIOB][(if dcN x nr = 0 then 0 else 1) - 1]? = some E9) ∧ PD g F A nb nl nr ne pr t H9) := by
  refine CX.of (by decide) rfl ?_
  intro p e s m args below meth c E hr hk ht hP ls hl
  have hS : va_S (nF F) s.heap s.heap [] := va_S.rf
  have hx := E.1
  have hb := E.2.1
  have hE_ml := E.2.2.1
  have hown := E.2.2.2.1
  have hts := E.2.2.2.2.1
  have hG := E.2.2.2.2.2
  have hd0 := hP.di.1
  have hl : lv_has ls 2 [(0, .ref (A 0 0)), (1, .int x)] := hl
  refine lv_aload_n hx hb dX4_waited_0 rfl (lv_at hl 0 rfl) ?_
  refine lv_iload_n hx hb dX4_waited_1 rfl (lv_at hl 1 rfl) ?_
  refine cx_V E hS (c_X4_riderNumbered l g F A nb nl nr ne pr t hl9 x) ok_X4_riderNumbered lk_X4_136 hP (hP.recv hG) rfl hl ⟨rfl, rfl⟩ rfl ⟨Nat.le_of_ble_eq_true rfl, Nat.le_of_ble_eq_true rfl⟩ dX4_waited_2 rfl
    (fun E9 ce9 q9 H9 locs hX9 hz9 hS hc9 hv9 hf9 => by
      obtain ⟨⟨rfl, c_1⟩, hP9⟩ := hX9
      exact cx_out ht hk hc9 hv9 hf9 ⟨(by have hcode : (if dcN x nr = 0 then 0 else 1) = 1 := (by simp only [eq_false c_1, if_true, if_false, reduceIte, true_and, and_true, false_and, and_false, true_or, or_true, false_or, or_false, not_true_eq_false, not_false_eq_true, decide_true, decide_false, Bool.true_and, Bool.and_true, Bool.false_and, Bool.and_false, Bool.not_true, Bool.not_false, Bool.or_false, Bool.false_or, Bool.or_true, Bool.true_or]); rw [hcode]; exact ⟨by decide, rfl⟩), hP9⟩ hS (Nat.le_of_ble_eq_true rfl) (Nat.le_of_ble_eq_true rfl)) (fun v9 H locs hv9 hS hz9 => ?_)
  obtain ⟨jx, rfl, hjx, rfl, c_1, hP⟩ := hv9
  have jx_cl : (nI jx).toNatClampNeg = jx := nI_clamp (by omega)
  refine dgn E hP 6 jx hjx kcX3 6 fn_X4_160 dX4_waited_5 (v := .int (t 40 jx)) (kk := ?_)
  have hcode : (if dcN (nI jx) nr = 0 then 0 else 1) = 0 := by simp only [eq_true c_1, jx_cl, if_true, if_false, reduceIte, true_and, and_true, false_and, and_false, true_or, or_true, false_or, or_false, not_true_eq_false, not_false_eq_true, decide_true, decide_false, Bool.true_and, Bool.and_true, Bool.false_and, Bool.and_false, Bool.not_true, Bool.not_false, Bool.or_false, Bool.false_or, Bool.or_true, Bool.true_or]
  have e1 : (t 40 (nI jx).toNatClampNeg) = t 40 jx := by simp only [eq_true c_1, jx_cl, if_true, if_false, reduceIte, true_and, and_true, false_and, and_false, true_or, or_true, false_or, or_false, not_true_eq_false, not_false_eq_true, decide_true, decide_false, Bool.true_and, Bool.and_true, Bool.false_and, Bool.and_false, Bool.not_true, Bool.not_false, Bool.or_false, Bool.false_or, Bool.or_true, Bool.true_or]
  exact vx_ret (ct_iret E hr hk hS ⟨(by rw [e1]), hcode, hP⟩ dX4_waited_8 (Nat.le_of_ble_eq_true rfl) (Nat.le_of_ble_eq_true rfl))

set_option maxHeartbeats 4000000 in
set_option maxRecDepth 100000 in
theorem c_X4_service (l : Launch) (g : cG) (F : Nat → Prop) (A : Nat → Nat → Nat) (nb nl nr ne : Nat) (pr : List Nat) (t : TT) (hl9 : l.stackTraces = false) (x : Int32)  : CX l yX4_service cX4_service 2 (some .char) 7 111 (4) (24) g F [.ref (A 0 0), .int x] (PD g F A nb nl nr ne pr t)
    (fun v9 H9 => v9 = some (.int (t 20 x.toNatClampNeg)) ∧ (if dcN x nl = 0 then 0 else 1) = 0 ∧ PD g F A nb nl nr ne pr t H9)
    (fun E9 H9 => (0 < (if dcN x nl = 0 then 0 else 1) ∧ [kIOB][(if dcN x nl = 0 then 0 else 1) - 1]? = some E9) ∧ PD g F A nb nl nr ne pr t H9) := by
  refine CX.of (by decide) rfl ?_
  intro p e s m args below meth c E hr hk ht hP ls hl
  have hS : va_S (nF F) s.heap s.heap [] := va_S.rf
  have hx := E.1
  have hb := E.2.1
  have hE_ml := E.2.2.1
  have hown := E.2.2.2.1
  have hts := E.2.2.2.2.1
  have hG := E.2.2.2.2.2
  have hd0 := hP.di.1
  have hl : lv_has ls 2 [(0, .ref (A 0 0)), (1, .int x)] := hl
  refine lv_aload_n hx hb dX4_service_0 rfl (lv_at hl 0 rfl) ?_
  refine lv_iload_n hx hb dX4_service_1 rfl (lv_at hl 1 rfl) ?_
  refine cx_V E hS (c_X4_liftNumbered l g F A nb nl nr ne pr t hl9 x) ok_X4_liftNumbered lk_X4_167 hP (hP.recv hG) rfl hl ⟨rfl, rfl⟩ rfl ⟨Nat.le_of_ble_eq_true rfl, Nat.le_of_ble_eq_true rfl⟩ dX4_service_2 rfl
    (fun E9 ce9 q9 H9 locs hX9 hz9 hS hc9 hv9 hf9 => by
      obtain ⟨⟨rfl, c_1⟩, hP9⟩ := hX9
      exact cx_out ht hk hc9 hv9 hf9 ⟨(by have hcode : (if dcN x nl = 0 then 0 else 1) = 1 := (by simp only [eq_false c_1, if_true, if_false, reduceIte, true_and, and_true, false_and, and_false, true_or, or_true, false_or, or_false, not_true_eq_false, not_false_eq_true, decide_true, decide_false, Bool.true_and, Bool.and_true, Bool.false_and, Bool.and_false, Bool.not_true, Bool.not_false, Bool.or_false, Bool.false_or, Bool.or_true, Bool.true_or]); rw [hcode]; exact ⟨by decide, rfl⟩), hP9⟩ hS (Nat.le_of_ble_eq_true rfl) (Nat.le_of_ble_eq_true rfl)) (fun v9 H locs hv9 hS hz9 => ?_)
  obtain ⟨jx, rfl, hjx, rfl, c_1, hP⟩ := hv9
  have jx_cl : (nI jx).toNatClampNeg = jx := nI_clamp (by omega)
  refine dgn E hP 5 jx hjx kcX2 4 fn_X4_171 dX4_service_5 (v := .int (t 20 jx)) (kk := ?_)
  have hcode : (if dcN (nI jx) nl = 0 then 0 else 1) = 0 := by simp only [eq_true c_1, jx_cl, if_true, if_false, reduceIte, true_and, and_true, false_and, and_false, true_or, or_true, false_or, or_false, not_true_eq_false, not_false_eq_true, decide_true, decide_false, Bool.true_and, Bool.and_true, Bool.false_and, Bool.and_false, Bool.not_true, Bool.not_false, Bool.or_false, Bool.false_or, Bool.or_true, Bool.true_or]
  have e1 : (t 20 (nI jx).toNatClampNeg) = t 20 jx := by simp only [eq_true c_1, jx_cl, if_true, if_false, reduceIte, true_and, and_true, false_and, and_false, true_or, or_true, false_or, or_false, not_true_eq_false, not_false_eq_true, decide_true, decide_false, Bool.true_and, Bool.and_true, Bool.false_and, Bool.and_false, Bool.not_true, Bool.not_false, Bool.or_false, Bool.false_or, Bool.or_true, Bool.true_or]
  exact vx_ret (ct_zret E hr (hP.di.2.2.2.2.2.1 jx hjx) hk hS ⟨(by rw [e1]), hcode, hP⟩ dX4_service_8 (Nat.le_of_ble_eq_true rfl) (Nat.le_of_ble_eq_true rfl))

set_option maxHeartbeats 4000000 in
set_option maxRecDepth 100000 in
theorem c_X4_floorOfLift (l : Launch) (g : cG) (F : Nat → Prop) (A : Nat → Nat → Nat) (nb nl nr ne : Nat) (pr : List Nat) (t : TT) (hl9 : l.stackTraces = false) (x : Int32)  : CX l yX4_floorOfLift cX4_floorOfLift 2 (some .int) 7 111 (4) (24) g F [.ref (A 0 0), .int x] (PD g F A nb nl nr ne pr t)
    (fun v9 H9 => v9 = some (.int (t 18 x.toNatClampNeg)) ∧ (if dcN x nl = 0 then 0 else 1) = 0 ∧ PD g F A nb nl nr ne pr t H9)
    (fun E9 H9 => (0 < (if dcN x nl = 0 then 0 else 1) ∧ [kIOB][(if dcN x nl = 0 then 0 else 1) - 1]? = some E9) ∧ PD g F A nb nl nr ne pr t H9) := by
  refine CX.of (by decide) rfl ?_
  intro p e s m args below meth c E hr hk ht hP ls hl
  have hS : va_S (nF F) s.heap s.heap [] := va_S.rf
  have hx := E.1
  have hb := E.2.1
  have hE_ml := E.2.2.1
  have hown := E.2.2.2.1
  have hts := E.2.2.2.2.1
  have hG := E.2.2.2.2.2
  have hd0 := hP.di.1
  have hl : lv_has ls 2 [(0, .ref (A 0 0)), (1, .int x)] := hl
  refine lv_aload_n hx hb dX4_floorOfLift_0 rfl (lv_at hl 0 rfl) ?_
  refine lv_iload_n hx hb dX4_floorOfLift_1 rfl (lv_at hl 1 rfl) ?_
  refine cx_V E hS (c_X4_liftNumbered l g F A nb nl nr ne pr t hl9 x) ok_X4_liftNumbered lk_X4_167 hP (hP.recv hG) rfl hl ⟨rfl, rfl⟩ rfl ⟨Nat.le_of_ble_eq_true rfl, Nat.le_of_ble_eq_true rfl⟩ dX4_floorOfLift_2 rfl
    (fun E9 ce9 q9 H9 locs hX9 hz9 hS hc9 hv9 hf9 => by
      obtain ⟨⟨rfl, c_1⟩, hP9⟩ := hX9
      exact cx_out ht hk hc9 hv9 hf9 ⟨(by have hcode : (if dcN x nl = 0 then 0 else 1) = 1 := (by simp only [eq_false c_1, if_true, if_false, reduceIte, true_and, and_true, false_and, and_false, true_or, or_true, false_or, or_false, not_true_eq_false, not_false_eq_true, decide_true, decide_false, Bool.true_and, Bool.and_true, Bool.false_and, Bool.and_false, Bool.not_true, Bool.not_false, Bool.or_false, Bool.false_or, Bool.or_true, Bool.true_or]); rw [hcode]; exact ⟨by decide, rfl⟩), hP9⟩ hS (Nat.le_of_ble_eq_true rfl) (Nat.le_of_ble_eq_true rfl)) (fun v9 H locs hv9 hS hz9 => ?_)
  obtain ⟨jx, rfl, hjx, rfl, c_1, hP⟩ := hv9
  have jx_cl : (nI jx).toNatClampNeg = jx := nI_clamp (by omega)
  refine dgn E hP 5 jx hjx kcX2 2 fn_X4_148 dX4_floorOfLift_5 (v := .int (t 18 jx)) (kk := ?_)
  have hcode : (if dcN (nI jx) nl = 0 then 0 else 1) = 0 := by simp only [eq_true c_1, jx_cl, if_true, if_false, reduceIte, true_and, and_true, false_and, and_false, true_or, or_true, false_or, or_false, not_true_eq_false, not_false_eq_true, decide_true, decide_false, Bool.true_and, Bool.and_true, Bool.false_and, Bool.and_false, Bool.not_true, Bool.not_false, Bool.or_false, Bool.false_or, Bool.or_true, Bool.true_or]
  have e1 : (t 18 (nI jx).toNatClampNeg) = t 18 jx := by simp only [eq_true c_1, jx_cl, if_true, if_false, reduceIte, true_and, and_true, false_and, and_false, true_or, or_true, false_or, or_false, not_true_eq_false, not_false_eq_true, decide_true, decide_false, Bool.true_and, Bool.and_true, Bool.false_and, Bool.and_false, Bool.not_true, Bool.not_false, Bool.or_false, Bool.false_or, Bool.or_true, Bool.true_or]
  exact vx_ret (ct_iret E hr hk hS ⟨(by rw [e1]), hcode, hP⟩ dX4_floorOfLift_8 (Nat.le_of_ble_eq_true rfl) (Nat.le_of_ble_eq_true rfl))

set_option maxHeartbeats 4000000 in
set_option maxRecDepth 100000 in
theorem c_X4_isUp (l : Launch) (g : cG) (F : Nat → Prop) (A : Nat → Nat → Nat) (nb nl nr ne : Nat) (pr : List Nat) (t : TT) (hl9 : l.stackTraces = false) (x : Int32)  : CX l yX4_isUp cX4_isUp 2 (some .boolean) 7 111 (4) (24) g F [.ref (A 0 0), .int x] (PD g F A nb nl nr ne pr t)
    (fun v9 H9 => v9 = some (.int (t 21 x.toNatClampNeg)) ∧ (if dcN x nl = 0 then 0 else 1) = 0 ∧ PD g F A nb nl nr ne pr t H9)
    (fun E9 H9 => (0 < (if dcN x nl = 0 then 0 else 1) ∧ [kIOB][(if dcN x nl = 0 then 0 else 1) - 1]? = some E9) ∧ PD g F A nb nl nr ne pr t H9) := by
  refine CX.of (by decide) rfl ?_
  intro p e s m args below meth c E hr hk ht hP ls hl
  have hS : va_S (nF F) s.heap s.heap [] := va_S.rf
  have hx := E.1
  have hb := E.2.1
  have hE_ml := E.2.2.1
  have hown := E.2.2.2.1
  have hts := E.2.2.2.2.1
  have hG := E.2.2.2.2.2
  have hd0 := hP.di.1
  have hl : lv_has ls 2 [(0, .ref (A 0 0)), (1, .int x)] := hl
  refine lv_aload_n hx hb dX4_isUp_0 rfl (lv_at hl 0 rfl) ?_
  refine lv_iload_n hx hb dX4_isUp_1 rfl (lv_at hl 1 rfl) ?_
  refine cx_V E hS (c_X4_liftNumbered l g F A nb nl nr ne pr t hl9 x) ok_X4_liftNumbered lk_X4_167 hP (hP.recv hG) rfl hl ⟨rfl, rfl⟩ rfl ⟨Nat.le_of_ble_eq_true rfl, Nat.le_of_ble_eq_true rfl⟩ dX4_isUp_2 rfl
    (fun E9 ce9 q9 H9 locs hX9 hz9 hS hc9 hv9 hf9 => by
      obtain ⟨⟨rfl, c_1⟩, hP9⟩ := hX9
      exact cx_out ht hk hc9 hv9 hf9 ⟨(by have hcode : (if dcN x nl = 0 then 0 else 1) = 1 := (by simp only [eq_false c_1, if_true, if_false, reduceIte, true_and, and_true, false_and, and_false, true_or, or_true, false_or, or_false, not_true_eq_false, not_false_eq_true, decide_true, decide_false, Bool.true_and, Bool.and_true, Bool.false_and, Bool.and_false, Bool.not_true, Bool.not_false, Bool.or_false, Bool.false_or, Bool.or_true, Bool.true_or]); rw [hcode]; exact ⟨by decide, rfl⟩), hP9⟩ hS (Nat.le_of_ble_eq_true rfl) (Nat.le_of_ble_eq_true rfl)) (fun v9 H locs hv9 hS hz9 => ?_)
  obtain ⟨jx, rfl, hjx, rfl, c_1, hP⟩ := hv9
  have jx_cl : (nI jx).toNatClampNeg = jx := nI_clamp (by omega)
  refine dgn E hP 5 jx hjx kcX2 3 fn_X4_180 dX4_isUp_5 (v := .int (t 21 jx)) (kk := ?_)
  have hcode : (if dcN (nI jx) nl = 0 then 0 else 1) = 0 := by simp only [eq_true c_1, jx_cl, if_true, if_false, reduceIte, true_and, and_true, false_and, and_false, true_or, or_true, false_or, or_false, not_true_eq_false, not_false_eq_true, decide_true, decide_false, Bool.true_and, Bool.and_true, Bool.false_and, Bool.and_false, Bool.not_true, Bool.not_false, Bool.or_false, Bool.false_or, Bool.or_true, Bool.true_or]
  have e1 : (t 21 (nI jx).toNatClampNeg) = t 21 jx := by simp only [eq_true c_1, jx_cl, if_true, if_false, reduceIte, true_and, and_true, false_and, and_false, true_or, or_true, false_or, or_false, not_true_eq_false, not_false_eq_true, decide_true, decide_false, Bool.true_and, Bool.and_true, Bool.false_and, Bool.and_false, Bool.not_true, Bool.not_false, Bool.or_false, Bool.false_or, Bool.or_true, Bool.true_or]
  exact vx_ret (ct_zret E hr (hP.di.2.2.2.2.2.2.1 jx hjx) hk hS ⟨(by rw [e1]), hcode, hP⟩ dX4_isUp_8 (Nat.le_of_ble_eq_true rfl) (Nat.le_of_ble_eq_true rfl))

set_option maxHeartbeats 4000000 in
set_option maxRecDepth 100000 in
theorem c_X4_aboard (l : Launch) (g : cG) (F : Nat → Prop) (A : Nat → Nat → Nat) (nb nl nr ne : Nat) (pr : List Nat) (t : TT) (hl9 : l.stackTraces = false) (x : Int32)  : CX l yX4_aboard cX4_aboard 2 (some .int) 7 111 (4) (24) g F [.ref (A 0 0), .int x] (PD g F A nb nl nr ne pr t)
    (fun v9 H9 => v9 = some (.int (dAb t pr x.toNatClampNeg pr.length)) ∧ (if dcN x nl = 0 then 0 else 1) = 0 ∧ PD g F A nb nl nr ne pr t H9)
    (fun E9 H9 => (0 < (if dcN x nl = 0 then 0 else 1) ∧ [kIOB][(if dcN x nl = 0 then 0 else 1) - 1]? = some E9) ∧ PD g F A nb nl nr ne pr t H9) := by
  refine CX.of (by decide) rfl ?_
  intro p e s m args below meth c E hr hk ht hP ls hl
  have hS : va_S (nF F) s.heap s.heap [] := va_S.rf
  have hx := E.1
  have hb := E.2.1
  have hE_ml := E.2.2.1
  have hown := E.2.2.2.1
  have hts := E.2.2.2.2.1
  have hG := E.2.2.2.2.2
  have hd0 := hP.di.1
  have hl : lv_has ls 2 [(0, .ref (A 0 0)), (1, .int x)] := hl
  refine lv_aload_n hx hb dX4_aboard_0 rfl (lv_at hl 0 rfl) ?_
  refine lv_aload_n hx hb dX4_aboard_1 rfl (lv_at hl 0 rfl) ?_
  refine lv_iload_n hx hb dX4_aboard_2 rfl (lv_at hl 1 rfl) ?_
  refine cx_V E hS (c_X4_liftNumbered l g F A nb nl nr ne pr t hl9 x) ok_X4_liftNumbered lk_X4_167 hP (hP.recv hG) rfl hl ⟨rfl, rfl⟩ rfl ⟨Nat.le_of_ble_eq_true rfl, Nat.le_of_ble_eq_true rfl⟩ dX4_aboard_3 rfl
    (fun E9 ce9 q9 H9 locs hX9 hz9 hS hc9 hv9 hf9 => by
      obtain ⟨⟨rfl, c_1⟩, hP9⟩ := hX9
      exact cx_out ht hk hc9 hv9 hf9 ⟨(by have hcode : (if dcN x nl = 0 then 0 else 1) = 1 := (by simp only [eq_false c_1, if_true, if_false, reduceIte, true_and, and_true, false_and, and_false, true_or, or_true, false_or, or_false, not_true_eq_false, not_false_eq_true, decide_true, decide_false, Bool.true_and, Bool.and_true, Bool.false_and, Bool.and_false, Bool.not_true, Bool.not_false, Bool.or_false, Bool.false_or, Bool.or_true, Bool.true_or]); rw [hcode]; exact ⟨by decide, rfl⟩), hP9⟩ hS (Nat.le_of_ble_eq_true rfl) (Nat.le_of_ble_eq_true rfl)) (fun v9 H locs hv9 hS hz9 => ?_)
  obtain ⟨jx, rfl, hjx, rfl, c_1, hP⟩ := hv9
  have jx_cl : (nI jx).toNatClampNeg = jx := nI_clamp (by omega)
  refine ct_V E hS (c_X4_countAboard l g F A nb nl nr ne pr t jx hjx) ok_X4_countAboard lk_X4_183 hP (hP.recv hG) rfl hl ⟨rfl, rfl⟩ rfl ⟨Nat.le_of_ble_eq_true rfl, Nat.le_of_ble_eq_true rfl⟩ dX4_aboard_6 rfl (fun v9 H locs hv9 hS hz9 => ?_)
  obtain ⟨rfl, hP⟩ := hv9
  have hcode : (if dcN (nI jx) nl = 0 then 0 else 1) = 0 := by simp only [eq_true c_1, jx_cl, if_true, if_false, reduceIte, true_and, and_true, false_and, and_false, true_or, or_true, false_or, or_false, not_true_eq_false, not_false_eq_true, decide_true, decide_false, Bool.true_and, Bool.and_true, Bool.false_and, Bool.and_false, Bool.not_true, Bool.not_false, Bool.or_false, Bool.false_or, Bool.or_true, Bool.true_or]
  have e1 : (dAb t pr (nI jx).toNatClampNeg pr.length) = dAb t pr jx pr.length := by simp only [eq_true c_1, jx_cl, if_true, if_false, reduceIte, true_and, and_true, false_and, and_false, true_or, or_true, false_or, or_false, not_true_eq_false, not_false_eq_true, decide_true, decide_false, Bool.true_and, Bool.and_true, Bool.false_and, Bool.and_false, Bool.not_true, Bool.not_false, Bool.or_false, Bool.false_or, Bool.or_true, Bool.true_or]
  exact vx_ret (ct_iret E hr hk hS ⟨(by rw [e1]), hcode, hP⟩ dX4_aboard_9 (Nat.le_of_ble_eq_true rfl) (Nat.le_of_ble_eq_true rfl))
