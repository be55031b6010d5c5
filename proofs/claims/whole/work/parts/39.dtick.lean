set_option maxHeartbeats 4000000 in
set_option maxRecDepth 100000 in
theorem c_X4_letIn (l : Launch) (g : cG) (F : Nat → Prop) (A : Nat → Nat → Nat) (nb nl nr ne : Nat) (pr : List Nat) (t : TT) (q : Nat) (t2 : TT) (e2 : Nat) (a2 : Int32) (hq : q < nl) (hs2 : dLi q (t, pr, ne) pr.length = ((t2, pr, e2), a2)) (hph : ne + dPh (t 13) pr ≤ 95) : CT l yX4_letIn cX4_letIn 5 (some .boolean) 9 236 (2 * (e2 - ne)) (153 * (e2 - ne)) g F [.ref (A 0 0), .ref (A 5 q)] (PD g F A nb nl nr ne pr t) (fun v9 H9 => v9 = some (.int a2) ∧ PD g F A nb nl nr e2 pr t2 H9) := by
  refine CT.of (by decide) rfl ?_
  intro p e s m args below meth c E hr hk hnm hP ls hl
  have hS : va_S (nF F) s.heap s.heap [] := va_S.rf
  have hx := E.1
  have hb := E.2.1
  have hE_ml := E.2.2.1
  have hown := E.2.2.2.1
  have hts := E.2.2.2.2.1
  have hG := E.2.2.2.2.2
  have hd0 := hP.di.1
  have hl : lv_has ls 5 [(0, .ref (A 0 0)), (1, .ref (A 5 q))] := hl
  refine lv_iconst (v := 0) hx hb dX4_letIn_0 (by decide) ?_
  refine lv_istore_n (lv' := [(2, .int 0), (0, .ref (A 0 0)), (1, .ref (A 5 q))]) hx hb dX4_letIn_1 rfl hl (by decide) rfl (fun ls hl => ?_)
  refine lv_iconst (v := 0) hx hb dX4_letIn_2 (by decide) ?_
  refine lv_istore_n (lv' := [(3, .int 0), (2, .int 0), (0, .ref (A 0 0)), (1, .ref (A 5 q))]) hx hb dX4_letIn_3 rfl hl (by decide) rfl (fun ls hl => ?_)
  have LP : ∀ (n9 i : Nat) (ti : TT) (ei : Nat) (a9 : Int32), i ≤ pr.length → pr.length < i + n9 → (dLi q (t, pr, ne) i = ((ti, pr, ei), a9)) → (dOkS (t, pr, ne) (ti, pr, ei)) → ∀ (H : Heap) (locs : List Loc), va_S (nF F) s.heap H locs → PD g F A nb nl nr ei pr ti H → ∀ (ls : Array Slot), lv_has ls 5 [(0, .ref (A 0 0)), (1, .ref (A 5 q)), (2, .int a9), (3, .int (nI i))] → W p l e { frames := 9, cells := 2 * (e2 - ne), slots := 153 * (e2 - ne), locals := 236 } s m args below meth c H locs (2 * (ei - ne)) (153 * (ei - ne)) (MQ below (Qg F (fun v9 H9 => v9 = some (.int a2) ∧ PD g F A nb nl nr e2 pr t2 H9)) args s (2 * (e2 - ne)) (153 * (e2 - ne)) (nF F)) (F0 m 4 ls []) := by
    intro n9
    induction n9 with
    | zero => intro i ti ei a9 hi9 hn9; exact absurd hn9 (by omega)
    | succ n9 ihLP =>
      intro i ti ei a9 hi_LP hn_LP hres hok H locs hS hP ls hl
      have hd1 := hP.di.1
      have hmo : ei ≤ e2 := by have h9 := dLi_le (q := q) (s := (t, pr, ne)) pr.length i hi_LP (Nat.le_refl _); rw [hres, hs2] at h9; exact h9
      have hn0 : ne ≤ ei := hok.1
      have hph2 : ei + dPh (ti 13) pr ≤ ne + dPh (t 13) pr := hok.2.1
      have hcf : 2 * (ei - ne) ≤ 2 * (e2 - ne) ∧ 153 * (ei - ne) ≤ 153 * (e2 - ne) := ⟨by omega, by omega⟩
      have hne9 : ei < 99 := by omega
      refine lv_iload_n hx hb dX4_letIn_4 rfl (lv_at hl 3 rfl) ?_
      refine lv_aload_n hx hb dX4_letIn_5 rfl (lv_at hl 0 rfl) ?_
      refine dg E hP 6 fk_X4_32 dX4_letIn_6 (v := .ref (A 2 3)) (kk := ?_)
      refine d_len E hS hP 3 pr.length hl ⟨rfl, rfl⟩ hcf dX4_letIn_9 (kk := fun locs hS => ?_)
      refine lv_icmp_ge (tgt := 71) hx hb dX4_letIn_12 (by decide) (fun c_1 => ?_) (fun c_1 => ?_)
      · have n_c_1 : pr.length ≤ i := (nI_leI (by omega) (by omega)).mp c_1
        refine lv_iload_n hx hb dX4_letIn_71 rfl (lv_at hl 2 rfl) ?_
        have e1 : a2 = a9 := by 
          have e_i : i = pr.length := by omega
          rw [e_i, hs2] at hres; cases hres; rfl
        exact ct_zret E hr (by have h9 := dLi_01 (q := q) (s := (t, pr, ne)) i; rw [hres] at h9; rcases h9 with h9 | h9 <;> (show narrow _ (.int a9) = .int a9; rw [show a9 = _ from h9]; rfl)) hk hS ⟨(by rw [e1]), (by have e_i : i = pr.length := (by omega); rw [e_i, hs2] at hres; cases hres; exact hP)⟩ dX4_letIn_72 hcf.1 hcf.2
      · have n_c_1 : i < pr.length := Nat.lt_of_not_le (fun h9 => c_1 (nI_le h9 (by omega)))
        refine lv_aload_n hx hb dX4_letIn_15 rfl (lv_at hl 0 rfl) ?_
        refine dg E hP 6 fk_X4_32 dX4_letIn_16 (v := .ref (A 2 3)) (kk := ?_)
        refine lv_iload_n hx hb dX4_letIn_19 rfl (lv_at hl 3 rfl) ?_
        refine d_getP E hS hP i rfl (by omega) hl ⟨rfl, rfl⟩ hcf dX4_letIn_20 dX4_letIn_23 (kk := fun r_2 hr_2 ir_2 pr_2 locs hS => ?_)
        refine lv_astore (lv' := [(4, .ref (A 6 r_2)), (0, .ref (A 0 0)), (1, .ref (A 5 q)), (2, .int a9), (3, .int (nI i))]) hx hb dX4_letIn_26 hl (by decide) rfl (fun ls hl => ?_)
        refine lv_aload hx hb dX4_letIn_28 (lv_at hl 0 rfl) ?_
        refine lv_aload_n hx hb dX4_letIn_30 rfl (lv_at hl 2 rfl) ?_
        refine d_waitsFor E hS hP hr_2 hq hl ⟨rfl, rfl⟩ hcf dX4_letIn_31 (kk := fun locs hS => ?_)
        refine bz_eq (tgt := 65) hx hb dX4_letIn_34 (by decide) (fun c_3 => ?_) (fun c_3 => ?_)
        · refine lv_iinc (v := (nI (i + 1))) (lv' := [(3, .int (nI (i + 1))), (4, .ref (A 6 r_2)), (0, .ref (A 0 0)), (1, .ref (A 5 q)), (2, .int a9)]) hx hb dX4_letIn_65 hl (k := 4) rfl (by rw [nI_succ]; rfl) (by decide) rfl (fun ls hl => ?_)
          refine lv_goto (tgt := 4) hx hb dX4_letIn_68 (by decide) ?_
          have hst : dLi q (t, pr, ne) (i + 1) = ((ti, pr, ei), a9) := by
            rw [show dLi q (t, pr, ne) (i + 1) = dLiS q (pg pr i) (dLi q (t, pr, ne) i).1 (dLi q (t, pr, ne) i).2 from rfl, hres]
            simp only [dLiS, pr_2, eq_false c_1, eq_false c_3, if_true, if_false, reduceIte, true_and, and_true, false_and, and_false, true_or, or_true, false_or, or_false, not_true_eq_false, not_false_eq_true, decide_true, decide_false, Bool.true_and, Bool.and_true, Bool.false_and, Bool.and_false, Bool.not_true, Bool.not_false, Bool.or_false, Bool.false_or, Bool.or_true, Bool.true_or]
          exact (ihLP (i + 1) ti ei a9 (by omega) (by omega) hst (by have h9 := (dLi_ok (q := q) (s := (t, pr, ne)) (i + 1) (by show i + 1 ≤ pr.length; omega)).1; rw [hst] at h9; exact h9) H locs hS hP ls (lv_sub hl [2, 3, 4, 0] rfl))
        · refine lv_aload hx hb dX4_letIn_37 (lv_at hl 0 rfl) ?_
          refine dgn E hP 6 r_2 hr_2 kcX3 2 fn_X4_151 dX4_letIn_39 (v := .int (ti 8 r_2)) (kk := ?_)
          refine lv_aload_n hx hb dX4_letIn_42 rfl (lv_at hl 2 rfl) ?_
          refine dgn E hP 5 q hq kcX2 2 fn_X4_148 dX4_letIn_43 (v := .int (ti 18 q)) (kk := ?_)
          refine lv_icmp_ne (tgt := 65) hx hb dX4_letIn_46 (by decide) (fun c_4 => ?_) (fun c_4 => ?_)
          · refine lv_iinc (v := (nI (i + 1))) (lv' := [(3, .int (nI (i + 1))), (4, .ref (A 6 r_2)), (0, .ref (A 0 0)), (1, .ref (A 5 q)), (2, .int a9)]) hx hb dX4_letIn_65 hl (k := 4) rfl (by rw [nI_succ]; rfl) (by decide) rfl (fun ls hl => ?_)
            refine lv_goto (tgt := 4) hx hb dX4_letIn_68 (by decide) ?_
            have hst : dLi q (t, pr, ne) (i + 1) = ((ti, pr, ei), a9) := by
              rw [show dLi q (t, pr, ne) (i + 1) = dLiS q (pg pr i) (dLi q (t, pr, ne) i).1 (dLi q (t, pr, ne) i).2 from rfl, hres]
              simp only [dLiS, pr_2, eq_false c_1, eq_true c_3, eq_false c_4, if_true, if_false, reduceIte, true_and, and_true, false_and, and_false, true_or, or_true, false_or, or_false, not_true_eq_false, not_false_eq_true, decide_true, decide_false, Bool.true_and, Bool.and_true, Bool.false_and, Bool.and_false, Bool.not_true, Bool.not_false, Bool.or_false, Bool.false_or, Bool.or_true, Bool.true_or]
            exact (ihLP (i + 1) ti ei a9 (by omega) (by omega) hst (by have h9 := (dLi_ok (q := q) (s := (t, pr, ne)) (i + 1) (by show i + 1 ≤ pr.length; omega)).1; rw [hst] at h9; exact h9) H locs hS hP ls (lv_sub hl [2, 3, 4, 0] rfl))
          · refine lv_aload_n hx hb dX4_letIn_49 rfl (lv_at hl 1 rfl) ?_
            refine lv_aload_n hx hb dX4_letIn_50 rfl (lv_at hl 2 rfl) ?_
            refine ct_V E hS (c_X4_hasRoom l g F A nb nl nr ei pr ti q hq) ok_X4_hasRoom lk_X4_291 hP (hP.recv hG) rfl hl ⟨rfl, rfl⟩ rfl hcf dX4_letIn_51 rfl (fun v9 H locs hv9 hS hz9 => ?_)
            obtain ⟨rfl, hP⟩ := hv9
            refine bz_eq (tgt := 65) hx hb dX4_letIn_54 (by decide) (fun c_5 => ?_) (fun c_5 => ?_)
            · refine lv_iinc (v := (nI (i + 1))) (lv' := [(3, .int (nI (i + 1))), (4, .ref (A 6 r_2)), (0, .ref (A 0 0)), (1, .ref (A 5 q)), (2, .int a9)]) hx hb dX4_letIn_65 hl (k := 4) rfl (by rw [nI_succ]; rfl) (by decide) rfl (fun ls hl => ?_)
              refine lv_goto (tgt := 4) hx hb dX4_letIn_68 (by decide) ?_
              have hst : dLi q (t, pr, ne) (i + 1) = ((ti, pr, ei), a9) := by
                rw [show dLi q (t, pr, ne) (i + 1) = dLiS q (pg pr i) (dLi q (t, pr, ne) i).1 (dLi q (t, pr, ne) i).2 from rfl, hres]
                simp only [dLiS, pr_2, eq_false c_1, eq_true c_3, eq_true c_4, eq_false c_5, if_true, if_false, reduceIte, true_and, and_true, false_and, and_false, true_or, or_true, false_or, or_false, not_true_eq_false, not_false_eq_true, decide_true, decide_false, Bool.true_and, Bool.and_true, Bool.false_and, Bool.and_false, Bool.not_true, Bool.not_false, Bool.or_false, Bool.false_or, Bool.or_true, Bool.true_or]
              exact (ihLP (i + 1) ti ei a9 (by omega) (by omega) hst (by have h9 := (dLi_ok (q := q) (s := (t, pr, ne)) (i + 1) (by show i + 1 ≤ pr.length; omega)).1; rw [hst] at h9; exact h9) H locs hS hP ls (lv_sub hl [2, 3, 4, 0] rfl))
            · have hst : dLi q (t, pr, ne) (i + 1) = ((dAbo ti ei r_2, pr, ei + 1), 1) := by
                rw [show dLi q (t, pr, ne) (i + 1) = dLiS q (pg pr i) (dLi q (t, pr, ne) i).1 (dLi q (t, pr, ne) i).2 from rfl, hres]
                simp only [dLiS, pr_2, eq_false c_1, eq_true c_3, eq_true c_4, eq_true c_5, if_true, if_false, reduceIte, true_and, and_true, false_and, and_false, true_or, or_true, false_or, or_false, not_true_eq_false, not_false_eq_true, decide_true, decide_false, Bool.true_and, Bool.and_true, Bool.false_and, Bool.and_false, Bool.not_true, Bool.not_false, Bool.or_false, Bool.false_or, Bool.or_true, Bool.true_or]
              have hmo2 : ei + 1 ≤ e2 := by have h9 := dLi_le (q := q) (s := (t, pr, ne)) pr.length (i + 1) (by omega) (Nat.le_refl _); rw [hst, hs2] at h9; exact h9
              have hcf2 : 2 * (ei - ne) + 2 ≤ 2 * (e2 - ne) ∧ 153 * (ei - ne) + 153 ≤ 153 * (e2 - ne) := ⟨by omega, by omega⟩
              refine lv_aload_n hx hb dX4_letIn_57 rfl (lv_at hl 1 rfl) ?_
              refine lv_aload hx hb dX4_letIn_58 (lv_at hl 0 rfl) ?_
              refine ct_V E hS (c_X4_goAboard l g F A nb nl nr ei pr ti r_2 hr_2 hne9) ok_X4_goAboard lk_X4_294 hP (hP.recv hG) rfl hl ⟨rfl, rfl⟩ rfl hcf2 dX4_letIn_60 rfl (fun v9 H locs hv9 hS hz9 => ?_)
              obtain ⟨rfl, hP⟩ := hv9
              refine lv_iconst (v := 1) hx hb dX4_letIn_63 (by decide) ?_
              refine lv_istore_n (lv' := [(2, .int 1), (4, .ref (A 6 r_2)), (0, .ref (A 0 0)), (1, .ref (A 5 q)), (3, .int (nI i))]) hx hb dX4_letIn_64 rfl hl (by decide) rfl (fun ls hl => ?_)
              refine lv_iinc (v := (nI (i + 1))) (lv' := [(3, .int (nI (i + 1))), (2, .int 1), (4, .ref (A 6 r_2)), (0, .ref (A 0 0)), (1, .ref (A 5 q))]) hx hb dX4_letIn_65 hl (k := 4) rfl (by rw [nI_succ]; rfl) (by decide) rfl (fun ls hl => ?_)
              refine lv_goto (tgt := 4) hx hb dX4_letIn_68 (by decide) ?_
              exact W.widen (by show 2 * (ei - ne) + 2 ≤ 2 * (ei + 1 - ne); omega) (by show 153 * (ei - ne) + 153 ≤ 153 * (ei + 1 - ne); omega) (ihLP (i + 1) (dAbo ti ei r_2) (ei + 1) 1 (by omega) (by omega) hst (by have h9 := (dLi_ok (q := q) (s := (t, pr, ne)) (i + 1) (by show i + 1 ≤ pr.length; omega)).1; rw [hst] at h9; exact h9) H locs hS hP ls (lv_sub hl [3, 4, 1, 0] rfl))
  exact W.widen (Nat.zero_le _) (Nat.zero_le _) (LP (pr.length + 1) 0 t ne 0 (Nat.zero_le _) (by omega) rfl dOkS.rf _ _ hS hP ls (lv_sub hl [2, 3, 1, 0] rfl))

set_option maxHeartbeats 4000000 in
set_option maxRecDepth 100000 in
theorem c_X4_runLift (l : Launch) (g : cG) (F : Nat → Prop) (A : Nat → Nat → Nat) (nb nl nr ne : Nat) (pr : List Nat) (t : TT) (q : Nat) (s2 : DS) (hq : q < nl) (hs2 : s2 = dRun q (t, pr, ne)) (hph : ne + dPh (t 13) pr ≤ 95) : CT l yX4_runLift cX4_runLift 4 none 10 261 (2 * (s2.2.2 - ne)) (153 * (s2.2.2 - ne)) g F [.ref (A 0 0), .ref (A 5 q)] (PD g F A nb nl nr ne pr t) (fun v9 H9 => v9 = none ∧ PD g F A nb nl nr s2.2.2 s2.2.1 s2.1 H9) := by
  refine CT.of (by decide) rfl ?_
  intro p e s m args below meth c E hr hk hnm hP ls hl
  have hS : va_S (nF F) s.heap s.heap [] := va_S.rf
  have hx := E.1
  have hb := E.2.1
  have hE_ml := E.2.2.1
  have hown := E.2.2.2.1
  have hts := E.2.2.2.2.1
  have hG := E.2.2.2.2.2
  have hd0 := hP.di.1
  have hl : lv_has ls 4 [(0, .ref (A 0 0)), (1, .ref (A 5 q))] := hl
  refine lv_aload_n hx hb dX4_runLift_0 rfl (lv_at hl 1 rfl) ?_
  refine dgn E hP 5 q hq kcX2 4 fn_X4_171 dX4_runLift_1 (v := .int (t 20 q)) (kk := ?_)
  refine lv_bipush (v := 99) hx hb dX4_runLift_4 (by decide) ?_
  refine lv_icmp_ne (tgt := 14) hx hb dX4_runLift_6 (by decide) (fun c_1 => ?_) (fun c_1 => ?_)
  · obtain ⟨sA, hsA⟩ : ∃ x, x = dLo q pr.length (t, pr, ne) := ⟨_, rfl⟩
    have hAo := dLo_ok (q := q) pr.length (t, pr, ne) (Nat.le_refl _)
    rw [← hsA] at hAo
    have hA1 : ne ≤ sA.2.2 := hAo.1
    have hA2 : sA.2.2 + dPh (sA.1 13) sA.2.1 ≤ ne + dPh (t 13) pr := hAo.2.1
    obtain ⟨tB, eB, aB, hsB⟩ := dLi_ex (q := q) (t := sA.1) (pr := sA.2.1) (ne := sA.2.2)
    have hsB2 : dLi q sA sA.2.1.length = ((tB, sA.2.1, eB), aB) := hsB
    have hBo := (dLi_ok (q := q) (s := sA) sA.2.1.length (Nat.le_refl _)).1
    rw [hsB2] at hBo
    have hB1 : sA.2.2 ≤ eB := hBo.1
    have hrn : s2.2.2 = eB := by
      rw [hs2]; simp only [dRun, ← hsA, hsB2, eq_false c_1, if_true, if_false, reduceIte, true_and, and_true, false_and, and_false, true_or, or_true, false_or, or_false, not_true_eq_false, not_false_eq_true, decide_true, decide_false, Bool.true_and, Bool.and_true, Bool.false_and, Bool.and_false, Bool.not_true, Bool.not_false, Bool.or_false, Bool.false_or, Bool.or_true, Bool.true_or]
      split <;> rfl
    have hcA : 0 + 2 * (sA.2.2 - ne) ≤ 2 * (s2.2.2 - ne) ∧ 0 + 153 * (sA.2.2 - ne) ≤ 153 * (s2.2.2 - ne) := ⟨by omega, by omega⟩
    have hcB : 0 + 2 * (sA.2.2 - ne) + 2 * (eB - sA.2.2) ≤ 2 * (s2.2.2 - ne) ∧ 0 + 153 * (sA.2.2 - ne) + 153 * (eB - sA.2.2) ≤ 153 * (s2.2.2 - ne) := ⟨by omega, by omega⟩
    refine lv_aload_n hx hb dX4_runLift_14 rfl (lv_at hl 0 rfl) ?_
    refine lv_aload_n hx hb dX4_runLift_15 rfl (lv_at hl 1 rfl) ?_
    refine ct_V E hS (c_X4_letOut l g F A nb nl nr ne pr t q sA hq hsA hph) ok_X4_letOut lk_X4_275 hP (hP.recv hG) rfl hl ⟨rfl, rfl⟩ rfl hcA dX4_runLift_16 rfl (fun v9 H locs hv9 hS hz9 => ?_)
    obtain ⟨rfl, hP⟩ := hv9
    refine lv_istore_n (lv' := [(2, .int (b2i (sA.2.1.length < pr.length))), (0, .ref (A 0 0)), (1, .ref (A 5 q))]) hx hb dX4_runLift_19 rfl hl (by decide) rfl (fun ls hl => ?_)
    refine lv_aload_n hx hb dX4_runLift_20 rfl (lv_at hl 1 rfl) ?_
    refine lv_aload_n hx hb dX4_runLift_21 rfl (lv_at hl 2 rfl) ?_
    refine ct_V E hS (c_X4_letIn l g F A nb nl nr sA.2.2 sA.2.1 sA.1 q tB eB aB hq hsB (by omega)) ok_X4_letIn lk_X4_278 hP (hP.recv hG) rfl hl ⟨rfl, rfl⟩ rfl hcB dX4_runLift_22 rfl (fun v9 H locs hv9 hS hz9 => ?_)
    obtain ⟨rfl, hP⟩ := hv9
    refine lv_istore_n (lv' := [(3, .int aB), (2, .int (b2i (sA.2.1.length < pr.length))), (0, .ref (A 0 0)), (1, .ref (A 5 q))]) hx hb dX4_runLift_25 rfl hl (by decide) rfl (fun ls hl => ?_)
    refine lv_iload_n hx hb dX4_runLift_26 rfl (lv_at hl 1 rfl) ?_
    refine bz_ne (tgt := 34) hx hb dX4_runLift_27 (by decide) (fun c_2 => ?_) (fun c_2 => ?_)
    · refine lv_aload_n hx hb dX4_runLift_34 rfl (lv_at hl 2 rfl) ?_
      refine lv_dup hx hb dX4_runLift_35 rfl ?_
      refine dg E hP 10 fk_X4_45 dX4_runLift_36 (v := .int (tB 24 0)) (kk := ?_)
      refine lv_iconst (v := 1) hx hb dX4_runLift_39 (by decide) ?_
      refine lv_iadd hx hb dX4_runLift_40 ?_
      refine dp E hS hP 10 24 fk_X4_45 hs_open hP.di.p dX4_runLift_41 (kk := fun H locs hS hP => ?_)
      refine lv_goto (tgt := 52) hx hb dX4_runLift_44 (by decide) ?_
      have hrun : s2 = ((tu tB 24 0 ((tB 24 0) + 1)), sA.2.1, eB) := by rw [hs2]; simp only [dRun, ← hsA, hsB2, eq_false c_1, eq_true c_2, if_true, if_false, reduceIte, true_and, and_true, false_and, and_false, true_or, or_true, false_or, or_false, not_true_eq_false, not_false_eq_true, decide_true, decide_false, Bool.true_and, Bool.and_true, Bool.false_and, Bool.and_false, Bool.not_true, Bool.not_false, Bool.or_false, Bool.false_or, Bool.or_true, Bool.true_or]
      exact ct_vret E hr hk hS ⟨rfl, (by rw [hrun]; exact hP)⟩ dX4_runLift_52 hcB.1 hcB.2
    · refine lv_iload_n hx hb dX4_runLift_30 rfl (lv_at hl 0 rfl) ?_
      refine lv_if_eq (tgt := 47) hx hb dX4_runLift_31 (by decide) (fun c_3 => ?_) (fun c_3 => ?_)
      · refine lv_aload_n hx hb dX4_runLift_47 rfl (lv_at hl 2 rfl) ?_
        refine lv_aload_n hx hb dX4_runLift_48 rfl (lv_at hl 3 rfl) ?_
        refine ct_V E hS (c_X4_move l g F A nb nl nr eB sA.2.1 tB q hq) ok_X4_move lk_X4_281 hP (hP.recv hG) rfl hl ⟨rfl, rfl⟩ rfl hcB dX4_runLift_49 rfl (fun v9 H locs hv9 hS hz9 => ?_)
        obtain ⟨rfl, hP⟩ := hv9
        have hrun : s2 = ((dMove tB sA.2.1 q), sA.2.1, eB) := by rw [hs2]; simp only [dRun, ← hsA, hsB2, eq_false c_1, eq_false c_2, eq_true c_3, if_true, if_false, reduceIte, true_and, and_true, false_and, and_false, true_or, or_true, false_or, or_false, not_true_eq_false, not_false_eq_true, decide_true, decide_false, Bool.true_and, Bool.and_true, Bool.false_and, Bool.and_false, Bool.not_true, Bool.not_false, Bool.or_false, Bool.false_or, Bool.or_true, Bool.true_or]
        exact ct_vret E hr hk hS ⟨rfl, (by rw [hrun]; exact hP)⟩ dX4_runLift_52 hcB.1 hcB.2
      · refine lv_aload_n hx hb dX4_runLift_34 rfl (lv_at hl 2 rfl) ?_
        refine lv_dup hx hb dX4_runLift_35 rfl ?_
        refine dg E hP 10 fk_X4_45 dX4_runLift_36 (v := .int (tB 24 0)) (kk := ?_)
        refine lv_iconst (v := 1) hx hb dX4_runLift_39 (by decide) ?_
        refine lv_iadd hx hb dX4_runLift_40 ?_
        refine dp E hS hP 10 24 fk_X4_45 hs_open hP.di.p dX4_runLift_41 (kk := fun H locs hS hP => ?_)
        refine lv_goto (tgt := 52) hx hb dX4_runLift_44 (by decide) ?_
        have hrun : s2 = ((tu tB 24 0 ((tB 24 0) + 1)), sA.2.1, eB) := by rw [hs2]; simp only [dRun, ← hsA, hsB2, eq_false c_1, eq_false c_2, eq_false c_3, if_true, if_false, reduceIte, true_and, and_true, false_and, and_false, true_or, or_true, false_or, or_false, not_true_eq_false, not_false_eq_true, decide_true, decide_false, Bool.true_and, Bool.and_true, Bool.false_and, Bool.and_false, Bool.not_true, Bool.not_false, Bool.or_false, Bool.false_or, Bool.or_true, Bool.true_or]
        exact ct_vret E hr hk hS ⟨rfl, (by rw [hrun]; exact hP)⟩ dX4_runLift_52 hcB.1 hcB.2
  · have hrun : dRun q (t, pr, ne) = (dClean t q, pr, ne) := by simp only [dRun, eq_true c_1, if_true, if_false, reduceIte, true_and, and_true, false_and, and_false, true_or, or_true, false_or, or_false, not_true_eq_false, not_false_eq_true, decide_true, decide_false, Bool.true_and, Bool.and_true, Bool.false_and, Bool.and_false, Bool.not_true, Bool.not_false, Bool.or_false, Bool.false_or, Bool.or_true, Bool.true_or]
    have hz2 : s2.2.2 = ne := by rw [hs2, hrun]
    refine lv_aload_n hx hb dX4_runLift_9 rfl (lv_at hl 1 rfl) ?_
    refine d_clean E hS hP hq hl ⟨rfl, rfl⟩ ⟨Nat.zero_le _, Nat.zero_le _⟩ dX4_runLift_10 (kk := fun H locs hS hP => ?_)
    exact ct_vret E hr hk hS ⟨rfl, (by rw [hs2, hrun]; exact hP)⟩ dX4_runLift_13 (Nat.zero_le _) (Nat.zero_le _)

set_option maxHeartbeats 4000000 in
set_option maxRecDepth 100000 in
theorem c_X4_sendAllToLobby (l : Launch) (g : cG) (F : Nat → Prop) (A : Nat → Nat → Nat) (nb nl nr ne : Nat) (pr : List Nat) (t : TT) (s2 : DS) (hs2 : s2 = dSe pr.length (t, pr, ne)) (hph : ne + dPh (t 13) pr ≤ 95) : CT l yX4_sendAllToLobby cX4_sendAllToLobby 3 none 9 237 (2 * (s2.2.2 - ne)) (153 * (s2.2.2 - ne)) g F [.ref (A 0 0)] (PD g F A nb nl nr ne pr t) (fun v9 H9 => v9 = none ∧ PD g F A nb nl nr s2.2.2 s2.2.1 s2.1 H9) := by
  refine CT.of (by decide) rfl ?_
  intro p e s m args below meth c E hr hk hnm hP ls hl
  have hS : va_S (nF F) s.heap s.heap [] := va_S.rf
  have hx := E.1
  have hb := E.2.1
  have hE_ml := E.2.2.1
  have hown := E.2.2.2.1
  have hts := E.2.2.2.2.1
  have hG := E.2.2.2.2.2
  have hd0 := hP.di.1
  have hl : lv_has ls 3 [(0, .ref (A 0 0))] := hl
  refine lv_aload_n hx hb dX4_sendAllToLobby_0 rfl (lv_at hl 0 rfl) ?_
  refine dg E hP 6 fk_X4_32 dX4_sendAllToLobby_1 (v := .ref (A 2 3)) (kk := ?_)
  refine d_len E hS hP 3 pr.length hl ⟨rfl, rfl⟩ ⟨Nat.zero_le _, Nat.zero_le _⟩ dX4_sendAllToLobby_4 (kk := fun locs hS => ?_)
  refine lv_iconst (v := 1) hx hb dX4_sendAllToLobby_7 (by decide) ?_
  refine lv_isub hx hb dX4_sendAllToLobby_8 ?_
  refine lv_istore_n (lv' := [(1, .int ((nI pr.length) - 1)), (0, .ref (A 0 0))]) hx hb dX4_sendAllToLobby_9 rfl hl (by decide) rfl (fun ls hl => ?_)
  have LP : ∀ (n9 i : Nat) (k : Nat) (sd : DS), i ≤ pr.length → pr.length < i + n9 → (k + i = pr.length) → (s2 = dSe k sd) → (k ≤ sd.2.1.length) → (dOkS (t, pr, ne) sd) → ∀ (H : Heap) (locs : List Loc), va_S (nF F) s.heap H locs → PD g F A nb nl nr sd.2.2 sd.2.1 sd.1 H → ∀ (ls : Array Slot), lv_has ls 3 [(0, .ref (A 0 0)), (1, .int (nI k - 1))] → W p l e { frames := 9, cells := 2 * (s2.2.2 - ne), slots := 153 * (s2.2.2 - ne), locals := 237 } s m args below meth c H locs (2 * (sd.2.2 - ne)) (153 * (sd.2.2 - ne)) (MQ below (Qg F (fun v9 H9 => v9 = none ∧ PD g F A nb nl nr s2.2.2 s2.2.1 s2.1 H9)) args s (2 * (s2.2.2 - ne)) (153 * (s2.2.2 - ne)) (nF F)) (F0 m 10 ls []) := by
    intro n9
    induction n9 with
    | zero => intro i k sd hi9 hn9; exact absurd hn9 (by omega)
    | succ n9 ihLP =>
      intro i k sd hi_LP hn_LP hki hres hkl hok H locs hS hP ls hl
      have hd1 := hP.di.1
      have hmo : sd.2.2 ≤ s2.2.2 := by rw [hres]; exact (dSe_ok k sd hkl).1
      have hn0 : ne ≤ sd.2.2 := hok.1
      have hph2 : sd.2.2 + dPh (sd.1 13) sd.2.1 ≤ ne + dPh (t 13) pr := hok.2.1
      have hcf : 2 * (sd.2.2 - ne) ≤ 2 * (s2.2.2 - ne) ∧ 153 * (sd.2.2 - ne) ≤ 153 * (s2.2.2 - ne) := ⟨by omega, by omega⟩
      have hne9 : sd.2.2 < 99 := by omega
      refine lv_iload_n hx hb dX4_sendAllToLobby_10 rfl (lv_at hl 1 rfl) ?_
      refine lv_if_lt (tgt := 73) hx hb dX4_sendAllToLobby_11 (by decide) (fun c_1 => ?_) (fun c_1 => ?_)
      · have hk0 : k = 0 := pk_pred0 (by omega) c_1
        subst hk0
        have hfin : s2 = sd := hres
        exact ct_vret E hr hk hS ⟨rfl, (by rw [hfin]; exact hP)⟩ dX4_sendAllToLobby_73 hcf.1 hcf.2
      · obtain ⟨j, rfl⟩ : ∃ j, k = j + 1 := ⟨k - 1, by have h9 : k ≠ 0 := (fun h9 => c_1 (by rw [h9]; decide)); omega⟩
        rw [pk_predS] at hl
        refine lv_aload_n hx hb dX4_sendAllToLobby_14 rfl (lv_at hl 0 rfl) ?_
        refine dg E hP 6 fk_X4_32 dX4_sendAllToLobby_15 (v := .ref (A 2 3)) (kk := ?_)
        refine lv_iload_n hx hb dX4_sendAllToLobby_18 rfl (lv_at hl 1 rfl) ?_
        refine d_getP E hS hP j rfl (by omega) hl ⟨rfl, rfl⟩ hcf dX4_sendAllToLobby_19 dX4_sendAllToLobby_22 (kk := fun r_2 hr_2 ir_2 pr_2 locs hS => ?_)
        refine lv_astore_n (lv' := [(2, .ref (A 6 r_2)), (0, .ref (A 0 0)), (1, .int (nI j))]) hx hb dX4_sendAllToLobby_25 rfl hl (by decide) rfl (fun ls hl => ?_)
        refine lv_aload_n hx hb dX4_sendAllToLobby_26 rfl (lv_at hl 0 rfl) ?_
        refine lv_iconst (v := 0) hx hb dX4_sendAllToLobby_27 (by decide) ?_
        refine dpn E hS hP 6 r_2 hr_2 kcX3 3 9 fn_X4_152 hs_9 hP.di.p rfl rfl dX4_sendAllToLobby_28 (kk := fun H locs hS hP => ?_)
        refine lv_aload_n hx hb dX4_sendAllToLobby_31 rfl (lv_at hl 0 rfl) ?_
        refine dgn E hP 6 r_2 hr_2 kcX3 4 fn_X4_140 dX4_sendAllToLobby_32 (v := .int (sd.1 13 r_2)) (hv := congrArg (fun z => some (Value.int z)) (by simp [tu])) (kk := ?_)
        refine lv_bipush (v := 119) hx hb dX4_sendAllToLobby_35 (by decide) ?_
        refine lv_icmp_ne (tgt := 67) hx hb dX4_sendAllToLobby_37 (by decide) (fun c_3 => ?_) (fun c_3 => ?_)
        · refine lv_iinc (v := (nI j) + (-1)) (lv' := [(1, .int ((nI j) + (-1))), (2, .ref (A 6 r_2)), (0, .ref (A 0 0))]) hx hb dX4_sendAllToLobby_67 hl (k := 2) rfl (by rfl) (by decide) rfl (fun ls hl => ?_)
          refine lv_goto (tgt := 10) hx hb dX4_sendAllToLobby_70 (by decide) ?_
          rw [pk_pred] at hl
          have hst : dSeS j sd = ((tu sd.1 9 r_2 0), sd.2) := by simp only [dSeS, pr_2, eq_false c_1, eq_false c_3, if_true, if_false, reduceIte, true_and, and_true, false_and, and_false, true_or, or_true, false_or, or_false, not_true_eq_false, not_false_eq_true, decide_true, decide_false, Bool.true_and, Bool.and_true, Bool.false_and, Bool.and_false, Bool.not_true, Bool.not_false, Bool.or_false, Bool.false_or, Bool.or_true, Bool.true_or]
          exact (ihLP (i + 1) j ((tu sd.1 9 r_2 0), sd.2) (by omega) (by omega) (by omega) (by rw [hres]; show dSe j (dSeS j sd) = _; rw [hst]) (by have h9 := dSeS_len (k := j) (s := sd) (by omega); rw [hst] at h9; exact h9) (by have h9 := hok.tr (dSeS_ok (k := j) (s := sd) (by omega)); rw [hst] at h9; exact h9) H locs hS hP ls (lv_sub hl [2, 0] rfl))
        · refine lv_aload_n hx hb dX4_sendAllToLobby_40 rfl (lv_at hl 0 rfl) ?_
          refine lv_null hx hb dX4_sendAllToLobby_41 ?_
          refine dpn E hS hP 6 r_2 hr_2 kcX3 5 10 (x := (-1)) fn_X4_144 hs_10n (hP.di.p10 (Or.inl rfl)) rfl rfl dX4_sendAllToLobby_42 (kk := fun H locs hS hP => ?_)
          refine lv_aload_n hx hb dX4_sendAllToLobby_45 rfl (lv_at hl 0 rfl) ?_
          refine dgn E hP 6 r_2 hr_2 kcX3 2 fn_X4_151 dX4_sendAllToLobby_46 (v := .int (sd.1 8 r_2)) (hv := congrArg (fun z => some (Value.int z)) (by simp [tu])) (kk := ?_)
          refine lv_if_ne (tgt := 67) hx hb dX4_sendAllToLobby_49 (by decide) (fun c_4 => ?_) (fun c_4 => ?_)
          · refine lv_iinc (v := (nI j) + (-1)) (lv' := [(1, .int ((nI j) + (-1))), (2, .ref (A 6 r_2)), (0, .ref (A 0 0))]) hx hb dX4_sendAllToLobby_67 hl (k := 2) rfl (by rfl) (by decide) rfl (fun ls hl => ?_)
            refine lv_goto (tgt := 10) hx hb dX4_sendAllToLobby_70 (by decide) ?_
            rw [pk_pred] at hl
            have hst : dSeS j sd = ((tu (tu sd.1 9 r_2 0) 10 r_2 (-1)), sd.2) := by simp only [dSeS, pr_2, eq_false c_1, eq_true c_3, eq_false c_4, if_true, if_false, reduceIte, true_and, and_true, false_and, and_false, true_or, or_true, false_or, or_false, not_true_eq_false, not_false_eq_true, decide_true, decide_false, Bool.true_and, Bool.and_true, Bool.false_and, Bool.and_false, Bool.not_true, Bool.not_false, Bool.or_false, Bool.false_or, Bool.or_true, Bool.true_or]
            exact (ihLP (i + 1) j ((tu (tu sd.1 9 r_2 0) 10 r_2 (-1)), sd.2) (by omega) (by omega) (by omega) (by rw [hres]; show dSe j (dSeS j sd) = _; rw [hst]) (by have h9 := dSeS_len (k := j) (s := sd) (by omega); rw [hst] at h9; exact h9) (by have h9 := hok.tr (dSeS_ok (k := j) (s := sd) (by omega)); rw [hst] at h9; exact h9) H locs hS hP ls (lv_sub hl [2, 0] rfl))
          · have hst : dSeS j sd = (dFin (tu (tu sd.1 9 r_2 0) 10 r_2 (-1)) sd.2.2 r_2 0, sd.2.1.eraseIdx j, sd.2.2 + 1) := by simp only [dSeS, pr_2, eq_false c_1, eq_true c_3, eq_true c_4, if_true, if_false, reduceIte, true_and, and_true, false_and, and_false, true_or, or_true, false_or, or_false, not_true_eq_false, not_false_eq_true, decide_true, decide_false, Bool.true_and, Bool.and_true, Bool.false_and, Bool.and_false, Bool.not_true, Bool.not_false, Bool.or_false, Bool.false_or, Bool.or_true, Bool.true_or]
            have hmo2 : sd.2.2 + 1 ≤ s2.2.2 := by
              have h9 := (dSe_ok j _ (dSeS_len (k := j) (s := sd) (by omega))).1
              rw [hres]
              show _ ≤ (dSe j (dSeS j sd)).2.2
              rw [hst] at h9 ⊢
              exact h9
            have hcf2 : 2 * (sd.2.2 - ne) + 2 ≤ 2 * (s2.2.2 - ne) ∧ 153 * (sd.2.2 - ne) + 153 ≤ 153 * (s2.2.2 - ne) := ⟨by omega, by omega⟩
            refine lv_aload_n hx hb dX4_sendAllToLobby_52 rfl (lv_at hl 1 rfl) ?_
            refine dg E hP 6 fk_X4_32 dX4_sendAllToLobby_53 (v := .ref (A 2 3)) (kk := ?_)
            refine lv_iload_n hx hb dX4_sendAllToLobby_56 rfl (lv_at hl 2 rfl) ?_
            refine d_remP E hS hP j rfl (by omega) hl ⟨rfl, rfl⟩ hcf dX4_sendAllToLobby_57 (kk := fun H locs hS hP => ?_)
            refine lv_pop hx hb dX4_sendAllToLobby_60 rfl ?_
            refine lv_aload_n hx hb dX4_sendAllToLobby_61 rfl (lv_at hl 1 rfl) ?_
            refine lv_aload_n hx hb dX4_sendAllToLobby_62 rfl (lv_at hl 0 rfl) ?_
            refine lv_iconst (v := 0) hx hb dX4_sendAllToLobby_63 (by decide) ?_
            refine ct_V E hS (c_X4_finish l g F A nb nl nr sd.2.2 (sd.2.1.eraseIdx j) (tu (tu sd.1 9 r_2 0) 10 r_2 (-1)) r_2 0 hr_2 hne9) ok_X4_finish lk_X4_287 hP (hP.recv hG) rfl hl ⟨rfl, rfl⟩ rfl hcf2 dX4_sendAllToLobby_64 rfl (fun v9 H locs hv9 hS hz9 => ?_)
            obtain ⟨rfl, hP⟩ := hv9
            refine lv_iinc (v := (nI j) + (-1)) (lv' := [(1, .int ((nI j) + (-1))), (2, .ref (A 6 r_2)), (0, .ref (A 0 0))]) hx hb dX4_sendAllToLobby_67 hl (k := 2) rfl (by rfl) (by decide) rfl (fun ls hl => ?_)
            refine lv_goto (tgt := 10) hx hb dX4_sendAllToLobby_70 (by decide) ?_
            rw [pk_pred] at hl
            exact W.widen (by show 2 * (sd.2.2 - ne) + 2 ≤ 2 * (sd.2.2 + 1 - ne); omega) (by show 153 * (sd.2.2 - ne) + 153 ≤ 153 * (sd.2.2 + 1 - ne); omega) (ihLP (i + 1) j ((dFin (tu (tu sd.1 9 r_2 0) 10 r_2 (-1)) sd.2.2 r_2 0), sd.2.1.eraseIdx j, sd.2.2 + 1) (by omega) (by omega) (by omega) (by rw [hres]; show dSe j (dSeS j sd) = _; rw [hst]) (by have h9 := dSeS_len (k := j) (s := sd) (by omega); rw [hst] at h9; exact h9) (by have h9 := hok.tr (dSeS_ok (k := j) (s := sd) (by omega)); rw [hst] at h9; exact h9) H locs hS hP ls (lv_sub hl [2, 0] rfl))
  exact W.widen (Nat.zero_le _) (Nat.zero_le _) (LP (pr.length + 1) 0 pr.length (t, pr, ne) (Nat.zero_le _) (by omega) (by omega) hs2 (Nat.le_refl _) dOkS.rf _ _ hS hP ls (lv_sub hl [1, 0] rfl))

set_option maxHeartbeats 4000000 in
set_option maxRecDepth 100000 in
theorem c_X4_passOneTick (l : Launch) (g : cG) (F : Nat → Prop) (A : Nat → Nat → Nat) (nb nl nr ne : Nat) (pr : List Nat) (t : TT) (s2 : DS) (hs2 : s2 = dTick nl (t, pr, ne)) (hph : ne + dPh (t 13) pr ≤ 95) : CT l yX4_passOneTick cX4_passOneTick 2 none 11 284 (2 * (s2.2.2 - ne)) (153 * (s2.2.2 - ne)) g F [.ref (A 0 0)] (PD g F A nb nl nr ne pr t) (fun v9 H9 => v9 = none ∧ PD g F A nb nl nr s2.2.2 s2.2.1 s2.1 H9) := by
  refine CT.of (by decide) rfl ?_
  intro p e s m args below meth c E hr hk hnm hP ls hl
  have hS : va_S (nF F) s.heap s.heap [] := va_S.rf
  have hx := E.1
  have hb := E.2.1
  have hE_ml := E.2.2.1
  have hown := E.2.2.2.1
  have hts := E.2.2.2.2.1
  have hG := E.2.2.2.2.2
  have hd0 := hP.di.1
  have hl : lv_has ls 2 [(0, .ref (A 0 0))] := hl
  have hfe : s2.2.2 = (dRall (dP1 t pr nl, pr, ne) nl).2.2 := by rw [hs2]; rfl
  have hn9 : ne ≤ s2.2.2 := by rw [hs2]; exact (dTick_ok (nl := nl) (s := (t, pr, ne))).1
  refine lv_aload_n hx hb dX4_passOneTick_0 rfl (lv_at hl 0 rfl) ?_
  refine dg E hP 9 fk_X4_42 dX4_passOneTick_1 (v := .int (t 60 0)) (kk := ?_)
  refine lv_iconst (v := (-1)) hx hb dX4_passOneTick_4 (by decide) ?_
  refine lv_icmp_eq (tgt := 15) hx hb dX4_passOneTick_5 (by decide) (fun c_1 => ?_) (fun c_1 => ?_)
  · refine lv_aload_n hx hb dX4_passOneTick_15 rfl (lv_at hl 0 rfl) ?_
    refine ct_V E hS (c_X4_giveLiftsToAll l g F A nb nl nr ne pr t ) ok_X4_giveLiftsToAll lk_X4_262 hP (hP.recv hG) rfl hl ⟨rfl, rfl⟩ rfl ⟨Nat.zero_le _, Nat.zero_le _⟩ dX4_passOneTick_16 rfl (fun v9 H locs hv9 hS hz9 => ?_)
    obtain ⟨rfl, hP⟩ := hv9
    refine lv_iconst (v := 0) hx hb dX4_passOneTick_19 (by decide) ?_
    refine lv_istore_n (lv' := [(1, .int 0), (0, .ref (A 0 0))]) hx hb dX4_passOneTick_20 rfl hl (by decide) rfl (fun ls hl => ?_)
    have LP : ∀ (n9 i : Nat) (sd : DS), i ≤ nl → nl < i + n9 → (sd = dRall (dP1 t pr nl, pr, ne) i) → (dOkS (t, pr, ne) sd) → ∀ (H : Heap) (locs : List Loc), va_S (nF F) s.heap H locs → PD g F A nb nl nr sd.2.2 sd.2.1 sd.1 H → ∀ (ls : Array Slot), lv_has ls 2 [(0, .ref (A 0 0)), (1, .int (nI i))] → W p l e { frames := 11, cells := 2 * (s2.2.2 - ne), slots := 153 * (s2.2.2 - ne), locals := 284 } s m args below meth c H locs (2 * (sd.2.2 - ne)) (153 * (sd.2.2 - ne)) (MQ below (Qg F (fun v9 H9 => v9 = none ∧ PD g F A nb nl nr s2.2.2 s2.2.1 s2.1 H9)) args s (2 * (s2.2.2 - ne)) (153 * (s2.2.2 - ne)) (nF F)) (F0 m 21 ls []) := by
      intro n9
      induction n9 with
      | zero => intro i sd hi9 hn9; exact absurd hn9 (by omega)
      | succ n9 ihLP =>
        intro i sd hi_LP hn_LP hres hok H locs hS hP ls hl
        have hd1 := hP.di.1
        have hmo : sd.2.2 ≤ s2.2.2 := by
          rw [hfe, hres]; exact dRall_le nl i hi_LP
        have hn0 : ne ≤ sd.2.2 := hok.1
        have hph2 : sd.2.2 + dPh (sd.1 13) sd.2.1 ≤ ne + dPh (t 13) pr := hok.2.1
        have hcf : 2 * (sd.2.2 - ne) ≤ 2 * (s2.2.2 - ne) ∧ 153 * (sd.2.2 - ne) ≤ 153 * (s2.2.2 - ne) := ⟨by omega, by omega⟩
        refine lv_iload_n hx hb dX4_passOneTick_21 rfl (lv_at hl 1 rfl) ?_
        refine lv_aload_n hx hb dX4_passOneTick_22 rfl (lv_at hl 0 rfl) ?_
        refine dg E hP 4 fk_X4_26 dX4_passOneTick_23 (v := .ref (A 2 1)) (kk := ?_)
        refine d_len E hS hP 1 nl hl ⟨rfl, rfl⟩ hcf dX4_passOneTick_26 (kk := fun locs hS => ?_)
        refine lv_icmp_ge (tgt := 53) hx hb dX4_passOneTick_29 (by decide) (fun c_2 => ?_) (fun c_2 => ?_)
        · have n_c_2 : nl ≤ i := (nI_leI (by omega) (by omega)).mp c_2
          have e_i : nl = i := by omega
          have hend : s2 = dPend sd := by rw [hs2, dTick, hres, e_i]
          refine lv_aload_n hx hb dX4_passOneTick_53 rfl (lv_at hl 0 rfl) ?_
          refine ct_V E hS (c_X4_countWaiting l g F A nb nl nr sd.2.2 sd.2.1 sd.1 ) ok_X4_countWaiting lk_X4_269 hP (hP.recv hG) rfl hl ⟨rfl, rfl⟩ rfl hcf dX4_passOneTick_54 rfl (fun v9 H locs hv9 hS hz9 => ?_)
          obtain ⟨rfl, hP⟩ := hv9
          refine lv_aload_n hx hb dX4_passOneTick_57 rfl (lv_at hl 0 rfl) ?_
          refine lv_dup hx hb dX4_passOneTick_58 rfl ?_
          refine dg E hP 8 fk_X4_38 dX4_passOneTick_59 (v := .int ((dCw sd.1 sd.2.1 sd.2.1.length) 23 0)) (kk := ?_)
          refine lv_iconst (v := 1) hx hb dX4_passOneTick_62 (by decide) ?_
          refine lv_iadd hx hb dX4_passOneTick_63 ?_
          refine dp E hS hP 8 23 fk_X4_38 hs_now hP.di.p dX4_passOneTick_64 (kk := fun H locs hS hP => ?_)
          refine lv_aload_n hx hb dX4_passOneTick_67 rfl (lv_at hl 0 rfl) ?_
          refine dg E hP 6 fk_X4_32 dX4_passOneTick_68 (v := .ref (A 2 3)) (kk := ?_)
          refine d_emp E hS hP 3 sd.2.1.length hl ⟨rfl, rfl⟩ hcf dX4_passOneTick_71 (kk := fun locs hS => ?_)
          refine bz_eq (tgt := 82) hx hb dX4_passOneTick_74 (by decide) (fun c_3 => ?_) (fun c_3 => ?_)
          · have m_c_3 : ¬ sd.2.1.length = 0 := fun h9 => c_3 (by rw [h9]; rfl)
            exact ct_vret E hr hk hS ⟨rfl, (by rw [hend, dPend]; simp only [eq_false m_c_3, if_true, if_false, reduceIte, true_and, and_true, false_and, and_false, true_or, or_true, false_or, or_false, not_true_eq_false, not_false_eq_true, decide_true, decide_false, Bool.true_and, Bool.and_true, Bool.false_and, Bool.and_false, Bool.not_true, Bool.not_false, Bool.or_false, Bool.false_or, Bool.or_true, Bool.true_or]; exact hP)⟩ dX4_passOneTick_82 hcf.1 hcf.2
          · have m_c_3 : sd.2.1.length = 0 := (nI_eq (by omega) (by omega)).mp (show nI sd.2.1.length = nI 0 from c_3)
            refine lv_aload_n hx hb dX4_passOneTick_77 rfl (lv_at hl 0 rfl) ?_
            refine lv_iconst (v := (-1)) hx hb dX4_passOneTick_78 (by decide) ?_
            refine dp E hS hP 9 60 fk_X4_42 hs_alarm hP.di.p dX4_passOneTick_79 (kk := fun H locs hS hP => ?_)
            exact ct_vret E hr hk hS ⟨rfl, (by rw [hend, dPend]; simp only [eq_true m_c_3, if_true, if_false, reduceIte, true_and, and_true, false_and, and_false, true_or, or_true, false_or, or_false, not_true_eq_false, not_false_eq_true, decide_true, decide_false, Bool.true_and, Bool.and_true, Bool.false_and, Bool.and_false, Bool.not_true, Bool.not_false, Bool.or_false, Bool.false_or, Bool.or_true, Bool.true_or]; exact hP)⟩ dX4_passOneTick_82 hcf.1 hcf.2
        · have n_c_2 : i < nl := Nat.lt_of_not_le (fun h9 => c_2 (nI_le h9 (by omega)))
          refine lv_aload_n hx hb dX4_passOneTick_32 rfl (lv_at hl 0 rfl) ?_
          refine lv_aload_n hx hb dX4_passOneTick_33 rfl (lv_at hl 0 rfl) ?_
          refine dg E hP 4 fk_X4_26 dX4_passOneTick_34 (v := .ref (A 2 1)) (kk := ?_)
          refine lv_iload_n hx hb dX4_passOneTick_37 rfl (lv_at hl 1 rfl) ?_
          have h_4 : i < nl := by omega
          refine d_getL E hS hP i rfl h_4 hl ⟨rfl, rfl⟩ hcf dX4_passOneTick_38 dX4_passOneTick_41 (kk := fun locs hS => ?_)
          obtain ⟨sR, hsR⟩ : ∃ x, x = dRun i (sd.1, sd.2.1, sd.2.2) := ⟨_, rfl⟩
          have hsR2 : dRall (dP1 t pr nl, pr, ne) (i + 1) = sR := by rw [hsR, show dRall (dP1 t pr nl, pr, ne) (i + 1) = dRun i (dRall (dP1 t pr nl, pr, ne) i) from rfl, ← hres]
          have hR1 : sd.2.2 ≤ sR.2.2 := by rw [hsR]; exact (dRun_ok (q := i) (s := (sd.1, sd.2.1, sd.2.2))).1
          have hokR : dOkS (t, pr, ne) sR := hok.tr (by rw [hsR]; exact dRun_ok)
          have hmo2 : sR.2.2 ≤ s2.2.2 := by rw [hfe, ← hsR2]; exact dRall_le nl (i + 1) (by omega)
          have hcf2 : 2 * (sd.2.2 - ne) + 2 * (sR.2.2 - sd.2.2) ≤ 2 * (s2.2.2 - ne) ∧ 153 * (sd.2.2 - ne) + 153 * (sR.2.2 - sd.2.2) ≤ 153 * (s2.2.2 - ne) := ⟨by omega, by omega⟩
          refine ct_V E hS (c_X4_runLift l g F A nb nl nr sd.2.2 sd.2.1 sd.1 i sR h_4 hsR (by omega)) ok_X4_runLift lk_X4_265 hP (hP.recv hG) rfl hl ⟨rfl, rfl⟩ rfl hcf2 dX4_passOneTick_44 rfl (fun v9 H locs hv9 hS hz9 => ?_)
          obtain ⟨rfl, hP⟩ := hv9
          refine lv_iinc (v := (nI (i + 1))) (lv' := [(1, .int (nI (i + 1))), (0, .ref (A 0 0))]) hx hb dX4_passOneTick_47 hl (k := 1) rfl (by rw [nI_succ]; rfl) (by decide) rfl (fun ls hl => ?_)
          refine lv_goto (tgt := 21) hx hb dX4_passOneTick_50 (by decide) ?_
          exact W.widen (by show 2 * (sd.2.2 - ne) + 2 * (sR.2.2 - sd.2.2) ≤ 2 * (sR.2.2 - ne); omega) (by show 153 * (sd.2.2 - ne) + 153 * (sR.2.2 - sd.2.2) ≤ 153 * (sR.2.2 - ne); omega) (ihLP (i + 1) sR (by omega) (by omega) hsR2.symm hokR H locs hS hP ls (lv_sub hl [1, 0] rfl))
    exact W.widen (Nat.zero_le _) (Nat.zero_le _) (LP (nl + 1) 0 ((dGall t pr nl pr.length), pr, ne) (Nat.zero_le _) (by omega) (by show _ = (dP1 t pr nl, pr, ne); rw [dP1, if_pos c_1]) (dOkS.t (dGall_k (by decide) _)) _ _ hS hP ls (lv_sub hl [1, 0] rfl))
  · refine lv_aload_n hx hb dX4_passOneTick_8 rfl (lv_at hl 0 rfl) ?_
    refine ct_V E hS (c_X4_giveLiftsInTurn l g F A nb nl nr ne pr t ) ok_X4_giveLiftsInTurn lk_X4_259 hP (hP.recv hG) rfl hl ⟨rfl, rfl⟩ rfl ⟨Nat.zero_le _, Nat.zero_le _⟩ dX4_passOneTick_9 rfl (fun v9 H locs hv9 hS hz9 => ?_)
    obtain ⟨rfl, hP⟩ := hv9
    refine lv_goto (tgt := 19) hx hb dX4_passOneTick_12 (by decide) ?_
    refine lv_iconst (v := 0) hx hb dX4_passOneTick_19 (by decide) ?_
    refine lv_istore_n (lv' := [(1, .int 0), (0, .ref (A 0 0))]) hx hb dX4_passOneTick_20 rfl hl (by decide) rfl (fun ls hl => ?_)
    have LP : ∀ (n9 i : Nat) (sd : DS), i ≤ nl → nl < i + n9 → (sd = dRall (dP1 t pr nl, pr, ne) i) → (dOkS (t, pr, ne) sd) → ∀ (H : Heap) (locs : List Loc), va_S (nF F) s.heap H locs → PD g F A nb nl nr sd.2.2 sd.2.1 sd.1 H → ∀ (ls : Array Slot), lv_has ls 2 [(0, .ref (A 0 0)), (1, .int (nI i))] → W p l e { frames := 11, cells := 2 * (s2.2.2 - ne), slots := 153 * (s2.2.2 - ne), locals := 284 } s m args below meth c H locs (2 * (sd.2.2 - ne)) (153 * (sd.2.2 - ne)) (MQ below (Qg F (fun v9 H9 => v9 = none ∧ PD g F A nb nl nr s2.2.2 s2.2.1 s2.1 H9)) args s (2 * (s2.2.2 - ne)) (153 * (s2.2.2 - ne)) (nF F)) (F0 m 21 ls []) := by
      intro n9
      induction n9 with
      | zero => intro i sd hi9 hn9; exact absurd hn9 (by omega)
      | succ n9 ihLP =>
        intro i sd hi_LP hn_LP hres hok H locs hS hP ls hl
        have hd1 := hP.di.1
        have hmo : sd.2.2 ≤ s2.2.2 := by
          rw [hfe, hres]; exact dRall_le nl i hi_LP
        have hn0 : ne ≤ sd.2.2 := hok.1
        have hph2 : sd.2.2 + dPh (sd.1 13) sd.2.1 ≤ ne + dPh (t 13) pr := hok.2.1
        have hcf : 2 * (sd.2.2 - ne) ≤ 2 * (s2.2.2 - ne) ∧ 153 * (sd.2.2 - ne) ≤ 153 * (s2.2.2 - ne) := ⟨by omega, by omega⟩
        refine lv_iload_n hx hb dX4_passOneTick_21 rfl (lv_at hl 1 rfl) ?_
        refine lv_aload_n hx hb dX4_passOneTick_22 rfl (lv_at hl 0 rfl) ?_
        refine dg E hP 4 fk_X4_26 dX4_passOneTick_23 (v := .ref (A 2 1)) (kk := ?_)
        refine d_len E hS hP 1 nl hl ⟨rfl, rfl⟩ hcf dX4_passOneTick_26 (kk := fun locs hS => ?_)
        refine lv_icmp_ge (tgt := 53) hx hb dX4_passOneTick_29 (by decide) (fun c_5 => ?_) (fun c_5 => ?_)
        · have n_c_5 : nl ≤ i := (nI_leI (by omega) (by omega)).mp c_5
          have e_i : nl = i := by omega
          have hend : s2 = dPend sd := by rw [hs2, dTick, hres, e_i]
          refine lv_aload_n hx hb dX4_passOneTick_53 rfl (lv_at hl 0 rfl) ?_
          refine ct_V E hS (c_X4_countWaiting l g F A nb nl nr sd.2.2 sd.2.1 sd.1 ) ok_X4_countWaiting lk_X4_269 hP (hP.recv hG) rfl hl ⟨rfl, rfl⟩ rfl hcf dX4_passOneTick_54 rfl (fun v9 H locs hv9 hS hz9 => ?_)
          obtain ⟨rfl, hP⟩ := hv9
          refine lv_aload_n hx hb dX4_passOneTick_57 rfl (lv_at hl 0 rfl) ?_
          refine lv_dup hx hb dX4_passOneTick_58 rfl ?_
          refine dg E hP 8 fk_X4_38 dX4_passOneTick_59 (v := .int ((dCw sd.1 sd.2.1 sd.2.1.length) 23 0)) (kk := ?_)
          refine lv_iconst (v := 1) hx hb dX4_passOneTick_62 (by decide) ?_
          refine lv_iadd hx hb dX4_passOneTick_63 ?_
          refine dp E hS hP 8 23 fk_X4_38 hs_now hP.di.p dX4_passOneTick_64 (kk := fun H locs hS hP => ?_)
          refine lv_aload_n hx hb dX4_passOneTick_67 rfl (lv_at hl 0 rfl) ?_
          refine dg E hP 6 fk_X4_32 dX4_passOneTick_68 (v := .ref (A 2 3)) (kk := ?_)
          refine d_emp E hS hP 3 sd.2.1.length hl ⟨rfl, rfl⟩ hcf dX4_passOneTick_71 (kk := fun locs hS => ?_)
          refine bz_eq (tgt := 82) hx hb dX4_passOneTick_74 (by decide) (fun c_6 => ?_) (fun c_6 => ?_)
          · have m_c_6 : ¬ sd.2.1.length = 0 := fun h9 => c_6 (by rw [h9]; rfl)
            exact ct_vret E hr hk hS ⟨rfl, (by rw [hend, dPend]; simp only [eq_false m_c_6, if_true, if_false, reduceIte, true_and, and_true, false_and, and_false, true_or, or_true, false_or, or_false, not_true_eq_false, not_false_eq_true, decide_true, decide_false, Bool.true_and, Bool.and_true, Bool.false_and, Bool.and_false, Bool.not_true, Bool.not_false, Bool.or_false, Bool.false_or, Bool.or_true, Bool.true_or]; exact hP)⟩ dX4_passOneTick_82 hcf.1 hcf.2
          · have m_c_6 : sd.2.1.length = 0 := (nI_eq (by omega) (by omega)).mp (show nI sd.2.1.length = nI 0 from c_6)
            refine lv_aload_n hx hb dX4_passOneTick_77 rfl (lv_at hl 0 rfl) ?_
            refine lv_iconst (v := (-1)) hx hb dX4_passOneTick_78 (by decide) ?_
            refine dp E hS hP 9 60 fk_X4_42 hs_alarm hP.di.p dX4_passOneTick_79 (kk := fun H locs hS hP => ?_)
            exact ct_vret E hr hk hS ⟨rfl, (by rw [hend, dPend]; simp only [eq_true m_c_6, if_true, if_false, reduceIte, true_and, and_true, false_and, and_false, true_or, or_true, false_or, or_false, not_true_eq_false, not_false_eq_true, decide_true, decide_false, Bool.true_and, Bool.and_true, Bool.false_and, Bool.and_false, Bool.not_true, Bool.not_false, Bool.or_false, Bool.false_or, Bool.or_true, Bool.true_or]; exact hP)⟩ dX4_passOneTick_82 hcf.1 hcf.2
        · have n_c_5 : i < nl := Nat.lt_of_not_le (fun h9 => c_5 (nI_le h9 (by omega)))
          refine lv_aload_n hx hb dX4_passOneTick_32 rfl (lv_at hl 0 rfl) ?_
          refine lv_aload_n hx hb dX4_passOneTick_33 rfl (lv_at hl 0 rfl) ?_
          refine dg E hP 4 fk_X4_26 dX4_passOneTick_34 (v := .ref (A 2 1)) (kk := ?_)
          refine lv_iload_n hx hb dX4_passOneTick_37 rfl (lv_at hl 1 rfl) ?_
          have h_7 : i < nl := by omega
          refine d_getL E hS hP i rfl h_7 hl ⟨rfl, rfl⟩ hcf dX4_passOneTick_38 dX4_passOneTick_41 (kk := fun locs hS => ?_)
          obtain ⟨sR, hsR⟩ : ∃ x, x = dRun i (sd.1, sd.2.1, sd.2.2) := ⟨_, rfl⟩
          have hsR2 : dRall (dP1 t pr nl, pr, ne) (i + 1) = sR := by rw [hsR, show dRall (dP1 t pr nl, pr, ne) (i + 1) = dRun i (dRall (dP1 t pr nl, pr, ne) i) from rfl, ← hres]
          have hR1 : sd.2.2 ≤ sR.2.2 := by rw [hsR]; exact (dRun_ok (q := i) (s := (sd.1, sd.2.1, sd.2.2))).1
          have hokR : dOkS (t, pr, ne) sR := hok.tr (by rw [hsR]; exact dRun_ok)
          have hmo2 : sR.2.2 ≤ s2.2.2 := by rw [hfe, ← hsR2]; exact dRall_le nl (i + 1) (by omega)
          have hcf2 : 2 * (sd.2.2 - ne) + 2 * (sR.2.2 - sd.2.2) ≤ 2 * (s2.2.2 - ne) ∧ 153 * (sd.2.2 - ne) + 153 * (sR.2.2 - sd.2.2) ≤ 153 * (s2.2.2 - ne) := ⟨by omega, by omega⟩
          refine ct_V E hS (c_X4_runLift l g F A nb nl nr sd.2.2 sd.2.1 sd.1 i sR h_7 hsR (by omega)) ok_X4_runLift lk_X4_265 hP (hP.recv hG) rfl hl ⟨rfl, rfl⟩ rfl hcf2 dX4_passOneTick_44 rfl (fun v9 H locs hv9 hS hz9 => ?_)
          obtain ⟨rfl, hP⟩ := hv9
          refine lv_iinc (v := (nI (i + 1))) (lv' := [(1, .int (nI (i + 1))), (0, .ref (A 0 0))]) hx hb dX4_passOneTick_47 hl (k := 1) rfl (by rw [nI_succ]; rfl) (by decide) rfl (fun ls hl => ?_)
          refine lv_goto (tgt := 21) hx hb dX4_passOneTick_50 (by decide) ?_
          exact W.widen (by show 2 * (sd.2.2 - ne) + 2 * (sR.2.2 - sd.2.2) ≤ 2 * (sR.2.2 - ne); omega) (by show 153 * (sd.2.2 - ne) + 153 * (sR.2.2 - sd.2.2) ≤ 153 * (sR.2.2 - ne); omega) (ihLP (i + 1) sR (by omega) (by omega) hsR2.symm hokR H locs hS hP ls (lv_sub hl [1, 0] rfl))
    exact W.widen (Nat.zero_le _) (Nat.zero_le _) (LP (nl + 1) 0 ((dInT t pr nl), pr, ne) (Nat.zero_le _) (by omega) (by show _ = (dP1 t pr nl, pr, ne); rw [dP1, if_neg c_1]) (dOkS.t ((dTall_k (by decide) _).trans (dLall_k (by decide) _))) _ _ hS hP ls (lv_sub hl [1, 0] rfl))
