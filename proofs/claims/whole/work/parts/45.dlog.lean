section GE9
variable {p : Program} {l : Launch} {e : Env} {R : Room} {s : State} {m : MethodId} {args : Array Value} {below : List Frame} {meth : Method} {c : Code} {H : Heap} {locs : List Loc} {cells slots : Nat} {Q : State → Prop}
variable {cc : ByteArray} {pc nL : Nat} {ls : Array Slot} {rest : List Value} {g : cG} {F : Nat → Prop} {H0 : Heap}
variable {A B : Nat → Nat → Nat} {nm : Nat → Nat × Nat} {nb nl nr ne : Nat} {pr : List Nat} {t : TT}
theorem d_getE (E : EN p s m c cc nL args RX4 g F) (hS : va_S (nF F) s.heap H locs) (hc : PDc g F B nm nb nl nr ne pr t H) (hB : B 2 = A 2) (i : Nat) {x : Int32} (hx : x = nI i) (hi : i < ne) {lv : List (Nat × Value)} (hls : lv_has ls nL lv) (hR : Nat.ble 3 R.frames = true ∧ Nat.ble 64 R.locals = true) (hf : cells ≤ R.cells ∧ slots ≤ R.slots) (hd : decode cc pc = .ok (.invokevirtual 214, 3)) (hd2 : decode cc (pc + 3) = .ok (.checkcast 238, 3)) (hst : Nat.ble (rest.map fun v => v.category).sum 8 = true := by rfl)
    (kk : ∀ (locs1 : List Loc), va_S (nF F) s.heap H locs1 → W p l e R s m args below meth c H locs1 cells slots Q (F0 m (pc + 6) ls (.ref (B 7 i) :: rest))) : W p l e R s m args below meth c H locs cells slots Q (F0 m pc ls (.int x :: .ref (A 2 4) :: rest)) := by
  subst hx
  rw [← hB]
  have hy : (dEl B nb nl nr ne pr 4)[i]? = some (B 7 i) := by
    show ((List.range ne).map (B 7))[i]? = _
    rw [List.getElem?_map, List.getElem?_range hi]; rfl
  have hal := (hc.2.2.2.1 4 (by decide)).2
  have hlen : (dEl B nb nl nr ne pr 4).length = ne := dEl_len 4
  have ho := hc.2.1 7 i hi (by decide)
  refine ct_V E hS (c_AL_get l g F (B 2 4) i (B 7 i) ne (fun X => X = H) (by have := hc.2.2.2.2.2.2.1; omega) hi (fun H9 h9 => by
    subst h9
    obtain ⟨md, q, cap, f, z⟩ := hal.gets hy
    rw [hlen] at z
    exact ⟨md, q, cap, f, z⟩)) ok_Jx4a65c_get_915e3 lk_X4_214 rfl (AL.recv E.2.2.2.2.2 hal) rfl hls hR hst hf hd rfl (fun v9 H1 locs1 hv9 hS1 hz => ?_)
  obtain ⟨rfl, rfl⟩ := hv9
  exact va_castS E.1 E.2.1 E.2.2.2.1 (E.2.2.2.2.1 _ kl_X4_238) (E.2.2.2.2.2.1.1 4 _ kcX1.2.2.2).2 (va_recv (q := (RX1, TX1, 3)) (q0 := 0) (ci := 4) E.2.2.2.2.2.1 (va_P1 ho) rfl rfl) hd2 (kk locs1 hS1)
end GE9

set_option maxHeartbeats 4000000 in
set_option maxRecDepth 100000 in
theorem c_X4_ticksByLog (l : Launch) (g : cG) (F : Nat → Prop) (A : Nat → Nat → Nat) (nb nl nr ne : Nat) (pr : List Nat) (t : TT) (r : Nat) (hr9 : r < nr) : CT l yX4_ticksByLog cX4_ticksByLog 5 (some .int) 3 64 0 0 g F [.ref (A 0 0), .ref (A 6 r)] (PD g F A nb nl nr ne pr t) (fun v9 H9 => v9 = some (.int (dTf t r ne 0 (t 23 0))) ∧ PD g F A nb nl nr ne pr t H9) := by
  refine CT.of (by decide) rfl ?_
  intro p e s m args below meth c E hr hk hnm hP ls hl
  have hS : va_S (nF F) s.heap s.heap [] := va_S.rf
  have hx := E.1
  have hb := E.2.1
  have hE_ml := E.2.2.1
  have hown := E.2.2.2.1
  have hts := E.2.2.2.2.1
  have hG := E.2.2.2.2.2
  have hd0 := hP.di.1
  have hl : lv_has ls 5 [(0, .ref (A 0 0)), (1, .ref (A 6 r))] := hl
  refine lv_aload_n hx hb dX4_ticksByLog_0 rfl (lv_at hl 0 rfl) ?_
  refine dg E hP 8 fk_X4_38 dX4_ticksByLog_1 (v := .int (t 23 0)) (kk := ?_)
  refine lv_istore_n (lv' := [(2, .int (t 23 0)), (0, .ref (A 0 0)), (1, .ref (A 6 r))]) hx hb dX4_ticksByLog_4 rfl hl (by decide) rfl (fun ls hl => ?_)
  refine lv_iconst (v := 0) hx hb dX4_ticksByLog_5 (by decide) ?_
  refine lv_istore_n (lv' := [(3, .int 0), (2, .int (t 23 0)), (0, .ref (A 0 0)), (1, .ref (A 6 r))]) hx hb dX4_ticksByLog_6 rfl hl (by decide) rfl (fun ls hl => ?_)
  have LP : ∀ (n9 i : Nat) (c9 : Int32), i ≤ ne → ne < i + n9 → (dTf t r ne 0 (t 23 0) = dTf t r (ne - i) i c9) → ∀ (H : Heap) (locs : List Loc), va_S (nF F) s.heap H locs → PD g F A nb nl nr ne pr t H → ∀ (ls : Array Slot), lv_has ls 5 [(0, .ref (A 0 0)), (1, .ref (A 6 r)), (2, .int c9), (3, .int (nI i))] → W p l e { frames := 3, cells := 0, slots := 0, locals := 64 } s m args below meth c H locs 0 0 (MQ below (Qg F (fun v9 H9 => v9 = some (.int (dTf t r ne 0 (t 23 0))) ∧ PD g F A nb nl nr ne pr t H9)) args s 0 0 (nF F)) (F0 m 7 ls []) := by
    intro n9
    induction n9 with
    | zero => intro i c9 hi9 hn9; exact absurd hn9 (by omega)
    | succ n9 ihLP =>
      intro i c9 hi_LP hn_LP hres H locs hS hP ls hl
      have hd1 := hP.di.1
      refine lv_iload_n hx hb dX4_ticksByLog_7 rfl (lv_at hl 3 rfl) ?_
      refine lv_aload_n hx hb dX4_ticksByLog_8 rfl (lv_at hl 0 rfl) ?_
      refine dg E hP 7 fk_X4_35 dX4_ticksByLog_9 (v := .ref (A 2 4)) (kk := ?_)
      refine d_len E hS hP 4 ne hl ⟨rfl, rfl⟩ ⟨Nat.le_refl _, Nat.le_refl _⟩ dX4_ticksByLog_12 (kk := fun locs hS => ?_)
      refine lv_icmp_ge (tgt := 73) hx hb dX4_ticksByLog_15 (by decide) (fun c_1 => ?_) (fun c_1 => ?_)
      · have n_c_1 : ne ≤ i := (nI_leI (by omega) (by omega)).mp c_1
        refine lv_aload_n hx hb dX4_ticksByLog_73 rfl (lv_at hl 0 rfl) ?_
        refine dg E hP 8 fk_X4_38 dX4_ticksByLog_74 (v := .int (t 23 0)) (kk := ?_)
        refine lv_iload_n hx hb dX4_ticksByLog_77 rfl (lv_at hl 2 rfl) ?_
        refine lv_isub hx hb dX4_ticksByLog_78 ?_
        have e1 : (dTf t r ne 0 (t 23 0)) = (t 23 0) - c9 := by rw [hres, show ne - i = 0 by omega]; rfl
        exact ct_iret E hr hk hS ⟨(by rw [e1]), hP⟩ dX4_ticksByLog_79
      · have n_c_1 : i < ne := Nat.lt_of_not_le (fun h9 => c_1 (nI_le h9 (by omega)))
        refine lv_aload_n hx hb dX4_ticksByLog_18 rfl (lv_at hl 0 rfl) ?_
        refine dg E hP 7 fk_X4_35 dX4_ticksByLog_19 (v := .ref (A 2 4)) (kk := ?_)
        refine lv_iload_n hx hb dX4_ticksByLog_22 rfl (lv_at hl 3 rfl) ?_
        obtain ⟨B9, nm9, hB9, hc9⟩ := id hP
        refine d_getE E hS hc9 (hB9 2 (by decide) (by decide)) i rfl (by omega) hl ⟨rfl, rfl⟩ ⟨Nat.le_refl _, Nat.le_refl _⟩ dX4_ticksByLog_23 dX4_ticksByLog_26 (kk := fun locs hS => ?_)
        refine lv_astore (lv' := [(4, .ref (B9 7 i)), (0, .ref (A 0 0)), (1, .ref (A 6 r)), (2, .int c9), (3, .int (nI i))]) hx hb dX4_ticksByLog_29 hl (by decide) rfl (fun ls hl => ?_)
        refine lv_aload hx hb dX4_ticksByLog_31 (lv_at hl 0 rfl) ?_
        refine w_getN E kcX1 (fs := [.int (t 50 i), .int (t 51 i), .int (t 52 i)]) (hc9.2.1 7 i (show i < ne by omega) (by decide)) 0 (by decide) rfl fn_X4_243 (v := .int (t 50 i)) rfl dX4_ticksByLog_33 ?_
        refine lv_aload_n hx hb dX4_ticksByLog_36 rfl (lv_at hl 2 rfl) ?_
        refine dgn E hP 6 r hr9 kcX3 0 fn_X4_135 dX4_ticksByLog_37 (v := .int (nI r)) (kk := ?_)
        refine lv_icmp_ne (tgt := 67) hx hb dX4_ticksByLog_40 (by decide) (fun c_2 => ?_) (fun c_2 => ?_)
        · refine lv_iinc (v := (nI (i + 1))) (lv' := [(3, .int (nI (i + 1))), (4, .ref (B9 7 i)), (0, .ref (A 0 0)), (1, .ref (A 6 r)), (2, .int c9)]) hx hb dX4_ticksByLog_67 hl (k := 4) rfl (by rw [nI_succ]; rfl) (by decide) rfl (fun ls hl => ?_)
          refine lv_goto (tgt := 7) hx hb dX4_ticksByLog_70 (by decide) ?_
          exact ihLP (i + 1) c9 (by omega) (by omega) (by rw [hres, show ne - i = (ne - (i + 1)) + 1 by omega]; simp only [dTf, eq_false c_1, eq_false c_2, if_true, if_false, reduceIte, true_and, and_true, false_and, and_false, true_or, or_true, false_or, or_false, not_true_eq_false, not_false_eq_true, decide_true, decide_false, Bool.true_and, Bool.and_true, Bool.false_and, Bool.and_false, Bool.not_true, Bool.not_false, Bool.or_false, Bool.false_or, Bool.or_true, Bool.true_or]) H locs hS hP ls (lv_sub hl [2, 3, 4, 0] rfl)
        · refine lv_aload hx hb dX4_ticksByLog_43 (lv_at hl 0 rfl) ?_
          refine w_getN E kcX1 (fs := [.int (t 50 i), .int (t 51 i), .int (t 52 i)]) (hc9.2.1 7 i (show i < ne by omega) (by decide)) 1 (by decide) rfl fn_X4_246 (v := .int (t 51 i)) rfl dX4_ticksByLog_45 ?_
          refine lv_bipush (v := 119) hx hb dX4_ticksByLog_48 (by decide) ?_
          refine lv_icmp_eq (tgt := 61) hx hb dX4_ticksByLog_50 (by decide) (fun c_3 => ?_) (fun c_3 => ?_)
          · refine lv_aload hx hb dX4_ticksByLog_61 (lv_at hl 0 rfl) ?_
            refine w_getN E kcX1 (fs := [.int (t 50 i), .int (t 51 i), .int (t 52 i)]) (hc9.2.1 7 i (show i < ne by omega) (by decide)) 2 (by decide) rfl fn_X4_247 (v := .int (t 52 i)) rfl dX4_ticksByLog_63 ?_
            refine lv_istore_n (lv' := [(2, .int (t 52 i)), (4, .ref (B9 7 i)), (0, .ref (A 0 0)), (1, .ref (A 6 r)), (3, .int (nI i))]) hx hb dX4_ticksByLog_66 rfl hl (by decide) rfl (fun ls hl => ?_)
            refine lv_iinc (v := (nI (i + 1))) (lv' := [(3, .int (nI (i + 1))), (2, .int (t 52 i)), (4, .ref (B9 7 i)), (0, .ref (A 0 0)), (1, .ref (A 6 r))]) hx hb dX4_ticksByLog_67 hl (k := 4) rfl (by rw [nI_succ]; rfl) (by decide) rfl (fun ls hl => ?_)
            refine lv_goto (tgt := 7) hx hb dX4_ticksByLog_70 (by decide) ?_
            exact ihLP (i + 1) (t 52 i) (by omega) (by omega) (by rw [hres, show ne - i = (ne - (i + 1)) + 1 by omega]; simp only [dTf, eq_false c_1, eq_true c_2, eq_true c_3, if_true, if_false, reduceIte, true_and, and_true, false_and, and_false, true_or, or_true, false_or, or_false, not_true_eq_false, not_false_eq_true, decide_true, decide_false, Bool.true_and, Bool.and_true, Bool.false_and, Bool.and_false, Bool.not_true, Bool.not_false, Bool.or_false, Bool.false_or, Bool.or_true, Bool.true_or]) H locs hS hP ls (lv_sub hl [3, 4, 1, 0] rfl)
          · refine lv_aload hx hb dX4_ticksByLog_53 (lv_at hl 0 rfl) ?_
            refine w_getN E kcX1 (fs := [.int (t 50 i), .int (t 51 i), .int (t 52 i)]) (hc9.2.1 7 i (show i < ne by omega) (by decide)) 2 (by decide) rfl fn_X4_247 (v := .int (t 52 i)) rfl dX4_ticksByLog_55 ?_
            refine lv_iload_n hx hb dX4_ticksByLog_58 rfl (lv_at hl 3 rfl) ?_
            refine lv_isub hx hb dX4_ticksByLog_59 ?_
            have e1 : (dTf t r ne 0 (t 23 0)) = (t 52 i) - c9 := by rw [hres, show ne - i = (ne - (i + 1)) + 1 by omega]; simp only [dTf, eq_false c_1, eq_true c_2, eq_false c_3, if_true, if_false, reduceIte, true_and, and_true, false_and, and_false, true_or, or_true, false_or, or_false, not_true_eq_false, not_false_eq_true, decide_true, decide_false, Bool.true_and, Bool.and_true, Bool.false_and, Bool.and_false, Bool.not_true, Bool.not_false, Bool.or_false, Bool.false_or, Bool.or_true, Bool.true_or]
            exact ct_iret E hr hk hS ⟨(by rw [e1]), hP⟩ dX4_ticksByLog_60
  exact (LP (ne + 1) 0 (t 23 0) (Nat.zero_le _) (by omega) rfl _ _ hS hP ls (lv_sub hl [2, 3, 1, 0] rfl))

set_option maxHeartbeats 4000000 in
set_option maxRecDepth 100000 in
theorem c_X4_waitedByLog (l : Launch) (g : cG) (F : Nat → Prop) (A : Nat → Nat → Nat) (nb nl nr ne : Nat) (pr : List Nat) (t : TT) (hl9 : l.stackTraces = false) (x : Int32)  : CX l yX4_waitedByLog cX4_waitedByLog 2 (some .int) 7 111 (4) (24) g F [.ref (A 0 0), .int x] (PD g F A nb nl nr ne pr t)
    (fun v9 H9 => v9 = some (.int (dTf t x.toNatClampNeg ne 0 (t 23 0))) ∧ (if dcN x nr = 0 then 0 else 1) = 0 ∧ PD g F A nb nl nr ne pr t H9)
    (fun E9 H9 => (0 < (if dcN x nr = 0 then 0 else 1) ∧ [kIOB][(if dcN x nr = 0 then 0 else 1) - 1]? = some E9) ∧ PD g F A nb nl nr ne pr t H9) := by
  refine CX.of (by decide) rfl ?_
  intro p e s m args below meth c E hr hk ht hP ls hl
  have hS : va_S (nF F) s.heap s.heap [] := va_S.rf
  have hx := E.1
  have hb := E.2.1
  have hE_ml := E.2.2.1
  have hown := E.2.2.2.1
  have hts := E.2.2.2.2.1
  have hG := E.2.2.2.2.2
  have hd0 := hP.di.1
  have hl : lv_has ls 2 [(0, .ref (A 0 0)), (1, .int x)] := hl
  refine lv_aload_n hx hb dX4_waitedByLog_0 rfl (lv_at hl 0 rfl) ?_
  refine lv_aload_n hx hb dX4_waitedByLog_1 rfl (lv_at hl 0 rfl) ?_
  refine lv_iload_n hx hb dX4_waitedByLog_2 rfl (lv_at hl 1 rfl) ?_
  refine cx_V E hS (c_X4_riderNumbered l g F A nb nl nr ne pr t hl9 x) ok_X4_riderNumbered lk_X4_136 hP (hP.recv hG) rfl hl ⟨rfl, rfl⟩ rfl ⟨Nat.le_of_ble_eq_true rfl, Nat.le_of_ble_eq_true rfl⟩ dX4_waitedByLog_3 rfl
    (fun E9 ce9 q9 H9 locs hX9 hz9 hS hc9 hv9 hf9 => by
      obtain ⟨⟨rfl, c_1⟩, hP9⟩ := hX9
      exact cx_out ht hk hc9 hv9 hf9 ⟨(by have hcode : (if dcN x nr = 0 then 0 else 1) = 1 := (by simp only [eq_false c_1, if_true, if_false, reduceIte, true_and, and_true, false_and, and_false, true_or, or_true, false_or, or_false, not_true_eq_false, not_false_eq_true, decide_true, decide_false, Bool.true_and, Bool.and_true, Bool.false_and, Bool.and_false, Bool.not_true, Bool.not_false, Bool.or_false, Bool.false_or, Bool.or_true, Bool.true_or]); rw [hcode]; exact ⟨by decide, rfl⟩), hP9⟩ hS (Nat.le_of_ble_eq_true rfl) (Nat.le_of_ble_eq_true rfl)) (fun v9 H locs hv9 hS hz9 => ?_)
  obtain ⟨jx, rfl, hjx, rfl, c_1, hP⟩ := hv9
  have jx_cl : (nI jx).toNatClampNeg = jx := nI_clamp (by omega)
  refine ct_V E hS (c_X4_ticksByLog l g F A nb nl nr ne pr t jx hjx) ok_X4_ticksByLog lk_X4_163 hP (hP.recv hG) rfl hl ⟨rfl, rfl⟩ rfl ⟨Nat.le_of_ble_eq_true rfl, Nat.le_of_ble_eq_true rfl⟩ dX4_waitedByLog_6 rfl (fun v9 H locs hv9 hS hz9 => ?_)
  obtain ⟨rfl, hP⟩ := hv9
  have hcode : (if dcN (nI jx) nr = 0 then 0 else 1) = 0 := by simp only [eq_true c_1, jx_cl, if_true, if_false, reduceIte, true_and, and_true, false_and, and_false, true_or, or_true, false_or, or_false, not_true_eq_false, not_false_eq_true, decide_true, decide_false, Bool.true_and, Bool.and_true, Bool.false_and, Bool.and_false, Bool.not_true, Bool.not_false, Bool.or_false, Bool.false_or, Bool.or_true, Bool.true_or]
  have e1 : (dTf t (nI jx).toNatClampNeg ne 0 (t 23 0)) = dTf t jx ne 0 (t 23 0) := by simp only [jx_cl]
  exact vx_ret (ct_iret E hr hk hS ⟨(by rw [e1]), hcode, hP⟩ dX4_waitedByLog_9 (Nat.le_of_ble_eq_true rfl) (Nat.le_of_ble_eq_true rfl))
