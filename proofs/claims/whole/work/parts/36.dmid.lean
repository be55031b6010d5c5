section AR
variable {p : Program} {l : Launch} {e : Env} {R : Room} {s : State} {m : MethodId} {args : Array Value} {below : List Frame} {meth : Method} {c : Code} {H : Heap} {locs : List Loc} {cells slots : Nat} {Q : State → Prop}
variable {cc : ByteArray} {pc : Nat} {ls : Array Slot} {rest : List Value}
theorem lv_aload_nR (hexec : p.tables.exec = Jvm.exec) (hb : c.code = cc) {k : Fin 4} {i : Nat} {o : Option Nat} (hdg : decode cc pc = .ok (.aload_n k, 1)) (hi : (k : Nat) = i) (hl : ls[i]? = some (.val (va_rf o)))
    (kk : W p l e R s m args below meth c H locs cells slots Q (F0 m (pc + 1) ls (va_rf o :: rest))) : W p l e R s m args below meth c H locs cells slots Q (F0 m pc ls rest) := by
  cases o with
  | none => exact lv_aload_nN hexec hb hdg hi hl kk
  | some x => exact lv_aload_n hexec hb hdg hi hl kk
end AR
theorem oI_di {bo : Option Nat} {nl : Nat} (h : ∀ b, bo = some b → b < nl) : oI bo = -1 ∨ ∃ q, q < nl ∧ oI bo = nI q := by
  cases bo with
  | none => exact Or.inl rfl
  | some b => exact Or.inr ⟨b, h b rfl, rfl⟩

set_option maxHeartbeats 4000000 in
set_option maxRecDepth 100000 in
theorem c_X4_giveLift (l : Launch) (g : cG) (F : Nat → Prop) (A : Nat → Nat → Nat) (nb nl nr ne : Nat) (pr : List Nat) (t : TT) (r : Nat) (hr9 : r < nr) : CT l yX4_giveLift cX4_giveLift 7 none 4 88 0 0 g F [.ref (A 0 0), .ref (A 6 r)] (PD g F A nb nl nr ne pr t) (fun v9 H9 => v9 = none ∧ PD g F A nb nl nr ne pr (dGive t pr nl r) H9) := by
  refine CT.of (by decide) rfl ?_
  intro p e s m args below meth c E hr hk hnm hP ls hl
  have hS : va_S (nF F) s.heap s.heap [] := va_S.rf
  have hx := E.1
  have hb := E.2.1
  have hE_ml := E.2.2.1
  have hown := E.2.2.2.1
  have hts := E.2.2.2.2.1
  have hG := E.2.2.2.2.2
  have hd0 := hP.di.1
  have hl : lv_has ls 7 [(0, .ref (A 0 0)), (1, .ref (A 6 r))] := hl
  refine lv_null hx hb dX4_giveLift_0 ?_
  refine lv_astore_nN (lv' := [(2, .null), (0, .ref (A 0 0)), (1, .ref (A 6 r))]) hx hb dX4_giveLift_1 rfl hl (by decide) rfl (fun ls hl => ?_)
  refine lv_iconst (v := 0) hx hb dX4_giveLift_2 (by decide) ?_
  refine lv_istore_n (lv' := [(3, .int 0), (2, .null), (0, .ref (A 0 0)), (1, .ref (A 6 r))]) hx hb dX4_giveLift_3 rfl hl (by decide) rfl (fun ls hl => ?_)
  refine lv_iconst (v := 0) hx hb dX4_giveLift_4 (by decide) ?_
  refine lv_istore (lv' := [(4, .int 0), (3, .int 0), (2, .null), (0, .ref (A 0 0)), (1, .ref (A 6 r))]) hx hb dX4_giveLift_5 hl (by decide) rfl (fun ls hl => ?_)
  have LP : ∀ (n9 i : Nat) (bo : Option Nat) (a9 : Int32), i ≤ nl → nl < i + n9 → (bo = dBst t pr (t 8 r) i) → (∀ b, bo = some b → b < i) → (∀ b, bo = some b → a9 = dScore t pr b (t 8 r)) → ∀ (H : Heap) (locs : List Loc), va_S (nF F) s.heap H locs → PD g F A nb nl nr ne pr t H → ∀ (ls : Array Slot), lv_has ls 7 [(0, .ref (A 0 0)), (1, .ref (A 6 r)), (2, va_rf (Option.map (A 5) bo)), (3, .int a9), (4, .int (nI i))] → W p l e { frames := 4, cells := 0, slots := 0, locals := 88 } s m args below meth c H locs 0 0 (MQ below (Qg F (fun v9 H9 => v9 = none ∧ PD g F A nb nl nr ne pr (dGive t pr nl r) H9)) args s 0 0 (nF F)) (F0 m 7 ls []) := by
    intro n9
    induction n9 with
    | zero => intro i bo a9 hi9 hn9; exact absurd hn9 (by omega)
    | succ n9 ihLP =>
      intro i bo a9 hi_LP hn_LP hbo hbl hle H locs hS hP ls hl
      have hd1 := hP.di.1
      refine lv_iload hx hb dX4_giveLift_7 (lv_at hl 4 rfl) ?_
      refine lv_aload_n hx hb dX4_giveLift_9 rfl (lv_at hl 0 rfl) ?_
      refine dg E hP 4 fk_X4_26 dX4_giveLift_10 (v := .ref (A 2 1)) (kk := ?_)
      refine d_len E hS hP 1 nl hl ⟨rfl, rfl⟩ ⟨Nat.le_refl _, Nat.le_refl _⟩ dX4_giveLift_13 (kk := fun locs hS => ?_)
      refine lv_icmp_ge (tgt := 77) hx hb dX4_giveLift_16 (by decide) (fun c_1 => ?_) (fun c_1 => ?_)
      · have n_c_1 : nl ≤ i := (nI_leI (by omega) (by omega)).mp c_1
        refine lv_aload_n hx hb dX4_giveLift_77 rfl (lv_at hl 1 rfl) ?_
        refine lv_aload_nR hx hb dX4_giveLift_78 rfl (lv_at hl 2 rfl) ?_
        refine dpn E hS hP 6 r hr9 kcX3 5 10 (x := (oI bo)) fn_X4_144 (hs_10o (fun b h9 => by have := hbl b h9; omega)) (hP.di.p10 (oI_di (fun b h9 => by have := hbl b h9; omega))) nar_rf fit_rf dX4_giveLift_79 (kk := fun H locs hS hP => ?_)
        have e2 : (dGive t pr nl r) = (tu t 10 r (oI bo)) := by rw [dGive, show nl = i by omega, ← hbo]
        exact ct_vret E hr hk hS ⟨rfl, (by rw [e2]; exact hP)⟩ dX4_giveLift_82
      · have n_c_1 : i < nl := Nat.lt_of_not_le (fun h9 => c_1 (nI_le h9 (by omega)))
        refine lv_aload_n hx hb dX4_giveLift_19 rfl (lv_at hl 0 rfl) ?_
        refine dg E hP 4 fk_X4_26 dX4_giveLift_20 (v := .ref (A 2 1)) (kk := ?_)
        refine lv_iload hx hb dX4_giveLift_23 (lv_at hl 4 rfl) ?_
        have h_2 : i < nl := by omega
        refine d_getL E hS hP i rfl h_2 hl ⟨rfl, rfl⟩ ⟨Nat.le_refl _, Nat.le_refl _⟩ dX4_giveLift_25 dX4_giveLift_28 (kk := fun locs hS => ?_)
        refine lv_astore (lv' := [(5, .ref (A 5 i)), (0, .ref (A 0 0)), (1, .ref (A 6 r)), (2, va_rf (Option.map (A 5) bo)), (3, .int a9), (4, .int (nI i))]) hx hb dX4_giveLift_31 hl (by decide) rfl (fun ls hl => ?_)
        refine lv_aload hx hb dX4_giveLift_33 (lv_at hl 0 rfl) ?_
        refine dgn E hP 5 i h_2 kcX2 4 fn_X4_171 dX4_giveLift_35 (v := .int (t 20 i)) (kk := ?_)
        refine lv_bipush (v := 115) hx hb dX4_giveLift_38 (by decide) ?_
        refine lv_icmp_ne (tgt := 71) hx hb dX4_giveLift_40 (by decide) (fun c_3 => ?_) (fun c_3 => ?_)
        · refine lv_iinc (v := (nI (i + 1))) (lv' := [(4, .int (nI (i + 1))), (5, .ref (A 5 i)), (0, .ref (A 0 0)), (1, .ref (A 6 r)), (2, va_rf (Option.map (A 5) bo)), (3, .int a9)]) hx hb dX4_giveLift_71 hl (k := 5) rfl (by rw [nI_succ]; rfl) (by decide) rfl (fun ls hl => ?_)
          refine lv_goto (tgt := 7) hx hb dX4_giveLift_74 (by decide) ?_
          exact ihLP (i + 1) bo a9 (by omega) (by omega) (by simp only [dBst, ← hbo, eq_false c_1, eq_false c_3, if_true, if_false, reduceIte, true_and, and_true, false_and, and_false, true_or, or_true, false_or, or_false, not_true_eq_false, not_false_eq_true, decide_true, decide_false, Bool.true_and, Bool.and_true, Bool.false_and, Bool.and_false, Bool.not_true, Bool.not_false, Bool.or_false, Bool.false_or, Bool.or_true, Bool.true_or]) (fun b hb9 => Nat.lt_succ_of_lt (hbl b hb9)) hle H locs hS hP ls (lv_sub hl [2, 3, 4, 5, 0] rfl)
        · refine lv_aload_n hx hb dX4_giveLift_43 rfl (lv_at hl 1 rfl) ?_
          refine lv_aload hx hb dX4_giveLift_44 (lv_at hl 0 rfl) ?_
          refine lv_aload_n hx hb dX4_giveLift_46 rfl (lv_at hl 2 rfl) ?_
          refine dgn E hP 6 r hr9 kcX3 2 fn_X4_151 dX4_giveLift_47 (v := .int (t 8 r)) (kk := ?_)
          refine ct_V E hS (c_X4_scoreOf l g F A nb nl nr ne pr t i (t 8 r) h_2) ok_X4_scoreOf lk_X4_186 hP (hP.recv hG) rfl hl ⟨rfl, rfl⟩ rfl ⟨Nat.le_refl _, Nat.le_refl _⟩ dX4_giveLift_50 rfl (fun v9 H locs hv9 hS hz9 => ?_)
          obtain ⟨rfl, hP⟩ := hv9
          refine lv_istore (lv' := [(6, .int (dScore t pr i (t 8 r))), (5, .ref (A 5 i)), (0, .ref (A 0 0)), (1, .ref (A 6 r)), (2, va_rf (Option.map (A 5) bo)), (3, .int a9), (4, .int (nI i))]) hx hb dX4_giveLift_53 hl (by decide) rfl (fun ls hl => ?_)
          rcases bo with _ | b0
          · have hl : lv_has ls 7 [(6, .int (dScore t pr i (t 8 r))), (5, .ref (A 5 i)), (0, .ref (A 0 0)), (1, .ref (A 6 r)), (2, .null), (3, .int a9), (4, .int (nI i))] := hl
            refine lv_aload_nN hx hb dX4_giveLift_55 rfl (lv_at hl 4 rfl) ?_
            refine lv_ifnullN (tgt := 65) hx hb dX4_giveLift_56 (by decide) ?_
            refine lv_aload hx hb dX4_giveLift_65 (lv_at hl 1 rfl) ?_
            refine lv_astore_n (lv' := [(2, .ref (A 5 i)), (6, .int (dScore t pr i (t 8 r))), (5, .ref (A 5 i)), (0, .ref (A 0 0)), (1, .ref (A 6 r)), (3, .int a9), (4, .int (nI i))]) hx hb dX4_giveLift_67 rfl hl (by decide) rfl (fun ls hl => ?_)
            refine lv_iload hx hb dX4_giveLift_68 (lv_at hl 1 rfl) ?_
            refine lv_istore_n (lv' := [(3, .int (dScore t pr i (t 8 r))), (2, .ref (A 5 i)), (6, .int (dScore t pr i (t 8 r))), (5, .ref (A 5 i)), (0, .ref (A 0 0)), (1, .ref (A 6 r)), (4, .int (nI i))]) hx hb dX4_giveLift_70 rfl hl (by decide) rfl (fun ls hl => ?_)
            refine lv_iinc (v := (nI (i + 1))) (lv' := [(4, .int (nI (i + 1))), (3, .int (dScore t pr i (t 8 r))), (2, .ref (A 5 i)), (6, .int (dScore t pr i (t 8 r))), (5, .ref (A 5 i)), (0, .ref (A 0 0)), (1, .ref (A 6 r))]) hx hb dX4_giveLift_71 hl (k := 6) rfl (by rw [nI_succ]; rfl) (by decide) rfl (fun ls hl => ?_)
            refine lv_goto (tgt := 7) hx hb dX4_giveLift_74 (by decide) ?_
            exact ihLP (i + 1) (some i) (dScore t pr i (t 8 r)) (by omega) (by omega) (by simp only [dBst, ← hbo, eq_false c_1, eq_true c_3, if_true, if_false, reduceIte, true_and, and_true, false_and, and_false, true_or, or_true, false_or, or_false, not_true_eq_false, not_false_eq_true, decide_true, decide_false, Bool.true_and, Bool.and_true, Bool.false_and, Bool.and_false, Bool.not_true, Bool.not_false, Bool.or_false, Bool.false_or, Bool.or_true, Bool.true_or]) (fun b hb9 => by cases hb9; omega) (fun b hb9 => by cases hb9; rfl) H locs hS hP ls (lv_sub hl [5, 6, 2, 1, 0] rfl)
          · have hb0 : b0 < i := hbl b0 rfl
            have hb0l : b0 < nl := by omega
            have hle0 := hle b0 rfl
            subst hle0
            have hl : lv_has ls 7 [(6, .int (dScore t pr i (t 8 r))), (5, .ref (A 5 i)), (0, .ref (A 0 0)), (1, .ref (A 6 r)), (2, .ref (A 5 b0)), (3, .int (dScore t pr b0 (t 8 r))), (4, .int (nI i))] := hl
            refine lv_aload_n hx hb dX4_giveLift_55 rfl (lv_at hl 4 rfl) ?_
            refine lv_ifnull hx hb dX4_giveLift_56 ?_
            refine lv_iload hx hb dX4_giveLift_59 (lv_at hl 0 rfl) ?_
            refine lv_iload_n hx hb dX4_giveLift_61 rfl (lv_at hl 5 rfl) ?_
            refine lv_icmp_ge (tgt := 71) hx hb dX4_giveLift_62 (by decide) (fun c_4 => ?_) (fun c_4 => ?_)
            · refine lv_iinc (v := (nI (i + 1))) (lv' := [(4, .int (nI (i + 1))), (6, .int (dScore t pr i (t 8 r))), (5, .ref (A 5 i)), (0, .ref (A 0 0)), (1, .ref (A 6 r)), (2, .ref (A 5 b0)), (3, .int (dScore t pr b0 (t 8 r)))]) hx hb dX4_giveLift_71 hl (k := 6) rfl (by rw [nI_succ]; rfl) (by decide) rfl (fun ls hl => ?_)
              refine lv_goto (tgt := 7) hx hb dX4_giveLift_74 (by decide) ?_
              exact ihLP (i + 1) (some b0) (dScore t pr b0 (t 8 r)) (by omega) (by omega) (by simp only [dBst, ← hbo, eq_false c_1, eq_true c_3, eq_true c_4, if_true, if_false, reduceIte, true_and, and_true, false_and, and_false, true_or, or_true, false_or, or_false, not_true_eq_false, not_false_eq_true, decide_true, decide_false, Bool.true_and, Bool.and_true, Bool.false_and, Bool.and_false, Bool.not_true, Bool.not_false, Bool.or_false, Bool.false_or, Bool.or_true, Bool.true_or]) (fun b hb9 => by cases hb9; omega) (fun b hb9 => by cases hb9; rfl) H locs hS hP ls (lv_sub hl [3, 4, 5, 6, 0] rfl)
            · refine lv_aload hx hb dX4_giveLift_65 (lv_at hl 1 rfl) ?_
              refine lv_astore_n (lv' := [(2, .ref (A 5 i)), (6, .int (dScore t pr i (t 8 r))), (5, .ref (A 5 i)), (0, .ref (A 0 0)), (1, .ref (A 6 r)), (3, .int (dScore t pr b0 (t 8 r))), (4, .int (nI i))]) hx hb dX4_giveLift_67 rfl hl (by decide) rfl (fun ls hl => ?_)
              refine lv_iload hx hb dX4_giveLift_68 (lv_at hl 1 rfl) ?_
              refine lv_istore_n (lv' := [(3, .int (dScore t pr i (t 8 r))), (2, .ref (A 5 i)), (6, .int (dScore t pr i (t 8 r))), (5, .ref (A 5 i)), (0, .ref (A 0 0)), (1, .ref (A 6 r)), (4, .int (nI i))]) hx hb dX4_giveLift_70 rfl hl (by decide) rfl (fun ls hl => ?_)
              refine lv_iinc (v := (nI (i + 1))) (lv' := [(4, .int (nI (i + 1))), (3, .int (dScore t pr i (t 8 r))), (2, .ref (A 5 i)), (6, .int (dScore t pr i (t 8 r))), (5, .ref (A 5 i)), (0, .ref (A 0 0)), (1, .ref (A 6 r))]) hx hb dX4_giveLift_71 hl (k := 6) rfl (by rw [nI_succ]; rfl) (by decide) rfl (fun ls hl => ?_)
              refine lv_goto (tgt := 7) hx hb dX4_giveLift_74 (by decide) ?_
              exact ihLP (i + 1) (some i) (dScore t pr i (t 8 r)) (by omega) (by omega) (by simp only [dBst, ← hbo, eq_false c_1, eq_true c_3, eq_false c_4, if_true, if_false, reduceIte, true_and, and_true, false_and, and_false, true_or, or_true, false_or, or_false, not_true_eq_false, not_false_eq_true, decide_true, decide_false, Bool.true_and, Bool.and_true, Bool.false_and, Bool.and_false, Bool.not_true, Bool.not_false, Bool.or_false, Bool.false_or, Bool.or_true, Bool.true_or]) (fun b hb9 => by cases hb9; omega) (fun b hb9 => by cases hb9; rfl) H locs hS hP ls (lv_sub hl [5, 6, 2, 1, 0] rfl)
  exact LP (nl + 1) 0 none 0 (Nat.zero_le _) (by omega) rfl (fun b hb9 => by cases hb9) (fun b hb9 => by cases hb9) _ _ hS hP ls (lv_sub hl [3, 4, 2, 1, 0] rfl)

set_option maxHeartbeats 4000000 in
set_option maxRecDepth 100000 in
theorem c_X4_giveLiftsToAll (l : Launch) (g : cG) (F : Nat → Prop) (A : Nat → Nat → Nat) (nb nl nr ne : Nat) (pr : List Nat) (t : TT)   : CT l yX4_giveLiftsToAll cX4_giveLiftsToAll 3 none 5 114 0 0 g F [.ref (A 0 0)] (PD g F A nb nl nr ne pr t) (fun v9 H9 => v9 = none ∧ PD g F A nb nl nr ne pr (dGall t pr nl pr.length) H9) := by
  refine CT.of (by decide) rfl ?_
  intro p e s m args below meth c E hr hk hnm hP ls hl
  have hS : va_S (nF F) s.heap s.heap [] := va_S.rf
  have hx := E.1
  have hb := E.2.1
  have hE_ml := E.2.2.1
  have hown := E.2.2.2.1
  have hts := E.2.2.2.2.1
  have hG := E.2.2.2.2.2
  have hd0 := hP.di.1
  have hl : lv_has ls 3 [(0, .ref (A 0 0))] := hl
  refine lv_iconst (v := 0) hx hb dX4_giveLiftsToAll_0 (by decide) ?_
  refine lv_istore_n (lv' := [(1, .int 0), (0, .ref (A 0 0))]) hx hb dX4_giveLiftsToAll_1 rfl hl (by decide) rfl (fun ls hl => ?_)
  have LP : ∀ (n9 i : Nat) (ti : TT), i ≤ pr.length → pr.length < i + n9 → (ti = dGall t pr nl i) → ∀ (H : Heap) (locs : List Loc), va_S (nF F) s.heap H locs → PD g F A nb nl nr ne pr ti H → ∀ (ls : Array Slot), lv_has ls 3 [(0, .ref (A 0 0)), (1, .int (nI i))] → W p l e { frames := 5, cells := 0, slots := 0, locals := 114 } s m args below meth c H locs 0 0 (MQ below (Qg F (fun v9 H9 => v9 = none ∧ PD g F A nb nl nr ne pr (dGall t pr nl pr.length) H9)) args s 0 0 (nF F)) (F0 m 2 ls []) := by
    intro n9
    induction n9 with
    | zero => intro i ti hi9 hn9; exact absurd hn9 (by omega)
    | succ n9 ihLP =>
      intro i ti hi_LP hn_LP hti H locs hS hP ls hl
      have hd1 := hP.di.1
      refine lv_iload_n hx hb dX4_giveLiftsToAll_2 rfl (lv_at hl 1 rfl) ?_
      refine lv_aload_n hx hb dX4_giveLiftsToAll_3 rfl (lv_at hl 0 rfl) ?_
      refine dg E hP 6 fk_X4_32 dX4_giveLiftsToAll_4 (v := .ref (A 2 3)) (kk := ?_)
      refine d_len E hS hP 3 pr.length hl ⟨rfl, rfl⟩ ⟨Nat.le_refl _, Nat.le_refl _⟩ dX4_giveLiftsToAll_7 (kk := fun locs hS => ?_)
      refine lv_icmp_ge (tgt := 52) hx hb dX4_giveLiftsToAll_10 (by decide) (fun c_1 => ?_) (fun c_1 => ?_)
      · have n_c_1 : pr.length ≤ i := (nI_leI (by omega) (by omega)).mp c_1
        have e2 : (dGall t pr nl pr.length) = ti := by rw [hti, show i = pr.length by omega]
        exact ct_vret E hr hk hS ⟨rfl, (by rw [e2]; exact hP)⟩ dX4_giveLiftsToAll_52
      · have n_c_1 : i < pr.length := Nat.lt_of_not_le (fun h9 => c_1 (nI_le h9 (by omega)))
        refine lv_aload_n hx hb dX4_giveLiftsToAll_13 rfl (lv_at hl 0 rfl) ?_
        refine dg E hP 6 fk_X4_32 dX4_giveLiftsToAll_14 (v := .ref (A 2 3)) (kk := ?_)
        refine lv_iload_n hx hb dX4_giveLiftsToAll_17 rfl (lv_at hl 1 rfl) ?_
        refine d_getP E hS hP i rfl (by omega) hl ⟨rfl, rfl⟩ ⟨Nat.le_refl _, Nat.le_refl _⟩ dX4_giveLiftsToAll_18 dX4_giveLiftsToAll_21 (kk := fun r_2 hr_2 ir_2 pr_2 locs hS => ?_)
        refine lv_astore_n (lv' := [(2, .ref (A 6 r_2)), (0, .ref (A 0 0)), (1, .int (nI i))]) hx hb dX4_giveLiftsToAll_24 rfl hl (by decide) rfl (fun ls hl => ?_)
        refine lv_aload_n hx hb dX4_giveLiftsToAll_25 rfl (lv_at hl 0 rfl) ?_
        refine dgn E hP 6 r_2 hr_2 kcX3 4 fn_X4_140 dX4_giveLiftsToAll_26 (v := .int (ti 13 r_2)) (kk := ?_)
        refine lv_bipush (v := 119) hx hb dX4_giveLiftsToAll_29 (by decide) ?_
        refine lv_icmp_ne (tgt := 46) hx hb dX4_giveLiftsToAll_31 (by decide) (fun c_3 => ?_) (fun c_3 => ?_)
        · refine lv_iinc (v := (nI (i + 1))) (lv' := [(1, .int (nI (i + 1))), (2, .ref (A 6 r_2)), (0, .ref (A 0 0))]) hx hb dX4_giveLiftsToAll_46 hl (k := 2) rfl (by rw [nI_succ]; rfl) (by decide) rfl (fun ls hl => ?_)
          refine lv_goto (tgt := 2) hx hb dX4_giveLiftsToAll_49 (by decide) ?_
          exact ihLP (i + 1) ti (by omega) (by omega) (by simp only [dGall, dGs, ← hti, pr_2, eq_false c_1, eq_false c_3, if_true, if_false, reduceIte, true_and, and_true, false_and, and_false, true_or, or_true, false_or, or_false, not_true_eq_false, not_false_eq_true, decide_true, decide_false, Bool.true_and, Bool.and_true, Bool.false_and, Bool.and_false, Bool.not_true, Bool.not_false, Bool.or_false, Bool.false_or, Bool.or_true, Bool.true_or]) H locs hS hP ls (lv_sub hl [2, 0] rfl)
        · refine lv_aload_n hx hb dX4_giveLiftsToAll_34 rfl (lv_at hl 0 rfl) ?_
          refine dgn E hP 6 r_2 hr_2 kcX3 5 fn_X4_144 dX4_giveLiftsToAll_35 (v := va_rf (lref A (ti 10 r_2))) (kk := ?_)
          refine lv_ifnonnullL (tgt := 46) (x := ti 10 r_2) hx hb dX4_giveLiftsToAll_38 (by decide) (fun c_4 => ?_) (fun c_4 => ?_)
          · refine lv_iinc (v := (nI (i + 1))) (lv' := [(1, .int (nI (i + 1))), (2, .ref (A 6 r_2)), (0, .ref (A 0 0))]) hx hb dX4_giveLiftsToAll_46 hl (k := 2) rfl (by rw [nI_succ]; rfl) (by decide) rfl (fun ls hl => ?_)
            refine lv_goto (tgt := 2) hx hb dX4_giveLiftsToAll_49 (by decide) ?_
            exact ihLP (i + 1) ti (by omega) (by omega) (by simp only [dGall, dGs, ← hti, pr_2, eq_false c_1, eq_true c_3, eq_false c_4, if_true, if_false, reduceIte, true_and, and_true, false_and, and_false, true_or, or_true, false_or, or_false, not_true_eq_false, not_false_eq_true, decide_true, decide_false, Bool.true_and, Bool.and_true, Bool.false_and, Bool.and_false, Bool.not_true, Bool.not_false, Bool.or_false, Bool.false_or, Bool.or_true, Bool.true_or]) H locs hS hP ls (lv_sub hl [2, 0] rfl)
          · refine lv_aload_n hx hb dX4_giveLiftsToAll_41 rfl (lv_at hl 1 rfl) ?_
            refine lv_aload_n hx hb dX4_giveLiftsToAll_42 rfl (lv_at hl 0 rfl) ?_
            refine ct_V E hS (c_X4_giveLift l g F A nb nl nr ne pr ti r_2 hr_2) ok_X4_giveLift lk_X4_132 hP (hP.recv hG) rfl hl ⟨rfl, rfl⟩ rfl ⟨Nat.le_refl _, Nat.le_refl _⟩ dX4_giveLiftsToAll_43 rfl (fun v9 H locs hv9 hS hz9 => ?_)
            obtain ⟨rfl, hP⟩ := hv9
            refine lv_iinc (v := (nI (i + 1))) (lv' := [(1, .int (nI (i + 1))), (2, .ref (A 6 r_2)), (0, .ref (A 0 0))]) hx hb dX4_giveLiftsToAll_46 hl (k := 2) rfl (by rw [nI_succ]; rfl) (by decide) rfl (fun ls hl => ?_)
            refine lv_goto (tgt := 2) hx hb dX4_giveLiftsToAll_49 (by decide) ?_
            exact ihLP (i + 1) (dGive ti pr nl r_2) (by omega) (by omega) (by simp only [dGall, dGs, ← hti, pr_2, eq_false c_1, eq_true c_3, eq_true c_4, if_true, if_false, reduceIte, true_and, and_true, false_and, and_false, true_or, or_true, false_or, or_false, not_true_eq_false, not_false_eq_true, decide_true, decide_false, Bool.true_and, Bool.and_true, Bool.false_and, Bool.and_false, Bool.not_true, Bool.not_false, Bool.or_false, Bool.false_or, Bool.or_true, Bool.true_or]) H locs hS hP ls (lv_sub hl [2, 0] rfl)
  exact LP (pr.length + 1) 0 t (Nat.zero_le _) (by omega) rfl _ _ hS hP ls (lv_sub hl [1, 0] rfl)

set_option maxHeartbeats 4000000 in
set_option maxRecDepth 100000 in
theorem c_X4_loseLift (l : Launch) (g : cG) (F : Nat → Prop) (A : Nat → Nat → Nat) (nb nl nr ne : Nat) (pr : List Nat) (t : TT) (q : Nat) (hq : q < nl) : CT l yX4_loseLift cX4_loseLift 5 (some .int) 3 64 0 0 g F [.ref (A 0 0), .ref (A 5 q)] (PD g F A nb nl nr ne pr t) (fun v9 H9 => v9 = some (.int ((dLose t pr q pr.length).2)) ∧ PD g F A nb nl nr ne pr ((dLose t pr q pr.length).1) H9) := by
  refine CT.of (by decide) rfl ?_
  intro p e s m args below meth c E hr hk hnm hP ls hl
  have hS : va_S (nF F) s.heap s.heap [] := va_S.rf
  have hx := E.1
  have hb := E.2.1
  have hE_ml := E.2.2.1
  have hown := E.2.2.2.1
  have hts := E.2.2.2.2.1
  have hG := E.2.2.2.2.2
  have hd0 := hP.di.1
  have hl : lv_has ls 5 [(0, .ref (A 0 0)), (1, .ref (A 5 q))] := hl
  refine lv_iconst (v := 0) hx hb dX4_loseLift_0 (by decide) ?_
  refine lv_istore_n (lv' := [(2, .int 0), (0, .ref (A 0 0)), (1, .ref (A 5 q))]) hx hb dX4_loseLift_1 rfl hl (by decide) rfl (fun ls hl => ?_)
  refine lv_iconst (v := 0) hx hb dX4_loseLift_2 (by decide) ?_
  refine lv_istore_n (lv' := [(3, .int 0), (2, .int 0), (0, .ref (A 0 0)), (1, .ref (A 5 q))]) hx hb dX4_loseLift_3 rfl hl (by decide) rfl (fun ls hl => ?_)
  have LP : ∀ (n9 i : Nat) (ti : TT) (a9 : Int32), i ≤ pr.length → pr.length < i + n9 → (ti = (dLose t pr q i).1) → (a9 = (dLose t pr q i).2) → ∀ (H : Heap) (locs : List Loc), va_S (nF F) s.heap H locs → PD g F A nb nl nr ne pr ti H → ∀ (ls : Array Slot), lv_has ls 5 [(0, .ref (A 0 0)), (1, .ref (A 5 q)), (2, .int a9), (3, .int (nI i))] → W p l e { frames := 3, cells := 0, slots := 0, locals := 64 } s m args below meth c H locs 0 0 (MQ below (Qg F (fun v9 H9 => v9 = some (.int ((dLose t pr q pr.length).2)) ∧ PD g F A nb nl nr ne pr ((dLose t pr q pr.length).1) H9)) args s 0 0 (nF F)) (F0 m 4 ls []) := by
    intro n9
    induction n9 with
    | zero => intro i ti a9 hi9 hn9; exact absurd hn9 (by omega)
    | succ n9 ihLP =>
      intro i ti a9 hi_LP hn_LP hti ha H locs hS hP ls hl
      have hd1 := hP.di.1
      refine lv_iload_n hx hb dX4_loseLift_4 rfl (lv_at hl 3 rfl) ?_
      refine lv_aload_n hx hb dX4_loseLift_5 rfl (lv_at hl 0 rfl) ?_
      refine dg E hP 6 fk_X4_32 dX4_loseLift_6 (v := .ref (A 2 3)) (kk := ?_)
      refine d_len E hS hP 3 pr.length hl ⟨rfl, rfl⟩ ⟨Nat.le_refl _, Nat.le_refl _⟩ dX4_loseLift_9 (kk := fun locs hS => ?_)
      refine lv_icmp_ge (tgt := 52) hx hb dX4_loseLift_12 (by decide) (fun c_1 => ?_) (fun c_1 => ?_)
      · have n_c_1 : pr.length ≤ i := (nI_leI (by omega) (by omega)).mp c_1
        refine lv_iload_n hx hb dX4_loseLift_52 rfl (lv_at hl 2 rfl) ?_
        have e1 : ((dLose t pr q pr.length).2) = a9 := by rw [ha, show i = pr.length by omega]
        have e2 : ((dLose t pr q pr.length).1) = ti := by rw [hti, show i = pr.length by omega]
        exact ct_iret E hr hk hS ⟨(by rw [e1]), (by rw [e2]; exact hP)⟩ dX4_loseLift_53
      · have n_c_1 : i < pr.length := Nat.lt_of_not_le (fun h9 => c_1 (nI_le h9 (by omega)))
        refine lv_aload_n hx hb dX4_loseLift_15 rfl (lv_at hl 0 rfl) ?_
        refine dg E hP 6 fk_X4_32 dX4_loseLift_16 (v := .ref (A 2 3)) (kk := ?_)
        refine lv_iload_n hx hb dX4_loseLift_19 rfl (lv_at hl 3 rfl) ?_
        refine d_getP E hS hP i rfl (by omega) hl ⟨rfl, rfl⟩ ⟨Nat.le_refl _, Nat.le_refl _⟩ dX4_loseLift_20 dX4_loseLift_23 (kk := fun r_2 hr_2 ir_2 pr_2 locs hS => ?_)
        refine lv_astore (lv' := [(4, .ref (A 6 r_2)), (0, .ref (A 0 0)), (1, .ref (A 5 q)), (2, .int a9), (3, .int (nI i))]) hx hb dX4_loseLift_26 hl (by decide) rfl (fun ls hl => ?_)
        refine lv_aload hx hb dX4_loseLift_28 (lv_at hl 0 rfl) ?_
        refine lv_aload_n hx hb dX4_loseLift_30 rfl (lv_at hl 2 rfl) ?_
        refine d_waitsFor E hS hP hr_2 hq hl ⟨rfl, rfl⟩ ⟨Nat.le_refl _, Nat.le_refl _⟩ dX4_loseLift_31 (kk := fun locs hS => ?_)
        refine bz_eq (tgt := 46) hx hb dX4_loseLift_34 (by decide) (fun c_3 => ?_) (fun c_3 => ?_)
        · refine lv_iinc (v := (nI (i + 1))) (lv' := [(3, .int (nI (i + 1))), (4, .ref (A 6 r_2)), (0, .ref (A 0 0)), (1, .ref (A 5 q)), (2, .int a9)]) hx hb dX4_loseLift_46 hl (k := 4) rfl (by rw [nI_succ]; rfl) (by decide) rfl (fun ls hl => ?_)
          refine lv_goto (tgt := 4) hx hb dX4_loseLift_49 (by decide) ?_
          exact ihLP (i + 1) ti a9 (by omega) (by omega) (by simp only [dLose, dLs, ← hti, ← ha, pr_2, eq_false c_1, eq_false c_3, if_true, if_false, reduceIte, true_and, and_true, false_and, and_false, true_or, or_true, false_or, or_false, not_true_eq_false, not_false_eq_true, decide_true, decide_false, Bool.true_and, Bool.and_true, Bool.false_and, Bool.and_false, Bool.not_true, Bool.not_false, Bool.or_false, Bool.false_or, Bool.or_true, Bool.true_or]) (by simp only [dLose, dLs, ← hti, ← ha, pr_2, eq_false c_1, eq_false c_3, if_true, if_false, reduceIte, true_and, and_true, false_and, and_false, true_or, or_true, false_or, or_false, not_true_eq_false, not_false_eq_true, decide_true, decide_false, Bool.true_and, Bool.and_true, Bool.false_and, Bool.and_false, Bool.not_true, Bool.not_false, Bool.or_false, Bool.false_or, Bool.or_true, Bool.true_or]) H locs hS hP ls (lv_sub hl [2, 3, 4, 0] rfl)
        · refine lv_aload hx hb dX4_loseLift_37 (lv_at hl 0 rfl) ?_
          refine lv_null hx hb dX4_loseLift_39 ?_
          refine dpn E hS hP 6 r_2 hr_2 kcX3 5 10 (x := (-1)) fn_X4_144 hs_10n (hP.di.p10 (Or.inl rfl)) rfl rfl dX4_loseLift_40 (kk := fun H locs hS hP => ?_)
          refine lv_iinc (v := a9 + 1) (lv' := [(2, .int (a9 + 1)), (4, .ref (A 6 r_2)), (0, .ref (A 0 0)), (1, .ref (A 5 q)), (3, .int (nI i))]) hx hb dX4_loseLift_43 hl (k := 3) rfl (by rfl) (by decide) rfl (fun ls hl => ?_)
          refine lv_iinc (v := (nI (i + 1))) (lv' := [(3, .int (nI (i + 1))), (2, .int (a9 + 1)), (4, .ref (A 6 r_2)), (0, .ref (A 0 0)), (1, .ref (A 5 q))]) hx hb dX4_loseLift_46 hl (k := 4) rfl (by rw [nI_succ]; rfl) (by decide) rfl (fun ls hl => ?_)
          refine lv_goto (tgt := 4) hx hb dX4_loseLift_49 (by decide) ?_
          exact ihLP (i + 1) (tu ti 10 r_2 (-1)) (a9 + 1) (by omega) (by omega) (by simp only [dLose, dLs, ← hti, ← ha, pr_2, eq_false c_1, eq_true c_3, if_true, if_false, reduceIte, true_and, and_true, false_and, and_false, true_or, or_true, false_or, or_false, not_true_eq_false, not_false_eq_true, decide_true, decide_false, Bool.true_and, Bool.and_true, Bool.false_and, Bool.and_false, Bool.not_true, Bool.not_false, Bool.or_false, Bool.false_or, Bool.or_true, Bool.true_or]) (by simp only [dLose, dLs, ← hti, ← ha, pr_2, eq_false c_1, eq_true c_3, if_true, if_false, reduceIte, true_and, and_true, false_and, and_false, true_or, or_true, false_or, or_false, not_true_eq_false, not_false_eq_true, decide_true, decide_false, Bool.true_and, Bool.and_true, Bool.false_and, Bool.and_false, Bool.not_true, Bool.not_false, Bool.or_false, Bool.false_or, Bool.or_true, Bool.true_or]) H locs hS hP ls (lv_sub hl [3, 4, 1, 0] rfl)
  exact LP (pr.length + 1) 0 t 0 (Nat.zero_le _) (by omega) rfl rfl _ _ hS hP ls (lv_sub hl [2, 3, 1, 0] rfl)

set_option maxHeartbeats 4000000 in
set_option maxRecDepth 100000 in
theorem c_X4_giveLiftsInTurn (l : Launch) (g : cG) (F : Nat → Prop) (A : Nat → Nat → Nat) (nb nl nr ne : Nat) (pr : List Nat) (t : TT)   : CT l yX4_giveLiftsInTurn cX4_giveLiftsInTurn 4 none 5 114 0 0 g F [.ref (A 0 0)] (PD g F A nb nl nr ne pr t) (fun v9 H9 => v9 = none ∧ PD g F A nb nl nr ne pr (dInT t pr nl) H9) := by
  refine CT.of (by decide) rfl ?_
  intro p e s m args below meth c E hr hk hnm hP ls hl
  have hS : va_S (nF F) s.heap s.heap [] := va_S.rf
  have hx := E.1
  have hb := E.2.1
  have hE_ml := E.2.2.1
  have hown := E.2.2.2.1
  have hts := E.2.2.2.2.1
  have hG := E.2.2.2.2.2
  have hd0 := hP.di.1
  have hl : lv_has ls 4 [(0, .ref (A 0 0))] := hl
  refine lv_aload_n hx hb dX4_giveLiftsInTurn_0 rfl (lv_at hl 0 rfl) ?_
  refine ct_V E hS (c_X4_floorInTurn l g F A nb nl nr ne pr t ) ok_X4_floorInTurn lk_X4_204 hP (hP.recv hG) rfl hl ⟨rfl, rfl⟩ rfl ⟨Nat.le_refl _, Nat.le_refl _⟩ dX4_giveLiftsInTurn_1 rfl (fun v9 H locs hv9 hS hz9 => ?_)
  obtain ⟨rfl, hP⟩ := hv9
  refine lv_istore_n (lv' := [(1, .int (dTurn t pr)), (0, .ref (A 0 0))]) hx hb dX4_giveLiftsInTurn_4 rfl hl (by decide) rfl (fun ls hl => ?_)
  refine lv_iconst (v := 0) hx hb dX4_giveLiftsInTurn_5 (by decide) ?_
  refine lv_istore_n (lv' := [(2, .int 0), (1, .int (dTurn t pr)), (0, .ref (A 0 0))]) hx hb dX4_giveLiftsInTurn_6 rfl hl (by decide) rfl (fun ls hl => ?_)
  have LA : ∀ (n9 i : Nat) (ti : TT), i ≤ nl → nl < i + n9 → (ti = dLall t pr i) → ∀ (H : Heap) (locs : List Loc), va_S (nF F) s.heap H locs → PD g F A nb nl nr ne pr ti H → ∀ (ls : Array Slot), lv_has ls 4 [(0, .ref (A 0 0)), (1, .int (dTurn t pr)), (2, .int (nI i))] → W p l e { frames := 5, cells := 0, slots := 0, locals := 114 } s m args below meth c H locs 0 0 (MQ below (Qg F (fun v9 H9 => v9 = none ∧ PD g F A nb nl nr ne pr (dInT t pr nl) H9)) args s 0 0 (nF F)) (F0 m 7 ls []) := by
    intro n9
    induction n9 with
    | zero => intro i ti hi9 hn9; exact absurd hn9 (by omega)
    | succ n9 ihLA =>
      intro i ti hi_LA hn_LA hti H locs hS hP ls hl
      have hd1 := hP.di.1
      refine lv_iload_n hx hb dX4_giveLiftsInTurn_7 rfl (lv_at hl 2 rfl) ?_
      refine lv_aload_n hx hb dX4_giveLiftsInTurn_8 rfl (lv_at hl 0 rfl) ?_
      refine dg E hP 4 fk_X4_26 dX4_giveLiftsInTurn_9 (v := .ref (A 2 1)) (kk := ?_)
      refine d_len E hS hP 1 nl hl ⟨rfl, rfl⟩ ⟨Nat.le_refl _, Nat.le_refl _⟩ dX4_giveLiftsInTurn_12 (kk := fun locs hS => ?_)
      refine lv_icmp_ge (tgt := 40) hx hb dX4_giveLiftsInTurn_15 (by decide) (fun c_1 => ?_) (fun c_1 => ?_)
      · have n_c_1 : nl ≤ i := (nI_leI (by omega) (by omega)).mp c_1
        refine lv_iconst (v := 0) hx hb dX4_giveLiftsInTurn_40 (by decide) ?_
        refine lv_istore_n (lv' := [(2, .int 0), (0, .ref (A 0 0)), (1, .int (dTurn t pr))]) hx hb dX4_giveLiftsInTurn_41 rfl hl (by decide) rfl (fun ls hl => ?_)
        have LB : ∀ (n9 j : Nat) (tj : TT), j ≤ pr.length → pr.length < j + n9 → (tj = dTall ti pr nl (dTurn t pr) j) → ∀ (H : Heap) (locs : List Loc), va_S (nF F) s.heap H locs → PD g F A nb nl nr ne pr tj H → ∀ (ls : Array Slot), lv_has ls 4 [(0, .ref (A 0 0)), (1, .int (dTurn t pr)), (2, .int (nI j))] → W p l e { frames := 5, cells := 0, slots := 0, locals := 114 } s m args below meth c H locs 0 0 (MQ below (Qg F (fun v9 H9 => v9 = none ∧ PD g F A nb nl nr ne pr (dInT t pr nl) H9)) args s 0 0 (nF F)) (F0 m 42 ls []) := by
          intro n9
          induction n9 with
          | zero => intro j tj hi9 hn9; exact absurd hn9 (by omega)
          | succ n9 ihLB =>
            intro j tj hi_LB hn_LB htj H locs hS hP ls hl
            have hd1 := hP.di.1
            refine lv_iload_n hx hb dX4_giveLiftsInTurn_42 rfl (lv_at hl 2 rfl) ?_
            refine lv_aload_n hx hb dX4_giveLiftsInTurn_43 rfl (lv_at hl 0 rfl) ?_
            refine dg E hP 6 fk_X4_32 dX4_giveLiftsInTurn_44 (v := .ref (A 2 3)) (kk := ?_)
            refine d_len E hS hP 3 pr.length hl ⟨rfl, rfl⟩ ⟨Nat.le_refl _, Nat.le_refl _⟩ dX4_giveLiftsInTurn_47 (kk := fun locs hS => ?_)
            refine lv_icmp_ge (tgt := 93) hx hb dX4_giveLiftsInTurn_50 (by decide) (fun c_2 => ?_) (fun c_2 => ?_)
            · have n_c_2 : pr.length ≤ j := (nI_leI (by omega) (by omega)).mp c_2
              have e2 : (dInT t pr nl) = tj := by rw [dInT, htj, hti, show j = pr.length by omega, show i = nl by omega]
              exact ct_vret E hr hk hS ⟨rfl, (by rw [e2]; exact hP)⟩ dX4_giveLiftsInTurn_93
            · have n_c_2 : j < pr.length := Nat.lt_of_not_le (fun h9 => c_2 (nI_le h9 (by omega)))
              refine lv_aload_n hx hb dX4_giveLiftsInTurn_53 rfl (lv_at hl 0 rfl) ?_
              refine dg E hP 6 fk_X4_32 dX4_giveLiftsInTurn_54 (v := .ref (A 2 3)) (kk := ?_)
              refine lv_iload_n hx hb dX4_giveLiftsInTurn_57 rfl (lv_at hl 2 rfl) ?_
              refine d_getP E hS hP j rfl (by omega) hl ⟨rfl, rfl⟩ ⟨Nat.le_refl _, Nat.le_refl _⟩ dX4_giveLiftsInTurn_58 dX4_giveLiftsInTurn_61 (kk := fun r_3 hr_3 ir_3 pr_3 locs hS => ?_)
              refine lv_astore_n (lv' := [(3, .ref (A 6 r_3)), (0, .ref (A 0 0)), (1, .int (dTurn t pr)), (2, .int (nI j))]) hx hb dX4_giveLiftsInTurn_64 rfl hl (by decide) rfl (fun ls hl => ?_)
              refine lv_aload_n hx hb dX4_giveLiftsInTurn_65 rfl (lv_at hl 0 rfl) ?_
              refine dgn E hP 6 r_3 hr_3 kcX3 4 fn_X4_140 dX4_giveLiftsInTurn_66 (v := .int (tj 13 r_3)) (kk := ?_)
              refine lv_bipush (v := 119) hx hb dX4_giveLiftsInTurn_69 (by decide) ?_
              refine lv_icmp_ne (tgt := 87) hx hb dX4_giveLiftsInTurn_71 (by decide) (fun c_4 => ?_) (fun c_4 => ?_)
              · refine lv_iinc (v := (nI (j + 1))) (lv' := [(2, .int (nI (j + 1))), (3, .ref (A 6 r_3)), (0, .ref (A 0 0)), (1, .int (dTurn t pr))]) hx hb dX4_giveLiftsInTurn_87 hl (k := 3) rfl (by rw [nI_succ]; rfl) (by decide) rfl (fun ls hl => ?_)
                refine lv_goto (tgt := 42) hx hb dX4_giveLiftsInTurn_90 (by decide) ?_
                exact ihLB (j + 1) tj (by omega) (by omega) (by simp only [dTall, dTs, ← htj, pr_3, eq_true c_1, eq_false c_2, eq_false c_4, if_true, if_false, reduceIte, true_and, and_true, false_and, and_false, true_or, or_true, false_or, or_false, not_true_eq_false, not_false_eq_true, decide_true, decide_false, Bool.true_and, Bool.and_true, Bool.false_and, Bool.and_false, Bool.not_true, Bool.not_false, Bool.or_false, Bool.false_or, Bool.or_true, Bool.true_or]) H locs hS hP ls (lv_sub hl [2, 3, 0] rfl)
              · refine lv_aload_n hx hb dX4_giveLiftsInTurn_74 rfl (lv_at hl 0 rfl) ?_
                refine dgn E hP 6 r_3 hr_3 kcX3 2 fn_X4_151 dX4_giveLiftsInTurn_75 (v := .int (tj 8 r_3)) (kk := ?_)
                refine lv_iload_n hx hb dX4_giveLiftsInTurn_78 rfl (lv_at hl 2 rfl) ?_
                refine lv_icmp_ne (tgt := 87) hx hb dX4_giveLiftsInTurn_79 (by decide) (fun c_5 => ?_) (fun c_5 => ?_)
                · refine lv_iinc (v := (nI (j + 1))) (lv' := [(2, .int (nI (j + 1))), (3, .ref (A 6 r_3)), (0, .ref (A 0 0)), (1, .int (dTurn t pr))]) hx hb dX4_giveLiftsInTurn_87 hl (k := 3) rfl (by rw [nI_succ]; rfl) (by decide) rfl (fun ls hl => ?_)
                  refine lv_goto (tgt := 42) hx hb dX4_giveLiftsInTurn_90 (by decide) ?_
                  exact ihLB (j + 1) tj (by omega) (by omega) (by simp only [dTall, dTs, ← htj, pr_3, eq_true c_1, eq_false c_2, eq_true c_4, eq_false c_5, if_true, if_false, reduceIte, true_and, and_true, false_and, and_false, true_or, or_true, false_or, or_false, not_true_eq_false, not_false_eq_true, decide_true, decide_false, Bool.true_and, Bool.and_true, Bool.false_and, Bool.and_false, Bool.not_true, Bool.not_false, Bool.or_false, Bool.false_or, Bool.or_true, Bool.true_or]) H locs hS hP ls (lv_sub hl [2, 3, 0] rfl)
                · refine lv_aload_n hx hb dX4_giveLiftsInTurn_82 rfl (lv_at hl 1 rfl) ?_
                  refine lv_aload_n hx hb dX4_giveLiftsInTurn_83 rfl (lv_at hl 0 rfl) ?_
                  refine ct_V E hS (c_X4_giveLift l g F A nb nl nr ne pr tj r_3 hr_3) ok_X4_giveLift lk_X4_132 hP (hP.recv hG) rfl hl ⟨rfl, rfl⟩ rfl ⟨Nat.le_refl _, Nat.le_refl _⟩ dX4_giveLiftsInTurn_84 rfl (fun v9 H locs hv9 hS hz9 => ?_)
                  obtain ⟨rfl, hP⟩ := hv9
                  refine lv_iinc (v := (nI (j + 1))) (lv' := [(2, .int (nI (j + 1))), (3, .ref (A 6 r_3)), (0, .ref (A 0 0)), (1, .int (dTurn t pr))]) hx hb dX4_giveLiftsInTurn_87 hl (k := 3) rfl (by rw [nI_succ]; rfl) (by decide) rfl (fun ls hl => ?_)
                  refine lv_goto (tgt := 42) hx hb dX4_giveLiftsInTurn_90 (by decide) ?_
                  exact ihLB (j + 1) (dGive tj pr nl r_3) (by omega) (by omega) (by simp only [dTall, dTs, ← htj, pr_3, eq_true c_1, eq_false c_2, eq_true c_4, eq_true c_5, if_true, if_false, reduceIte, true_and, and_true, false_and, and_false, true_or, or_true, false_or, or_false, not_true_eq_false, not_false_eq_true, decide_true, decide_false, Bool.true_and, Bool.and_true, Bool.false_and, Bool.and_false, Bool.not_true, Bool.not_false, Bool.or_false, Bool.false_or, Bool.or_true, Bool.true_or]) H locs hS hP ls (lv_sub hl [2, 3, 0] rfl)
        exact LB (pr.length + 1) 0 ti (Nat.zero_le _) (by omega) rfl _ _ hS hP ls (lv_sub hl [1, 2, 0] rfl)
      · have n_c_1 : i < nl := Nat.lt_of_not_le (fun h9 => c_1 (nI_le h9 (by omega)))
        refine lv_aload_n hx hb dX4_giveLiftsInTurn_18 rfl (lv_at hl 0 rfl) ?_
        refine lv_aload_n hx hb dX4_giveLiftsInTurn_19 rfl (lv_at hl 0 rfl) ?_
        refine dg E hP 4 fk_X4_26 dX4_giveLiftsInTurn_20 (v := .ref (A 2 1)) (kk := ?_)
        refine lv_iload_n hx hb dX4_giveLiftsInTurn_23 rfl (lv_at hl 2 rfl) ?_
        have h_6 : i < nl := by omega
        refine d_getL E hS hP i rfl h_6 hl ⟨rfl, rfl⟩ ⟨Nat.le_refl _, Nat.le_refl _⟩ dX4_giveLiftsInTurn_24 dX4_giveLiftsInTurn_27 (kk := fun locs hS => ?_)
        refine ct_V E hS (c_X4_loseLift l g F A nb nl nr ne pr ti i h_6) ok_X4_loseLift lk_X4_176 hP (hP.recv hG) rfl hl ⟨rfl, rfl⟩ rfl ⟨Nat.le_refl _, Nat.le_refl _⟩ dX4_giveLiftsInTurn_30 rfl (fun v9 H locs hv9 hS hz9 => ?_)
        obtain ⟨rfl, hP⟩ := hv9
        refine lv_pop hx hb dX4_giveLiftsInTurn_33 rfl ?_
        refine lv_iinc (v := (nI (i + 1))) (lv' := [(2, .int (nI (i + 1))), (0, .ref (A 0 0)), (1, .int (dTurn t pr))]) hx hb dX4_giveLiftsInTurn_34 hl (k := 2) rfl (by rw [nI_succ]; rfl) (by decide) rfl (fun ls hl => ?_)
        refine lv_goto (tgt := 7) hx hb dX4_giveLiftsInTurn_37 (by decide) ?_
        exact ihLA (i + 1) ((dLose ti pr i pr.length).1) (by omega) (by omega) (by rw [dLall, ← hti]) H locs hS hP ls (lv_sub hl [1, 2, 0] rfl)
  exact LA (nl + 1) 0 t (Nat.zero_le _) (by omega) rfl _ _ hS hP ls (lv_sub hl [2, 1, 0] rfl)

set_option maxHeartbeats 4000000 in
set_option maxRecDepth 100000 in
theorem c_X4_countWaiting (l : Launch) (g : cG) (F : Nat → Prop) (A : Nat → Nat → Nat) (nb nl nr ne : Nat) (pr : List Nat) (t : TT)   : CT l yX4_countWaiting cX4_countWaiting 3 none 3 64 0 0 g F [.ref (A 0 0)] (PD g F A nb nl nr ne pr t) (fun v9 H9 => v9 = none ∧ PD g F A nb nl nr ne pr (dCw t pr pr.length) H9) := by
  refine CT.of (by decide) rfl ?_
  intro p e s m args below meth c E hr hk hnm hP ls hl
  have hS : va_S (nF F) s.heap s.heap [] := va_S.rf
  have hx := E.1
  have hb := E.2.1
  have hE_ml := E.2.2.1
  have hown := E.2.2.2.1
  have hts := E.2.2.2.2.1
  have hG := E.2.2.2.2.2
  have hd0 := hP.di.1
  have hl : lv_has ls 3 [(0, .ref (A 0 0))] := hl
  refine lv_iconst (v := 0) hx hb dX4_countWaiting_0 (by decide) ?_
  refine lv_istore_n (lv' := [(1, .int 0), (0, .ref (A 0 0))]) hx hb dX4_countWaiting_1 rfl hl (by decide) rfl (fun ls hl => ?_)
  have LP : ∀ (n9 i : Nat) (ti : TT), i ≤ pr.length → pr.length < i + n9 → (ti = dCw t pr i) → ∀ (H : Heap) (locs : List Loc), va_S (nF F) s.heap H locs → PD g F A nb nl nr ne pr ti H → ∀ (ls : Array Slot), lv_has ls 3 [(0, .ref (A 0 0)), (1, .int (nI i))] → W p l e { frames := 3, cells := 0, slots := 0, locals := 64 } s m args below meth c H locs 0 0 (MQ below (Qg F (fun v9 H9 => v9 = none ∧ PD g F A nb nl nr ne pr (dCw t pr pr.length) H9)) args s 0 0 (nF F)) (F0 m 2 ls []) := by
    intro n9
    induction n9 with
    | zero => intro i ti hi9 hn9; exact absurd hn9 (by omega)
    | succ n9 ihLP =>
      intro i ti hi_LP hn_LP hti H locs hS hP ls hl
      have hd1 := hP.di.1
      refine lv_iload_n hx hb dX4_countWaiting_2 rfl (lv_at hl 1 rfl) ?_
      refine lv_aload_n hx hb dX4_countWaiting_3 rfl (lv_at hl 0 rfl) ?_
      refine dg E hP 6 fk_X4_32 dX4_countWaiting_4 (v := .ref (A 2 3)) (kk := ?_)
      refine d_len E hS hP 3 pr.length hl ⟨rfl, rfl⟩ ⟨Nat.le_refl _, Nat.le_refl _⟩ dX4_countWaiting_7 (kk := fun locs hS => ?_)
      refine lv_icmp_ge (tgt := 50) hx hb dX4_countWaiting_10 (by decide) (fun c_1 => ?_) (fun c_1 => ?_)
      · have n_c_1 : pr.length ≤ i := (nI_leI (by omega) (by omega)).mp c_1
        have e2 : (dCw t pr pr.length) = ti := by rw [hti, show i = pr.length by omega]
        exact ct_vret E hr hk hS ⟨rfl, (by rw [e2]; exact hP)⟩ dX4_countWaiting_50
      · have n_c_1 : i < pr.length := Nat.lt_of_not_le (fun h9 => c_1 (nI_le h9 (by omega)))
        refine lv_aload_n hx hb dX4_countWaiting_13 rfl (lv_at hl 0 rfl) ?_
        refine dg E hP 6 fk_X4_32 dX4_countWaiting_14 (v := .ref (A 2 3)) (kk := ?_)
        refine lv_iload_n hx hb dX4_countWaiting_17 rfl (lv_at hl 1 rfl) ?_
        refine d_getP E hS hP i rfl (by omega) hl ⟨rfl, rfl⟩ ⟨Nat.le_refl _, Nat.le_refl _⟩ dX4_countWaiting_18 dX4_countWaiting_21 (kk := fun r_2 hr_2 ir_2 pr_2 locs hS => ?_)
        refine lv_astore_n (lv' := [(2, .ref (A 6 r_2)), (0, .ref (A 0 0)), (1, .int (nI i))]) hx hb dX4_countWaiting_24 rfl hl (by decide) rfl (fun ls hl => ?_)
        refine lv_aload_n hx hb dX4_countWaiting_25 rfl (lv_at hl 0 rfl) ?_
        refine dgn E hP 6 r_2 hr_2 kcX3 4 fn_X4_140 dX4_countWaiting_26 (v := .int (ti 13 r_2)) (kk := ?_)
        refine lv_bipush (v := 119) hx hb dX4_countWaiting_29 (by decide) ?_
        refine lv_icmp_ne (tgt := 44) hx hb dX4_countWaiting_31 (by decide) (fun c_3 => ?_) (fun c_3 => ?_)
        · refine lv_iinc (v := (nI (i + 1))) (lv' := [(1, .int (nI (i + 1))), (2, .ref (A 6 r_2)), (0, .ref (A 0 0))]) hx hb dX4_countWaiting_44 hl (k := 2) rfl (by rw [nI_succ]; rfl) (by decide) rfl (fun ls hl => ?_)
          refine lv_goto (tgt := 2) hx hb dX4_countWaiting_47 (by decide) ?_
          exact ihLP (i + 1) ti (by omega) (by omega) (by simp only [dCw, dCs, ← hti, pr_2, eq_false c_1, eq_false c_3, if_true, if_false, reduceIte, true_and, and_true, false_and, and_false, true_or, or_true, false_or, or_false, not_true_eq_false, not_false_eq_true, decide_true, decide_false, Bool.true_and, Bool.and_true, Bool.false_and, Bool.and_false, Bool.not_true, Bool.not_false, Bool.or_false, Bool.false_or, Bool.or_true, Bool.true_or]) H locs hS hP ls (lv_sub hl [2, 0] rfl)
        · refine lv_aload_n hx hb dX4_countWaiting_34 rfl (lv_at hl 0 rfl) ?_
          refine lv_dup hx hb dX4_countWaiting_35 rfl ?_
          refine dgn E hP 6 r_2 hr_2 kcX3 6 fn_X4_160 dX4_countWaiting_36 (v := .int (ti 40 r_2)) (kk := ?_)
          refine lv_iconst (v := 1) hx hb dX4_countWaiting_39 (by decide) ?_
          refine lv_iadd hx hb dX4_countWaiting_40 ?_
          refine dpn E hS hP 6 r_2 hr_2 kcX3 6 40 fn_X4_160 hs_40 hP.di.p rfl rfl dX4_countWaiting_41 (kk := fun H locs hS hP => ?_)
          refine lv_iinc (v := (nI (i + 1))) (lv' := [(1, .int (nI (i + 1))), (2, .ref (A 6 r_2)), (0, .ref (A 0 0))]) hx hb dX4_countWaiting_44 hl (k := 2) rfl (by rw [nI_succ]; rfl) (by decide) rfl (fun ls hl => ?_)
          refine lv_goto (tgt := 2) hx hb dX4_countWaiting_47 (by decide) ?_
          exact ihLP (i + 1) (tu ti 40 r_2 ((ti 40 r_2) + 1)) (by omega) (by omega) (by simp only [dCw, dCs, ← hti, pr_2, eq_false c_1, eq_true c_3, if_true, if_false, reduceIte, true_and, and_true, false_and, and_false, true_or, or_true, false_or, or_false, not_true_eq_false, not_false_eq_true, decide_true, decide_false, Bool.true_and, Bool.and_true, Bool.false_and, Bool.and_false, Bool.not_true, Bool.not_false, Bool.or_false, Bool.false_or, Bool.or_true, Bool.true_or]) H locs hS hP ls (lv_sub hl [2, 0] rfl)
  exact LP (pr.length + 1) 0 t (Nat.zero_le _) (by omega) rfl _ _ hS hP ls (lv_sub hl [1, 0] rfl)

set_option maxHeartbeats 4000000 in
set_option maxRecDepth 100000 in
theorem c_X4_hasAimTowards (l : Launch) (g : cG) (F : Nat → Prop) (A : Nat → Nat → Nat) (nb nl nr ne : Nat) (pr : List Nat) (t : TT) (q : Nat) (x y : Int32) (hq : q < nl) : CT l yX4_hasAimTowards cX4_hasAimTowards 6 (some .boolean) 3 64 0 0 g F [.ref (A 0 0), .ref (A 5 q), .int x, .int y] (PD g F A nb nl nr ne pr t) (fun v9 H9 => v9 = some (.int (b2i (dAim t pr q x y = true))) ∧ PD g F A nb nl nr ne pr t H9) := by
  refine CT.of (by decide) rfl ?_
  intro p e s m args below meth c E hr hk hnm hP ls hl
  have hS : va_S (nF F) s.heap s.heap [] := va_S.rf
  have hx := E.1
  have hb := E.2.1
  have hE_ml := E.2.2.1
  have hown := E.2.2.2.1
  have hts := E.2.2.2.2.1
  have hG := E.2.2.2.2.2
  have hd0 := hP.di.1
  have hl : lv_has ls 6 [(0, .ref (A 0 0)), (1, .ref (A 5 q)), (2, .int x), (3, .int y)] := hl
  refine lv_iconst (v := 0) hx hb dX4_hasAimTowards_0 (by decide) ?_
  refine lv_istore (lv' := [(4, .int 0), (0, .ref (A 0 0)), (1, .ref (A 5 q)), (2, .int x), (3, .int y)]) hx hb dX4_hasAimTowards_1 hl (by decide) rfl (fun ls hl => ?_)
  have LP : ∀ (n9 i : Nat) , i ≤ pr.length → pr.length < i + n9 → (exB (fun i => (decide (t 13 (pg pr i) = 97 ∧ t 10 (pg pr i) = nI q) && decide (0 < (t 9 (pg pr i) - t 18 q) * x)) || (!decide (y = 0) && decide (t 13 (pg pr i) = 119 ∧ t 10 (pg pr i) = nI q) && decide (0 < (t 8 (pg pr i) - t 18 q) * x))) i = false) → ∀ (H : Heap) (locs : List Loc), va_S (nF F) s.heap H locs → PD g F A nb nl nr ne pr t H → ∀ (ls : Array Slot), lv_has ls 6 [(0, .ref (A 0 0)), (1, .ref (A 5 q)), (2, .int x), (3, .int y), (4, .int (nI i))] → W p l e { frames := 3, cells := 0, slots := 0, locals := 64 } s m args below meth c H locs 0 0 (MQ below (Qg F (fun v9 H9 => v9 = some (.int (b2i (dAim t pr q x y = true))) ∧ PD g F A nb nl nr ne pr t H9)) args s 0 0 (nF F)) (F0 m 3 ls []) := by
    intro n9
    induction n9 with
    | zero => intro i  hi9 hn9; exact absurd hn9 (by omega)
    | succ n9 ihLP =>
      intro i  hi_LP hn_LP hno H locs hS hP ls hl
      have hd1 := hP.di.1
      refine lv_iload hx hb dX4_hasAimTowards_3 (lv_at hl 4 rfl) ?_
      refine lv_aload_n hx hb dX4_hasAimTowards_5 rfl (lv_at hl 0 rfl) ?_
      refine dg E hP 6 fk_X4_32 dX4_hasAimTowards_6 (v := .ref (A 2 3)) (kk := ?_)
      refine d_len E hS hP 3 pr.length hl ⟨rfl, rfl⟩ ⟨Nat.le_refl _, Nat.le_refl _⟩ dX4_hasAimTowards_9 (kk := fun locs hS => ?_)
      refine lv_icmp_ge (tgt := 91) hx hb dX4_hasAimTowards_12 (by decide) (fun c_1 => ?_) (fun c_1 => ?_)
      · have n_c_1 : pr.length ≤ i := (nI_leI (by omega) (by omega)).mp c_1
        refine lv_iconst (v := 0) hx hb dX4_hasAimTowards_91 (by decide) ?_
        have e1 : (b2i (dAim t pr q x y = true)) = 0 := by exact b2i_f (by rw [dAim, show pr.length = i by omega, hno]; decide)
        exact ct_zret E hr (by decide) hk hS ⟨(by rw [e1]), hP⟩ dX4_hasAimTowards_92
      · have n_c_1 : i < pr.length := Nat.lt_of_not_le (fun h9 => c_1 (nI_le h9 (by omega)))
        refine lv_aload_n hx hb dX4_hasAimTowards_15 rfl (lv_at hl 0 rfl) ?_
        refine dg E hP 6 fk_X4_32 dX4_hasAimTowards_16 (v := .ref (A 2 3)) (kk := ?_)
        refine lv_iload hx hb dX4_hasAimTowards_19 (lv_at hl 4 rfl) ?_
        refine d_getP E hS hP i rfl (by omega) hl ⟨rfl, rfl⟩ ⟨Nat.le_refl _, Nat.le_refl _⟩ dX4_hasAimTowards_21 dX4_hasAimTowards_24 (kk := fun r_2 hr_2 ir_2 pr_2 locs hS => ?_)
        refine lv_astore (lv' := [(5, .ref (A 6 r_2)), (0, .ref (A 0 0)), (1, .ref (A 5 q)), (2, .int x), (3, .int y), (4, .int (nI i))]) hx hb dX4_hasAimTowards_27 hl (by decide) rfl (fun ls hl => ?_)
        refine lv_aload hx hb dX4_hasAimTowards_29 (lv_at hl 0 rfl) ?_
        refine lv_aload_n hx hb dX4_hasAimTowards_31 rfl (lv_at hl 2 rfl) ?_
        refine d_isIn E hS hP hr_2 hq hl ⟨rfl, rfl⟩ ⟨Nat.le_refl _, Nat.le_refl _⟩ dX4_hasAimTowards_32 (kk := fun locs hS => ?_)
        refine bz_eq (tgt := 55) hx hb dX4_hasAimTowards_35 (by decide) (fun c_3 => ?_) (fun c_3 => ?_)
        · refine lv_iload_n hx hb dX4_hasAimTowards_55 rfl (lv_at hl 4 rfl) ?_
          refine lv_if_eq (tgt := 85) hx hb dX4_hasAimTowards_56 (by decide) (fun c_4 => ?_) (fun c_4 => ?_)
          · refine lv_iinc (v := (nI (i + 1))) (lv' := [(4, .int (nI (i + 1))), (5, .ref (A 6 r_2)), (0, .ref (A 0 0)), (1, .ref (A 5 q)), (2, .int x), (3, .int y)]) hx hb dX4_hasAimTowards_85 hl (k := 5) rfl (by rw [nI_succ]; rfl) (by decide) rfl (fun ls hl => ?_)
            refine lv_goto (tgt := 3) hx hb dX4_hasAimTowards_88 (by decide) ?_
            exact ihLP (i + 1) (by omega) (by omega) (by show (exB _ i || _) = false; rw [hno]; simp only [pr_2, eq_false c_1, eq_true (Int32.not_le.mp c_1), eq_false c_3, eq_true c_4, if_true, if_false, reduceIte, true_and, and_true, false_and, and_false, true_or, or_true, false_or, or_false, not_true_eq_false, not_false_eq_true, decide_true, decide_false, Bool.true_and, Bool.and_true, Bool.false_and, Bool.and_false, Bool.not_true, Bool.not_false, Bool.or_false, Bool.false_or, Bool.or_true, Bool.true_or]) H locs hS hP ls (lv_sub hl [2, 3, 4, 5, 0] rfl)
          · refine lv_aload hx hb dX4_hasAimTowards_59 (lv_at hl 0 rfl) ?_
            refine lv_aload_n hx hb dX4_hasAimTowards_61 rfl (lv_at hl 2 rfl) ?_
            refine d_waitsFor E hS hP hr_2 hq hl ⟨rfl, rfl⟩ ⟨Nat.le_refl _, Nat.le_refl _⟩ dX4_hasAimTowards_62 (kk := fun locs hS => ?_)
            refine bz_eq (tgt := 85) hx hb dX4_hasAimTowards_65 (by decide) (fun c_5 => ?_) (fun c_5 => ?_)
            · refine lv_iinc (v := (nI (i + 1))) (lv' := [(4, .int (nI (i + 1))), (5, .ref (A 6 r_2)), (0, .ref (A 0 0)), (1, .ref (A 5 q)), (2, .int x), (3, .int y)]) hx hb dX4_hasAimTowards_85 hl (k := 5) rfl (by rw [nI_succ]; rfl) (by decide) rfl (fun ls hl => ?_)
              refine lv_goto (tgt := 3) hx hb dX4_hasAimTowards_88 (by decide) ?_
              exact ihLP (i + 1) (by omega) (by omega) (by show (exB _ i || _) = false; rw [hno]; simp only [pr_2, eq_false c_1, eq_true (Int32.not_le.mp c_1), eq_false c_3, eq_false c_4, eq_false c_5, if_true, if_false, reduceIte, true_and, and_true, false_and, and_false, true_or, or_true, false_or, or_false, not_true_eq_false, not_false_eq_true, decide_true, decide_false, Bool.true_and, Bool.and_true, Bool.false_and, Bool.and_false, Bool.not_true, Bool.not_false, Bool.or_false, Bool.false_or, Bool.or_true, Bool.true_or]) H locs hS hP ls (lv_sub hl [2, 3, 4, 5, 0] rfl)
            · refine lv_aload hx hb dX4_hasAimTowards_68 (lv_at hl 0 rfl) ?_
              refine dgn E hP 6 r_2 hr_2 kcX3 2 fn_X4_151 dX4_hasAimTowards_70 (v := .int (t 8 r_2)) (kk := ?_)
              refine lv_aload_n hx hb dX4_hasAimTowards_73 rfl (lv_at hl 2 rfl) ?_
              refine dgn E hP 5 q hq kcX2 2 fn_X4_148 dX4_hasAimTowards_74 (v := .int (t 18 q)) (kk := ?_)
              refine lv_isub hx hb dX4_hasAimTowards_77 ?_
              refine lv_iload_n hx hb dX4_hasAimTowards_78 rfl (lv_at hl 3 rfl) ?_
              refine lv_imul hx hb dX4_hasAimTowards_79 ?_
              refine lv_if_le (tgt := 85) hx hb dX4_hasAimTowards_80 (by decide) (fun c_6 => ?_) (fun c_6 => ?_)
              · refine lv_iinc (v := (nI (i + 1))) (lv' := [(4, .int (nI (i + 1))), (5, .ref (A 6 r_2)), (0, .ref (A 0 0)), (1, .ref (A 5 q)), (2, .int x), (3, .int y)]) hx hb dX4_hasAimTowards_85 hl (k := 5) rfl (by rw [nI_succ]; rfl) (by decide) rfl (fun ls hl => ?_)
                refine lv_goto (tgt := 3) hx hb dX4_hasAimTowards_88 (by decide) ?_
                exact ihLP (i + 1) (by omega) (by omega) (by show (exB _ i || _) = false; rw [hno]; simp only [pr_2, eq_false c_1, eq_true (Int32.not_le.mp c_1), eq_false c_3, eq_false c_4, eq_true c_5, eq_true c_6, eq_false (Int32.not_lt.mpr c_6), if_true, if_false, reduceIte, true_and, and_true, false_and, and_false, true_or, or_true, false_or, or_false, not_true_eq_false, not_false_eq_true, decide_true, decide_false, Bool.true_and, Bool.and_true, Bool.false_and, Bool.and_false, Bool.not_true, Bool.not_false, Bool.or_false, Bool.false_or, Bool.or_true, Bool.true_or]) H locs hS hP ls (lv_sub hl [2, 3, 4, 5, 0] rfl)
              · refine lv_iconst (v := 1) hx hb dX4_hasAimTowards_83 (by decide) ?_
                have e1 : (b2i (dAim t pr q x y = true)) = 1 := by exact b2i_t (exB_of (i := i) (by omega) (by simp only [pr_2, eq_false c_1, eq_true (Int32.not_le.mp c_1), eq_false c_3, eq_false c_4, eq_true c_5, eq_false c_6, eq_true (Int32.not_le.mp c_6), if_true, if_false, reduceIte, true_and, and_true, false_and, and_false, true_or, or_true, false_or, or_false, not_true_eq_false, not_false_eq_true, decide_true, decide_false, Bool.true_and, Bool.and_true, Bool.false_and, Bool.and_false, Bool.not_true, Bool.not_false, Bool.or_false, Bool.false_or, Bool.or_true, Bool.true_or]))
                exact ct_zret E hr (by decide) hk hS ⟨(by rw [e1]), hP⟩ dX4_hasAimTowards_84
        · refine lv_aload hx hb dX4_hasAimTowards_38 (lv_at hl 0 rfl) ?_
          refine dgn E hP 6 r_2 hr_2 kcX3 3 fn_X4_152 dX4_hasAimTowards_40 (v := .int (t 9 r_2)) (kk := ?_)
          refine lv_aload_n hx hb dX4_hasAimTowards_43 rfl (lv_at hl 2 rfl) ?_
          refine dgn E hP 5 q hq kcX2 2 fn_X4_148 dX4_hasAimTowards_44 (v := .int (t 18 q)) (kk := ?_)
          refine lv_isub hx hb dX4_hasAimTowards_47 ?_
          refine lv_iload_n hx hb dX4_hasAimTowards_48 rfl (lv_at hl 3 rfl) ?_
          refine lv_imul hx hb dX4_hasAimTowards_49 ?_
          refine lv_if_le (tgt := 55) hx hb dX4_hasAimTowards_50 (by decide) (fun c_7 => ?_) (fun c_7 => ?_)
          · refine lv_iload_n hx hb dX4_hasAimTowards_55 rfl (lv_at hl 4 rfl) ?_
            refine lv_if_eq (tgt := 85) hx hb dX4_hasAimTowards_56 (by decide) (fun c_8 => ?_) (fun c_8 => ?_)
            · refine lv_iinc (v := (nI (i + 1))) (lv' := [(4, .int (nI (i + 1))), (5, .ref (A 6 r_2)), (0, .ref (A 0 0)), (1, .ref (A 5 q)), (2, .int x), (3, .int y)]) hx hb dX4_hasAimTowards_85 hl (k := 5) rfl (by rw [nI_succ]; rfl) (by decide) rfl (fun ls hl => ?_)
              refine lv_goto (tgt := 3) hx hb dX4_hasAimTowards_88 (by decide) ?_
              exact ihLP (i + 1) (by omega) (by omega) (by show (exB _ i || _) = false; rw [hno]; simp only [pr_2, eq_false c_1, eq_true (Int32.not_le.mp c_1), eq_true c_3, eq_true c_7, eq_false (Int32.not_lt.mpr c_7), eq_true c_8, if_true, if_false, reduceIte, true_and, and_true, false_and, and_false, true_or, or_true, false_or, or_false, not_true_eq_false, not_false_eq_true, decide_true, decide_false, Bool.true_and, Bool.and_true, Bool.false_and, Bool.and_false, Bool.not_true, Bool.not_false, Bool.or_false, Bool.false_or, Bool.or_true, Bool.true_or]) H locs hS hP ls (lv_sub hl [2, 3, 4, 5, 0] rfl)
            · refine lv_aload hx hb dX4_hasAimTowards_59 (lv_at hl 0 rfl) ?_
              refine lv_aload_n hx hb dX4_hasAimTowards_61 rfl (lv_at hl 2 rfl) ?_
              refine d_waitsFor E hS hP hr_2 hq hl ⟨rfl, rfl⟩ ⟨Nat.le_refl _, Nat.le_refl _⟩ dX4_hasAimTowards_62 (kk := fun locs hS => ?_)
              refine bz_eq (tgt := 85) hx hb dX4_hasAimTowards_65 (by decide) (fun c_9 => ?_) (fun c_9 => ?_)
              · refine lv_iinc (v := (nI (i + 1))) (lv' := [(4, .int (nI (i + 1))), (5, .ref (A 6 r_2)), (0, .ref (A 0 0)), (1, .ref (A 5 q)), (2, .int x), (3, .int y)]) hx hb dX4_hasAimTowards_85 hl (k := 5) rfl (by rw [nI_succ]; rfl) (by decide) rfl (fun ls hl => ?_)
                refine lv_goto (tgt := 3) hx hb dX4_hasAimTowards_88 (by decide) ?_
                exact ihLP (i + 1) (by omega) (by omega) (by show (exB _ i || _) = false; rw [hno]; simp only [pr_2, eq_false c_1, eq_true (Int32.not_le.mp c_1), eq_true c_3, eq_true c_7, eq_false (Int32.not_lt.mpr c_7), eq_false c_8, eq_false c_9, if_true, if_false, reduceIte, true_and, and_true, false_and, and_false, true_or, or_true, false_or, or_false, not_true_eq_false, not_false_eq_true, decide_true, decide_false, Bool.true_and, Bool.and_true, Bool.false_and, Bool.and_false, Bool.not_true, Bool.not_false, Bool.or_false, Bool.false_or, Bool.or_true, Bool.true_or]) H locs hS hP ls (lv_sub hl [2, 3, 4, 5, 0] rfl)
              · refine lv_aload hx hb dX4_hasAimTowards_68 (lv_at hl 0 rfl) ?_
                refine dgn E hP 6 r_2 hr_2 kcX3 2 fn_X4_151 dX4_hasAimTowards_70 (v := .int (t 8 r_2)) (kk := ?_)
                refine lv_aload_n hx hb dX4_hasAimTowards_73 rfl (lv_at hl 2 rfl) ?_
                refine dgn E hP 5 q hq kcX2 2 fn_X4_148 dX4_hasAimTowards_74 (v := .int (t 18 q)) (kk := ?_)
                refine lv_isub hx hb dX4_hasAimTowards_77 ?_
                refine lv_iload_n hx hb dX4_hasAimTowards_78 rfl (lv_at hl 3 rfl) ?_
                refine lv_imul hx hb dX4_hasAimTowards_79 ?_
                refine lv_if_le (tgt := 85) hx hb dX4_hasAimTowards_80 (by decide) (fun c_10 => ?_) (fun c_10 => ?_)
                · refine lv_iinc (v := (nI (i + 1))) (lv' := [(4, .int (nI (i + 1))), (5, .ref (A 6 r_2)), (0, .ref (A 0 0)), (1, .ref (A 5 q)), (2, .int x), (3, .int y)]) hx hb dX4_hasAimTowards_85 hl (k := 5) rfl (by rw [nI_succ]; rfl) (by decide) rfl (fun ls hl => ?_)
                  refine lv_goto (tgt := 3) hx hb dX4_hasAimTowards_88 (by decide) ?_
                  exact ihLP (i + 1) (by omega) (by omega) (by show (exB _ i || _) = false; rw [hno]; simp only [pr_2, eq_false c_1, eq_true (Int32.not_le.mp c_1), eq_true c_3, eq_true c_7, eq_false (Int32.not_lt.mpr c_7), eq_false c_8, eq_true c_9, eq_true c_10, eq_false (Int32.not_lt.mpr c_10), if_true, if_false, reduceIte, true_and, and_true, false_and, and_false, true_or, or_true, false_or, or_false, not_true_eq_false, not_false_eq_true, decide_true, decide_false, Bool.true_and, Bool.and_true, Bool.false_and, Bool.and_false, Bool.not_true, Bool.not_false, Bool.or_false, Bool.false_or, Bool.or_true, Bool.true_or]) H locs hS hP ls (lv_sub hl [2, 3, 4, 5, 0] rfl)
                · refine lv_iconst (v := 1) hx hb dX4_hasAimTowards_83 (by decide) ?_
                  have e1 : (b2i (dAim t pr q x y = true)) = 1 := by exact b2i_t (exB_of (i := i) (by omega) (by simp only [pr_2, eq_false c_1, eq_true (Int32.not_le.mp c_1), eq_true c_3, eq_true c_7, eq_false (Int32.not_lt.mpr c_7), eq_false c_8, eq_true c_9, eq_false c_10, eq_true (Int32.not_le.mp c_10), if_true, if_false, reduceIte, true_and, and_true, false_and, and_false, true_or, or_true, false_or, or_false, not_true_eq_false, not_false_eq_true, decide_true, decide_false, Bool.true_and, Bool.and_true, Bool.false_and, Bool.and_false, Bool.not_true, Bool.not_false, Bool.or_false, Bool.false_or, Bool.or_true, Bool.true_or]))
                  exact ct_zret E hr (by decide) hk hS ⟨(by rw [e1]), hP⟩ dX4_hasAimTowards_84
          · refine lv_iconst (v := 1) hx hb dX4_hasAimTowards_53 (by decide) ?_
            have e1 : (b2i (dAim t pr q x y = true)) = 1 := by exact b2i_t (exB_of (i := i) (by omega) (by simp only [pr_2, eq_false c_1, eq_true (Int32.not_le.mp c_1), eq_true c_3, eq_false c_7, eq_true (Int32.not_le.mp c_7), if_true, if_false, reduceIte, true_and, and_true, false_and, and_false, true_or, or_true, false_or, or_false, not_true_eq_false, not_false_eq_true, decide_true, decide_false, Bool.true_and, Bool.and_true, Bool.false_and, Bool.and_false, Bool.not_true, Bool.not_false, Bool.or_false, Bool.false_or, Bool.or_true, Bool.true_or]))
            exact ct_zret E hr (by decide) hk hS ⟨(by rw [e1]), hP⟩ dX4_hasAimTowards_54
  exact LP (pr.length + 1) 0 (Nat.zero_le _) (by omega) rfl _ _ hS hP ls (lv_sub hl [1, 2, 3, 4, 0] rfl)

set_option maxHeartbeats 4000000 in
set_option maxRecDepth 100000 in
theorem c_X4_move (l : Launch) (g : cG) (F : Nat → Prop) (A : Nat → Nat → Nat) (nb nl nr ne : Nat) (pr : List Nat) (t : TT) (q : Nat) (hq : q < nl) : CT l yX4_move cX4_move 4 none 5 108 0 0 g F [.ref (A 0 0), .ref (A 5 q)] (PD g F A nb nl nr ne pr t) (fun v9 H9 => v9 = none ∧ PD g F A nb nl nr ne pr (dMove t pr q) H9) := by
  refine CT.of (by decide) rfl ?_
  intro p e s m args below meth c E hr hk hnm hP ls hl
  have hS : va_S (nF F) s.heap s.heap [] := va_S.rf
  have hx := E.1
  have hb := E.2.1
  have hE_ml := E.2.2.1
  have hown := E.2.2.2.1
  have hts := E.2.2.2.2.1
  have hG := E.2.2.2.2.2
  have hd0 := hP.di.1
  have hl : lv_has ls 4 [(0, .ref (A 0 0)), (1, .ref (A 5 q))] := hl
  refine lv_aload_n hx hb dX4_move_0 rfl (lv_at hl 1 rfl) ?_
  refine dgn E hP 5 q hq kcX2 3 fn_X4_180 dX4_move_1 (v := .int (t 21 q)) (kk := ?_)
  refine lv_if_eq (tgt := 11) hx hb dX4_move_4 (by decide) (fun c_1 => ?_) (fun c_1 => ?_)
  · refine lv_iconst (v := (-1)) hx hb dX4_move_11 (by decide) ?_
    refine lv_istore_n (lv' := [(2, .int (-1)), (0, .ref (A 0 0)), (1, .ref (A 5 q))]) hx hb dX4_move_12 rfl hl (by decide) rfl (fun ls hl => ?_)
    refine lv_aload_n hx hb dX4_move_13 rfl (lv_at hl 1 rfl) ?_
    refine lv_aload_n hx hb dX4_move_14 rfl (lv_at hl 2 rfl) ?_
    refine ct_V E hS (c_X4_hasRoom l g F A nb nl nr ne pr t q hq) ok_X4_hasRoom lk_X4_291 hP (hP.recv hG) rfl hl ⟨rfl, rfl⟩ rfl ⟨Nat.le_refl _, Nat.le_refl _⟩ dX4_move_15 rfl (fun v9 H locs hv9 hS hz9 => ?_)
    obtain ⟨rfl, hP⟩ := hv9
    refine lv_istore_n (lv' := [(3, .int (b2i (dRoom t pr q))), (2, .int (-1)), (0, .ref (A 0 0)), (1, .ref (A 5 q))]) hx hb dX4_move_18 rfl hl (by decide) rfl (fun ls hl => ?_)
    refine lv_aload_n hx hb dX4_move_19 rfl (lv_at hl 2 rfl) ?_
    refine lv_aload_n hx hb dX4_move_20 rfl (lv_at hl 3 rfl) ?_
    refine lv_iload_n hx hb dX4_move_21 rfl (lv_at hl 1 rfl) ?_
    refine lv_iload_n hx hb dX4_move_22 rfl (lv_at hl 0 rfl) ?_
    refine ct_V E hS (c_X4_hasAimTowards l g F A nb nl nr ne pr t q (-1) (b2i (dRoom t pr q)) hq) ok_X4_hasAimTowards lk_X4_297 hP (hP.recv hG) rfl hl ⟨rfl, rfl⟩ rfl ⟨Nat.le_refl _, Nat.le_refl _⟩ dX4_move_23 rfl (fun v9 H locs hv9 hS hz9 => ?_)
    obtain ⟨rfl, hP⟩ := hv9
    refine bz_eq (tgt := 42) hx hb dX4_move_26 (by decide) (fun c_2 => ?_) (fun c_2 => ?_)
    · refine lv_aload_n hx hb dX4_move_42 rfl (lv_at hl 2 rfl) ?_
      refine lv_aload_n hx hb dX4_move_43 rfl (lv_at hl 3 rfl) ?_
      refine lv_iload_n hx hb dX4_move_44 rfl (lv_at hl 1 rfl) ?_
      refine lv_ineg hx hb dX4_move_45 ?_
      refine lv_iload_n hx hb dX4_move_46 rfl (lv_at hl 0 rfl) ?_
      refine ct_V E hS (c_X4_hasAimTowards l g F A nb nl nr ne pr t q (-(-1)) (b2i (dRoom t pr q)) hq) ok_X4_hasAimTowards lk_X4_297 hP (hP.recv hG) rfl hl ⟨rfl, rfl⟩ rfl ⟨Nat.le_refl _, Nat.le_refl _⟩ dX4_move_47 rfl (fun v9 H locs hv9 hS hz9 => ?_)
      obtain ⟨rfl, hP⟩ := hv9
      refine bz_eq (tgt := 82) hx hb dX4_move_50 (by decide) (fun c_3 => ?_) (fun c_3 => ?_)
      · refine lv_aload_n hx hb dX4_move_82 rfl (lv_at hl 3 rfl) ?_
        refine dgn E hP 5 q hq kcX2 4 fn_X4_171 dX4_move_83 (v := .int (t 20 q)) (kk := ?_)
        refine lv_bipush (v := 111) hx hb dX4_move_86 (by decide) ?_
        refine lv_icmp_ne (tgt := 103) hx hb dX4_move_88 (by decide) (fun c_4 => ?_) (fun c_4 => ?_)
        · have e2 : (dMove t pr q) = t := by simp only [dMove, dStep, eq_true c_1, eq_false c_2, eq_false c_3, eq_false c_4, if_true, if_false, reduceIte, true_and, and_true, false_and, and_false, true_or, or_true, false_or, or_false, not_true_eq_false, not_false_eq_true, decide_true, decide_false, Bool.true_and, Bool.and_true, Bool.false_and, Bool.and_false, Bool.not_true, Bool.not_false, Bool.or_false, Bool.false_or, Bool.or_true, Bool.true_or]
          exact ct_vret E hr hk hS ⟨rfl, (by rw [e2]; exact hP)⟩ dX4_move_103
        · refine lv_aload_n hx hb dX4_move_91 rfl (lv_at hl 3 rfl) ?_
          refine lv_bipush (v := 99) hx hb dX4_move_92 (by decide) ?_
          refine dpn E hS hP 5 q hq kcX2 4 20 fn_X4_171 hs_20 (hP.di.p20 (by decide)) (by decide) (fit_c (by decide)) dX4_move_94 (kk := fun H locs hS hP => ?_)
          refine lv_aload_n hx hb dX4_move_97 rfl (lv_at hl 3 rfl) ?_
          refine lv_bipush (v := 20) hx hb dX4_move_98 (by decide) ?_
          refine dpn E hS hP 5 q hq kcX2 5 19 fn_X4_301 hs_19 hP.di.p rfl rfl dX4_move_100 (kk := fun H locs hS hP => ?_)
          have e2 : (dMove t pr q) = (tu (tu t 20 q 99) 19 q 20) := by simp only [dMove, dStep, eq_true c_1, eq_false c_2, eq_false c_3, eq_true c_4, if_true, if_false, reduceIte, true_and, and_true, false_and, and_false, true_or, or_true, false_or, or_false, not_true_eq_false, not_false_eq_true, decide_true, decide_false, Bool.true_and, Bool.and_true, Bool.false_and, Bool.and_false, Bool.not_true, Bool.not_false, Bool.or_false, Bool.false_or, Bool.or_true, Bool.true_or]
          exact ct_vret E hr hk hS ⟨rfl, (by rw [e2]; exact hP)⟩ dX4_move_103
      · refine lv_aload_n hx hb dX4_move_53 rfl (lv_at hl 3 rfl) ?_
        refine lv_aload_n hx hb dX4_move_54 rfl (lv_at hl 3 rfl) ?_
        refine dgn E hP 5 q hq kcX2 3 fn_X4_180 dX4_move_55 (v := .int (t 21 q)) (kk := ?_)
        refine lv_if_ne (tgt := 65) hx hb dX4_move_58 (by decide) (fun c_5 => ?_) (fun c_5 => ?_)
        · exact absurd c_1 c_5
        · refine lv_iconst (v := 1) hx hb dX4_move_61 (by decide) ?_
          refine lv_goto (tgt := 66) hx hb dX4_move_62 (by decide) ?_
          refine dpn E hS hP 5 q hq kcX2 3 21 fn_X4_180 hs_21 (hP.di.p21 (by decide)) (by decide) (fit_z (by decide)) dX4_move_66 (kk := fun H locs hS hP => ?_)
          refine lv_aload_n hx hb dX4_move_69 rfl (lv_at hl 3 rfl) ?_
          refine lv_dup hx hb dX4_move_70 rfl ?_
          refine dgn E hP 5 q hq kcX2 2 fn_X4_148 dX4_move_71 (v := .int (t 18 q)) (hv := congrArg (fun z => some (Value.int z)) (by simp [tu])) (kk := ?_)
          refine lv_iload_n hx hb dX4_move_74 rfl (lv_at hl 1 rfl) ?_
          refine lv_isub hx hb dX4_move_75 ?_
          refine dpn E hS hP 5 q hq kcX2 2 18 fn_X4_148 hs_18 hP.di.p rfl rfl dX4_move_76 (kk := fun H locs hS hP => ?_)
          refine lv_goto (tgt := 103) hx hb dX4_move_79 (by decide) ?_
          have e2 : (dMove t pr q) = (tu (tu t 21 q 1) 18 q ((t 18 q) - (-1))) := by simp only [dMove, dStep, eq_true c_1, eq_false c_2, eq_true c_3, eq_true c_5, if_true, if_false, reduceIte, true_and, and_true, false_and, and_false, true_or, or_true, false_or, or_false, not_true_eq_false, not_false_eq_true, decide_true, decide_false, Bool.true_and, Bool.and_true, Bool.false_and, Bool.and_false, Bool.not_true, Bool.not_false, Bool.or_false, Bool.false_or, Bool.or_true, Bool.true_or]
          exact ct_vret E hr hk hS ⟨rfl, (by rw [e2]; exact hP)⟩ dX4_move_103
    · refine lv_aload_n hx hb dX4_move_29 rfl (lv_at hl 3 rfl) ?_
      refine lv_dup hx hb dX4_move_30 rfl ?_
      refine dgn E hP 5 q hq kcX2 2 fn_X4_148 dX4_move_31 (v := .int (t 18 q)) (kk := ?_)
      refine lv_iload_n hx hb dX4_move_34 rfl (lv_at hl 1 rfl) ?_
      refine lv_iadd hx hb dX4_move_35 ?_
      refine dpn E hS hP 5 q hq kcX2 2 18 fn_X4_148 hs_18 hP.di.p rfl rfl dX4_move_36 (kk := fun H locs hS hP => ?_)
      refine lv_goto (tgt := 103) hx hb dX4_move_39 (by decide) ?_
      have e2 : (dMove t pr q) = (tu t 18 q ((t 18 q) + (-1))) := by simp only [dMove, dStep, eq_true c_1, eq_true c_2, if_true, if_false, reduceIte, true_and, and_true, false_and, and_false, true_or, or_true, false_or, or_false, not_true_eq_false, not_false_eq_true, decide_true, decide_false, Bool.true_and, Bool.and_true, Bool.false_and, Bool.and_false, Bool.not_true, Bool.not_false, Bool.or_false, Bool.false_or, Bool.or_true, Bool.true_or]
      exact ct_vret E hr hk hS ⟨rfl, (by rw [e2]; exact hP)⟩ dX4_move_103
  · refine lv_iconst (v := 1) hx hb dX4_move_7 (by decide) ?_
    refine lv_goto (tgt := 12) hx hb dX4_move_8 (by decide) ?_
    refine lv_istore_n (lv' := [(2, .int 1), (0, .ref (A 0 0)), (1, .ref (A 5 q))]) hx hb dX4_move_12 rfl hl (by decide) rfl (fun ls hl => ?_)
    refine lv_aload_n hx hb dX4_move_13 rfl (lv_at hl 1 rfl) ?_
    refine lv_aload_n hx hb dX4_move_14 rfl (lv_at hl 2 rfl) ?_
    refine ct_V E hS (c_X4_hasRoom l g F A nb nl nr ne pr t q hq) ok_X4_hasRoom lk_X4_291 hP (hP.recv hG) rfl hl ⟨rfl, rfl⟩ rfl ⟨Nat.le_refl _, Nat.le_refl _⟩ dX4_move_15 rfl (fun v9 H locs hv9 hS hz9 => ?_)
    obtain ⟨rfl, hP⟩ := hv9
    refine lv_istore_n (lv' := [(3, .int (b2i (dRoom t pr q))), (2, .int 1), (0, .ref (A 0 0)), (1, .ref (A 5 q))]) hx hb dX4_move_18 rfl hl (by decide) rfl (fun ls hl => ?_)
    refine lv_aload_n hx hb dX4_move_19 rfl (lv_at hl 2 rfl) ?_
    refine lv_aload_n hx hb dX4_move_20 rfl (lv_at hl 3 rfl) ?_
    refine lv_iload_n hx hb dX4_move_21 rfl (lv_at hl 1 rfl) ?_
    refine lv_iload_n hx hb dX4_move_22 rfl (lv_at hl 0 rfl) ?_
    refine ct_V E hS (c_X4_hasAimTowards l g F A nb nl nr ne pr t q 1 (b2i (dRoom t pr q)) hq) ok_X4_hasAimTowards lk_X4_297 hP (hP.recv hG) rfl hl ⟨rfl, rfl⟩ rfl ⟨Nat.le_refl _, Nat.le_refl _⟩ dX4_move_23 rfl (fun v9 H locs hv9 hS hz9 => ?_)
    obtain ⟨rfl, hP⟩ := hv9
    refine bz_eq (tgt := 42) hx hb dX4_move_26 (by decide) (fun c_6 => ?_) (fun c_6 => ?_)
    · refine lv_aload_n hx hb dX4_move_42 rfl (lv_at hl 2 rfl) ?_
      refine lv_aload_n hx hb dX4_move_43 rfl (lv_at hl 3 rfl) ?_
      refine lv_iload_n hx hb dX4_move_44 rfl (lv_at hl 1 rfl) ?_
      refine lv_ineg hx hb dX4_move_45 ?_
      refine lv_iload_n hx hb dX4_move_46 rfl (lv_at hl 0 rfl) ?_
      refine ct_V E hS (c_X4_hasAimTowards l g F A nb nl nr ne pr t q (-1) (b2i (dRoom t pr q)) hq) ok_X4_hasAimTowards lk_X4_297 hP (hP.recv hG) rfl hl ⟨rfl, rfl⟩ rfl ⟨Nat.le_refl _, Nat.le_refl _⟩ dX4_move_47 rfl (fun v9 H locs hv9 hS hz9 => ?_)
      obtain ⟨rfl, hP⟩ := hv9
      refine bz_eq (tgt := 82) hx hb dX4_move_50 (by decide) (fun c_7 => ?_) (fun c_7 => ?_)
      · refine lv_aload_n hx hb dX4_move_82 rfl (lv_at hl 3 rfl) ?_
        refine dgn E hP 5 q hq kcX2 4 fn_X4_171 dX4_move_83 (v := .int (t 20 q)) (kk := ?_)
        refine lv_bipush (v := 111) hx hb dX4_move_86 (by decide) ?_
        refine lv_icmp_ne (tgt := 103) hx hb dX4_move_88 (by decide) (fun c_8 => ?_) (fun c_8 => ?_)
        · have e2 : (dMove t pr q) = t := by simp only [dMove, dStep, eq_false c_1, eq_false c_6, eq_false c_7, eq_false c_8, if_true, if_false, reduceIte, true_and, and_true, false_and, and_false, true_or, or_true, false_or, or_false, not_true_eq_false, not_false_eq_true, decide_true, decide_false, Bool.true_and, Bool.and_true, Bool.false_and, Bool.and_false, Bool.not_true, Bool.not_false, Bool.or_false, Bool.false_or, Bool.or_true, Bool.true_or]
          exact ct_vret E hr hk hS ⟨rfl, (by rw [e2]; exact hP)⟩ dX4_move_103
        · refine lv_aload_n hx hb dX4_move_91 rfl (lv_at hl 3 rfl) ?_
          refine lv_bipush (v := 99) hx hb dX4_move_92 (by decide) ?_
          refine dpn E hS hP 5 q hq kcX2 4 20 fn_X4_171 hs_20 (hP.di.p20 (by decide)) (by decide) (fit_c (by decide)) dX4_move_94 (kk := fun H locs hS hP => ?_)
          refine lv_aload_n hx hb dX4_move_97 rfl (lv_at hl 3 rfl) ?_
          refine lv_bipush (v := 20) hx hb dX4_move_98 (by decide) ?_
          refine dpn E hS hP 5 q hq kcX2 5 19 fn_X4_301 hs_19 hP.di.p rfl rfl dX4_move_100 (kk := fun H locs hS hP => ?_)
          have e2 : (dMove t pr q) = (tu (tu t 20 q 99) 19 q 20) := by simp only [dMove, dStep, eq_false c_1, eq_false c_6, eq_false c_7, eq_true c_8, if_true, if_false, reduceIte, true_and, and_true, false_and, and_false, true_or, or_true, false_or, or_false, not_true_eq_false, not_false_eq_true, decide_true, decide_false, Bool.true_and, Bool.and_true, Bool.false_and, Bool.and_false, Bool.not_true, Bool.not_false, Bool.or_false, Bool.false_or, Bool.or_true, Bool.true_or]
          exact ct_vret E hr hk hS ⟨rfl, (by rw [e2]; exact hP)⟩ dX4_move_103
      · refine lv_aload_n hx hb dX4_move_53 rfl (lv_at hl 3 rfl) ?_
        refine lv_aload_n hx hb dX4_move_54 rfl (lv_at hl 3 rfl) ?_
        refine dgn E hP 5 q hq kcX2 3 fn_X4_180 dX4_move_55 (v := .int (t 21 q)) (kk := ?_)
        refine lv_if_ne (tgt := 65) hx hb dX4_move_58 (by decide) (fun c_9 => ?_) (fun c_9 => ?_)
        · refine lv_iconst (v := 0) hx hb dX4_move_65 (by decide) ?_
          refine dpn E hS hP 5 q hq kcX2 3 21 fn_X4_180 hs_21 (hP.di.p21 (by decide)) (by decide) (fit_z (by decide)) dX4_move_66 (kk := fun H locs hS hP => ?_)
          refine lv_aload_n hx hb dX4_move_69 rfl (lv_at hl 3 rfl) ?_
          refine lv_dup hx hb dX4_move_70 rfl ?_
          refine dgn E hP 5 q hq kcX2 2 fn_X4_148 dX4_move_71 (v := .int (t 18 q)) (hv := congrArg (fun z => some (Value.int z)) (by simp [tu])) (kk := ?_)
          refine lv_iload_n hx hb dX4_move_74 rfl (lv_at hl 1 rfl) ?_
          refine lv_isub hx hb dX4_move_75 ?_
          refine dpn E hS hP 5 q hq kcX2 2 18 fn_X4_148 hs_18 hP.di.p rfl rfl dX4_move_76 (kk := fun H locs hS hP => ?_)
          refine lv_goto (tgt := 103) hx hb dX4_move_79 (by decide) ?_
          have e2 : (dMove t pr q) = (tu (tu t 21 q 0) 18 q ((t 18 q) - 1)) := by simp only [dMove, dStep, eq_false c_1, eq_false c_6, eq_true c_7, eq_false c_9, if_true, if_false, reduceIte, true_and, and_true, false_and, and_false, true_or, or_true, false_or, or_false, not_true_eq_false, not_false_eq_true, decide_true, decide_false, Bool.true_and, Bool.and_true, Bool.false_and, Bool.and_false, Bool.not_true, Bool.not_false, Bool.or_false, Bool.false_or, Bool.or_true, Bool.true_or]
          exact ct_vret E hr hk hS ⟨rfl, (by rw [e2]; exact hP)⟩ dX4_move_103
        · exact absurd c_9 c_1
    · refine lv_aload_n hx hb dX4_move_29 rfl (lv_at hl 3 rfl) ?_
      refine lv_dup hx hb dX4_move_30 rfl ?_
      refine dgn E hP 5 q hq kcX2 2 fn_X4_148 dX4_move_31 (v := .int (t 18 q)) (kk := ?_)
      refine lv_iload_n hx hb dX4_move_34 rfl (lv_at hl 1 rfl) ?_
      refine lv_iadd hx hb dX4_move_35 ?_
      refine dpn E hS hP 5 q hq kcX2 2 18 fn_X4_148 hs_18 hP.di.p rfl rfl dX4_move_36 (kk := fun H locs hS hP => ?_)
      refine lv_goto (tgt := 103) hx hb dX4_move_39 (by decide) ?_
      have e2 : (dMove t pr q) = (tu t 18 q ((t 18 q) + 1)) := by simp only [dMove, dStep, eq_false c_1, eq_true c_6, if_true, if_false, reduceIte, true_and, and_true, false_and, and_false, true_or, or_true, false_or, or_false, not_true_eq_false, not_false_eq_true, decide_true, decide_false, Bool.true_and, Bool.and_true, Bool.false_and, Bool.and_false, Bool.not_true, Bool.not_false, Bool.or_false, Bool.false_or, Bool.or_true, Bool.true_or]
      exact ct_vret E hr hk hS ⟨rfl, (by rw [e2]; exact hP)⟩ dX4_move_103
