theorem dLi_le {q : Nat} {s : DS} : ∀ (n i : Nat), i ≤ n → n ≤ s.2.1.length → (dLi q s i).1.2.2 ≤ (dLi q s n).1.2.2
  | 0, i, h, _ => by rw [show i = 0 by omega]; exact Nat.le_refl _
  | n + 1, i, h, h2 => by
    by_cases c : i = n + 1
    · rw [c]; exact Nat.le_refl _
    · refine Nat.le_trans (dLi_le n i (by omega) (by omega)) ?_
      obtain ⟨h3, h4⟩ := dLi_ok (q := q) (s := s) n (by omega)
      exact (dLiS_ok (q := q) (r := pg s.2.1 n) (s := (dLi q s n).1) (a := (dLi q s n).2) (by rw [h4]; exact pg_mem h2)).1.1
theorem dLi_01 {q : Nat} {s : DS} : ∀ (n : Nat), (dLi q s n).2 = 0 ∨ (dLi q s n).2 = 1
  | 0 => Or.inl rfl
  | n + 1 => by
    show (dLiS q _ _ _).2 = 0 ∨ (dLiS q _ _ _).2 = 1
    unfold dLiS
    repeat' split
    · exact Or.inr rfl
    · exact dLi_01 n
    · exact dLi_01 n
    · exact dLi_01 n
theorem dLi_ex {q : Nat} {t : TT} {pr : List Nat} {ne : Nat} : ∃ (t2 : TT) (e2 : Nat) (a2 : Int32), dLi q (t, pr, ne) pr.length = ((t2, pr, e2), a2) := by
  obtain ⟨h1, h2⟩ := dLi_ok (q := q) (s := (t, pr, ne)) pr.length (Nat.le_refl _)
  generalize dLi q (t, pr, ne) pr.length = x at h2
  obtain ⟨⟨t2, p2, e2⟩, a2⟩ := x
  cases h2
  exact ⟨t2, e2, a2, rfl⟩
theorem dRall_le {s : DS} : ∀ (n i : Nat), i ≤ n → (dRall s i).2.2 ≤ (dRall s n).2.2
  | 0, i, h => by rw [show i = 0 by omega]; exact Nat.le_refl _
  | n + 1, i, h => by
    by_cases c : i = n + 1
    · rw [c]; exact Nat.le_refl _
    · exact Nat.le_trans (dRall_le n i (by omega)) (dRun_ok (q := n) (s := dRall s n)).1
section CNF
variable {p : Program} {l : Launch} {e : Env} {R : Room} {s : State} {m : MethodId} {args : Array Value} {below : List Frame} {meth : Method} {c : Code} {H : Heap} {locs : List Loc} {cells slots : Nat} {Q : State → Prop}
variable {cc : ByteArray} {pc nL : Nat} {ls : Array Slot} {rest : List Value} {own : String} {g : cG} {F F1 : Nat → Prop} {H0 : Heap} {post : Option Value → Heap → Prop} {mc ms : Nat}
variable {y : MethodName} {b : ByteArray} {n k fr lo mc1 ms1 idx o : Nat} {ret : Option FieldType} {As : List Value} {P : Heap → Prop}
variable {A : Nat → Nat → Nat} {nb nl nr ne : Nat} {pr : List Nat} {t : TT}
theorem ct_VNF (hF : ∀ q, F q → F1 q) (E : EN p s m c cc nL args own g F) (hS : va_S (nF F) s.heap H locs) (hM : CT l y b n ret fr lo mc1 ms1 g F1 (.ref o :: As) P post) (ok : okV y b n ret k) {host : String} (hlk : Cond.methodLinkNest own idx y host ∈ lw_n) (hP : P H)
    (ho : ∃ cellB : Cell, H[o]? = some cellB ∧ cellB.vm.isStatics = false ∧ s.vm.findClass y.cls = some cellB.cls) (hlen : As.length = k) {lv : List (Nat × Value)} (hls : lv_has ls nL lv) (hR : Nat.ble (fr + 1) R.frames = true ∧ Nat.ble (8 + (n + 11) + lo) R.locals = true) (hst : Nat.ble (rest.map fun v => v.category).sum 8 = true)
    (hf : cells + mc1 ≤ R.cells ∧ slots + ms1 ≤ R.slots) (hd : decode cc pc = .ok (.invokevirtual idx, 3))
    {st0 : List Value} (hst0 : st0 = As.reverse ++ .ref o :: rest)
    (kk : ∀ (v : Option Value) (H1 : Heap) (locs1 : List Loc), post v H1 → va_S (nF F) s.heap H1 locs1 → H.size ≤ H1.size → (∀ q, q < H.size → F1 q → H1[q]? = H[q]?) → W p l e R s m args below meth c H1 locs1 (cells + mc1) (slots + ms1) Q (F0 m (pc + 3) ls (v.toList ++ rest))) : W p l e R s m args below meth c H locs cells slots Q (F0 m pc ls st0) := by
  obtain ⟨hx, hb, hml, hown, hts, hG⟩ := E
  obtain ⟨⟨k1, k2, k3, k4, k5⟩, k6, k7⟩ := ok
  obtain ⟨q1, q2⟩ := ct_preF (P := P) hF hG hS hP (.ref o :: As)
  refine ct_goF hF (va_runVN (As := As) (rest := rest) (Ts := lw_g) (own := own) (nL := nL) ⟨hx, hb, hml, hown, hts⟩ hM
    ⟨va_cnB k hts (ms_gi k2) rfl rfl rfl (hG.2.1 _ hlk) (hts _ k1) ⟨k3, k4, k5⟩ ⟨Nat.le_of_ble_eq_true hR.1, Nat.le_of_ble_eq_true hR.2⟩, hts _ k6, hts _ k7⟩
    ⟨q1, ho, q2⟩ rfl hlen hls.1 hst0 (lv_room (Nat.le_of_ble_eq_true hst)) hd hf) hS kk
theorem d_clean (E : EN p s m c cc nL args RX4 g F) (hS : va_S (nF F) s.heap H locs) (hP : PD g F A nb nl nr ne pr t H) {q : Nat} (hq : q < nl) {lv : List (Nat × Value)} (hls : lv_has ls nL lv) (hR : Nat.ble 1 R.frames = true ∧ Nat.ble 20 R.locals = true) (hf : cells ≤ R.cells ∧ slots ≤ R.slots) (hd : decode cc pc = .ok (.invokevirtual 272, 3)) (hst : Nat.ble (rest.map fun v => v.category).sum 8 = true := by rfl)
    (kk : ∀ (H1 : Heap) (locs1 : List Loc), va_S (nF F) s.heap H1 locs1 → PD g F A nb nl nr ne pr (dClean t q) H1 → W p l e R s m args below meth c H1 locs1 cells slots Q (F0 m (pc + 3) ls rest)) : W p l e R s m args below meth c H locs cells slots Q (F0 m pc ls (.ref (A 5 q) :: rest)) := by
  have ho := hP.ob (k := 5) hq (by decide) (by decide)
  refine ct_VNF (F1 := fun z => F z ∨ z ≠ A 5 q) (fun z h => Or.inl h) E hS (c_X2_cleanForOneTick l g (fun z => F z ∨ z ≠ A 5 q) (A 5 q) (.int (nI q)) (.int (t 17 q)) (.int (t 18 q)) (.int (t 21 q)) (t 20 q) (t 19 q) (fun z => z.elim ho.2 (fun z => z rfl))) ok_X2_cleanForOneTick mn_X4_272 ho.1 (hP.recvK E.2.2.2.2.2 (k := 5) hq (by decide) (by decide) kcX2 rfl) rfl hls hR hst hf hd rfl (fun v9 H1 locs1 hv9 hS1 hz hfr => ?_)
  obtain ⟨rfl, h1⟩ := hv9
  have hd5 := hP.di.2.2.2.2.2.1 q hq
  have e0 : dO A (dClean t q) 5 q = (5, [.int (nI q), .int (t 17 q), .int (t 18 q), .int (t 21 q), .int (if 0 < t 19 q - 1 then t 20 q else 115), .int (t 19 q - 1)]) := by simp [dO, dClean, tu]
  have oq : ∀ z, z < H.size → z ≠ A 5 q → H1[z]? = H[z]? := fun z hz hn => hfr z hz (Or.inr hn)
  have hdi : DI nb nl nr ne pr (dClean t q) := by
    unfold dClean
    refine DI.p20 hP.di.p ?_
    split
    · exact hd5
    · rfl
  refine kk H1 locs1 hS1 ?_
  exact hP.putk (k := 5) hq (by decide) (by decide) (fun C k2 i2 c b => by unfold dClean; rw [dO_tu c b, dO_tu c b]) (fun j hj => by unfold dClean; rw [tu_r (by omega), tu_r (by omega)]) hdi hz (by rw [e0]; exact h1) oq
end CNF

set_option maxHeartbeats 4000000 in
set_option maxRecDepth 100000 in
theorem c_X4_goAboard (l : Launch) (g : cG) (F : Nat → Prop) (A : Nat → Nat → Nat) (nb nl nr ne : Nat) (pr : List Nat) (t : TT) (r : Nat) (hr9 : r < nr) (hne : ne < 99) : CT l yX4_goAboard cX4_goAboard 2 none 8 215 2 153 g F [.ref (A 0 0), .ref (A 6 r)] (PD g F A nb nl nr ne pr t) (fun v9 H9 => v9 = none ∧ PD g F A nb nl nr (ne + 1) pr (dAbo t ne r) H9) := by
  refine CT.of (by decide) rfl ?_
  intro p e s m args below meth c E hr hk hnm hP ls hl
  have hS : va_S (nF F) s.heap s.heap [] := va_S.rf
  have hx := E.1
  have hb := E.2.1
  have hE_ml := E.2.2.1
  have hown := E.2.2.2.1
  have hts := E.2.2.2.2.1
  have hG := E.2.2.2.2.2
  have hd0 := hP.di.1
  have hl : lv_has ls 2 [(0, .ref (A 0 0)), (1, .ref (A 6 r))] := hl
  refine lv_aload_n hx hb dX4_goAboard_0 rfl (lv_at hl 1 rfl) ?_
  refine lv_bipush (v := 97) hx hb dX4_goAboard_1 (by decide) ?_
  refine dpn E hS hP 6 r hr9 kcX3 4 13 fn_X4_140 hs_13 (hP.di.p13 (by decide)) (by decide) (fit_c (by decide)) dX4_goAboard_3 (kk := fun H locs hS hP => ?_)
  refine lv_aload_n hx hb dX4_goAboard_6 rfl (lv_at hl 0 rfl) ?_
  refine lv_aload_n hx hb dX4_goAboard_7 rfl (lv_at hl 1 rfl) ?_
  refine ct_V E hS (c_X4_note l g F A nb nl nr ne pr (tu t 13 r 97) r hr9 hne) ok_X4_note lk_X4_128 hP (hP.recv hG) rfl hl ⟨rfl, rfl⟩ rfl ⟨Nat.le_of_ble_eq_true rfl, Nat.le_of_ble_eq_true rfl⟩ dX4_goAboard_8 rfl (fun v9 H locs hv9 hS hz9 => ?_)
  obtain ⟨rfl, hP⟩ := hv9
  have e2 : (dAbo t ne r) = (dNote (tu t 13 r 97) ne r) := by rfl
  exact ct_vret E hr hk hS ⟨rfl, (by rw [e2]; exact hP)⟩ dX4_goAboard_11 (Nat.le_of_ble_eq_true rfl) (Nat.le_of_ble_eq_true rfl)

set_option maxHeartbeats 4000000 in
set_option maxRecDepth 100000 in
theorem c_X4_finish (l : Launch) (g : cG) (F : Nat → Prop) (A : Nat → Nat → Nat) (nb nl nr ne : Nat) (pr : List Nat) (t : TT) (r : Nat) (f : Int32) (hr9 : r < nr) (hne : ne < 99) : CT l yX4_finish cX4_finish 3 none 8 215 2 153 g F [.ref (A 0 0), .ref (A 6 r), .int f] (PD g F A nb nl nr ne pr t) (fun v9 H9 => v9 = none ∧ PD g F A nb nl nr (ne + 1) pr (dFin t ne r f) H9) := by
  refine CT.of (by decide) rfl ?_
  intro p e s m args below meth c E hr hk hnm hP ls hl
  have hS : va_S (nF F) s.heap s.heap [] := va_S.rf
  have hx := E.1
  have hb := E.2.1
  have hE_ml := E.2.2.1
  have hown := E.2.2.2.1
  have hts := E.2.2.2.2.1
  have hG := E.2.2.2.2.2
  have hd0 := hP.di.1
  have hl : lv_has ls 3 [(0, .ref (A 0 0)), (1, .ref (A 6 r)), (2, .int f)] := hl
  refine lv_aload_n hx hb dX4_finish_0 rfl (lv_at hl 1 rfl) ?_
  refine lv_bipush (v := 100) hx hb dX4_finish_1 (by decide) ?_
  refine dpn E hS hP 6 r hr9 kcX3 4 13 fn_X4_140 hs_13 (hP.di.p13 (by decide)) (by decide) (fit_c (by decide)) dX4_finish_3 (kk := fun H locs hS hP => ?_)
  refine lv_aload_n hx hb dX4_finish_6 rfl (lv_at hl 1 rfl) ?_
  refine lv_iload_n hx hb dX4_finish_7 rfl (lv_at hl 2 rfl) ?_
  refine dpn E hS hP 6 r hr9 kcX3 2 8 fn_X4_151 hs_8 hP.di.p rfl rfl dX4_finish_8 (kk := fun H locs hS hP => ?_)
  refine lv_aload_n hx hb dX4_finish_11 rfl (lv_at hl 1 rfl) ?_
  refine lv_null hx hb dX4_finish_12 ?_
  refine dpn E hS hP 6 r hr9 kcX3 5 10 (x := (-1)) fn_X4_144 hs_10n (hP.di.p10 (Or.inl rfl)) rfl rfl dX4_finish_13 (kk := fun H locs hS hP => ?_)
  refine lv_aload_n hx hb dX4_finish_16 rfl (lv_at hl 0 rfl) ?_
  refine lv_aload_n hx hb dX4_finish_17 rfl (lv_at hl 1 rfl) ?_
  refine ct_V E hS (c_X4_note l g F A nb nl nr ne pr (tu (tu (tu t 13 r 100) 8 r f) 10 r (-1)) r hr9 hne) ok_X4_note lk_X4_128 hP (hP.recv hG) rfl hl ⟨rfl, rfl⟩ rfl ⟨Nat.le_of_ble_eq_true rfl, Nat.le_of_ble_eq_true rfl⟩ dX4_finish_18 rfl (fun v9 H locs hv9 hS hz9 => ?_)
  obtain ⟨rfl, hP⟩ := hv9
  have e2 : (dFin t ne r f) = (dNote (tu (tu (tu t 13 r 100) 8 r f) 10 r (-1)) ne r) := by rfl
  exact ct_vret E hr hk hS ⟨rfl, (by rw [e2]; exact hP)⟩ dX4_finish_21 (Nat.le_of_ble_eq_true rfl) (Nat.le_of_ble_eq_true rfl)

set_option maxHeartbeats 4000000 in
set_option maxRecDepth 100000 in
theorem c_X4_letOut (l : Launch) (g : cG) (F : Nat → Prop) (A : Nat → Nat → Nat) (nb nl nr ne : Nat) (pr : List Nat) (t : TT) (q : Nat) (s2 : DS) (hq : q < nl) (hs2 : s2 = dLo q pr.length (t, pr, ne)) (hph : ne + dPh (t 13) pr ≤ 95) : CT l yX4_letOut cX4_letOut 5 (some .boolean) 9 237 (2 * (s2.2.2 - ne)) (153 * (s2.2.2 - ne)) g F [.ref (A 0 0), .ref (A 5 q)] (PD g F A nb nl nr ne pr t) (fun v9 H9 => v9 = some (.int (b2i (s2.2.1.length < pr.length))) ∧ PD g F A nb nl nr s2.2.2 s2.2.1 s2.1 H9) := by
  refine CT.of (by decide) rfl ?_
  intro p e s m args below meth c E hr hk hnm hP ls hl
  have hS : va_S (nF F) s.heap s.heap [] := va_S.rf
  have hx := E.1
  have hb := E.2.1
  have hE_ml := E.2.2.1
  have hown := E.2.2.2.1
  have hts := E.2.2.2.2.1
  have hG := E.2.2.2.2.2
  have hd0 := hP.di.1
  have hl : lv_has ls 5 [(0, .ref (A 0 0)), (1, .ref (A 5 q))] := hl
  refine lv_aload_n hx hb dX4_letOut_0 rfl (lv_at hl 0 rfl) ?_
  refine dg E hP 6 fk_X4_32 dX4_letOut_1 (v := .ref (A 2 3)) (kk := ?_)
  refine d_len E hS hP 3 pr.length hl ⟨rfl, rfl⟩ ⟨Nat.zero_le _, Nat.zero_le _⟩ dX4_letOut_4 (kk := fun locs hS => ?_)
  refine lv_istore_n (lv' := [(2, .int (nI pr.length)), (0, .ref (A 0 0)), (1, .ref (A 5 q))]) hx hb dX4_letOut_7 rfl hl (by decide) rfl (fun ls hl => ?_)
  refine lv_iload_n hx hb dX4_letOut_8 rfl (lv_at hl 0 rfl) ?_
  refine lv_iconst (v := 1) hx hb dX4_letOut_9 (by decide) ?_
  refine lv_isub hx hb dX4_letOut_10 ?_
  refine lv_istore_n (lv' := [(3, .int ((nI pr.length) - 1)), (2, .int (nI pr.length)), (0, .ref (A 0 0)), (1, .ref (A 5 q))]) hx hb dX4_letOut_11 rfl hl (by decide) rfl (fun ls hl => ?_)
  have LP : ∀ (n9 i : Nat) (k : Nat) (sd : DS), i ≤ pr.length → pr.length < i + n9 → (k + i = pr.length) → (s2 = dLo q k sd) → (k ≤ sd.2.1.length) → (dOkS (t, pr, ne) sd) → ∀ (H : Heap) (locs : List Loc), va_S (nF F) s.heap H locs → PD g F A nb nl nr sd.2.2 sd.2.1 sd.1 H → ∀ (ls : Array Slot), lv_has ls 5 [(0, .ref (A 0 0)), (1, .ref (A 5 q)), (2, .int (nI pr.length)), (3, .int (nI k - 1))] → W p l e { frames := 9, cells := 2 * (s2.2.2 - ne), slots := 153 * (s2.2.2 - ne), locals := 237 } s m args below meth c H locs (2 * (sd.2.2 - ne)) (153 * (sd.2.2 - ne)) (MQ below (Qg F (fun v9 H9 => v9 = some (.int (b2i (s2.2.1.length < pr.length))) ∧ PD g F A nb nl nr s2.2.2 s2.2.1 s2.1 H9)) args s (2 * (s2.2.2 - ne)) (153 * (s2.2.2 - ne)) (nF F)) (F0 m 12 ls []) := by
    intro n9
    induction n9 with
    | zero => intro i k sd hi9 hn9; exact absurd hn9 (by omega)
    | succ n9 ihLP =>
      intro i k sd hi_LP hn_LP hki hres hkl hok H locs hS hP ls hl
      have hd1 := hP.di.1
      have hmo : sd.2.2 ≤ s2.2.2 := by rw [hres]; exact (dLo_ok (q := q) k sd hkl).1
      have hn0 : ne ≤ sd.2.2 := hok.1
      have hph2 : sd.2.2 + dPh (sd.1 13) sd.2.1 ≤ ne + dPh (t 13) pr := hok.2.1
      have hcf : 2 * (sd.2.2 - ne) ≤ 2 * (s2.2.2 - ne) ∧ 153 * (sd.2.2 - ne) ≤ 153 * (s2.2.2 - ne) := ⟨by omega, by omega⟩
      have hne9 : sd.2.2 < 99 := by omega
      refine lv_iload_n hx hb dX4_letOut_12 rfl (lv_at hl 3 rfl) ?_
      refine lv_if_lt (tgt := 112) hx hb dX4_letOut_13 (by decide) (fun c_1 => ?_) (fun c_1 => ?_)
      · have hk0 : k = 0 := pk_pred0 (by omega) c_1
        subst hk0
        have hfin : s2 = sd := hres
        refine lv_aload_n hx hb dX4_letOut_112 rfl (lv_at hl 0 rfl) ?_
        refine dg E hP 6 fk_X4_32 dX4_letOut_113 (v := .ref (A 2 3)) (kk := ?_)
        refine d_len E hS hP 3 sd.2.1.length hl ⟨rfl, rfl⟩ hcf dX4_letOut_116 (kk := fun locs hS => ?_)
        refine lv_iload_n hx hb dX4_letOut_119 rfl (lv_at hl 2 rfl) ?_
        refine lv_icmp_ge (tgt := 127) hx hb dX4_letOut_120 (by decide) (fun c_2 => ?_) (fun c_2 => ?_)
        · have n_c_2 : pr.length ≤ sd.2.1.length := (nI_leI (by omega) (by omega)).mp c_2
          refine lv_iconst (v := 0) hx hb dX4_letOut_127 (by decide) ?_
          have e1 : (b2i (s2.2.1.length < pr.length)) = 0 := by rw [hfin]; exact b2i_f (by omega)
          exact ct_zret E hr (by decide) hk hS ⟨(by rw [e1]), (by rw [hfin]; exact hP)⟩ dX4_letOut_128 hcf.1 hcf.2
        · have n_c_2 : sd.2.1.length < pr.length := Nat.lt_of_not_le (fun h9 => c_2 (nI_le h9 (by omega)))
          refine lv_iconst (v := 1) hx hb dX4_letOut_123 (by decide) ?_
          refine lv_goto (tgt := 128) hx hb dX4_letOut_124 (by decide) ?_
          have e1 : (b2i (s2.2.1.length < pr.length)) = 1 := by rw [hfin]; exact b2i_t n_c_2
          exact ct_zret E hr (by decide) hk hS ⟨(by rw [e1]), (by rw [hfin]; exact hP)⟩ dX4_letOut_128 hcf.1 hcf.2
      · obtain ⟨j, rfl⟩ : ∃ j, k = j + 1 := ⟨k - 1, by have h9 : k ≠ 0 := (fun h9 => c_1 (by rw [h9]; decide)); omega⟩
        rw [pk_predS] at hl
        refine lv_aload_n hx hb dX4_letOut_16 rfl (lv_at hl 0 rfl) ?_
        refine dg E hP 6 fk_X4_32 dX4_letOut_17 (v := .ref (A 2 3)) (kk := ?_)
        refine lv_iload_n hx hb dX4_letOut_20 rfl (lv_at hl 3 rfl) ?_
        refine d_getP E hS hP j rfl (by omega) hl ⟨rfl, rfl⟩ hcf dX4_letOut_21 dX4_letOut_24 (kk := fun r_3 hr_3 ir_3 pr_3 locs hS => ?_)
        refine lv_astore (lv' := [(4, .ref (A 6 r_3)), (0, .ref (A 0 0)), (1, .ref (A 5 q)), (2, .int (nI pr.length)), (3, .int (nI j))]) hx hb dX4_letOut_27 hl (by decide) rfl (fun ls hl => ?_)
        refine lv_aload hx hb dX4_letOut_29 (lv_at hl 0 rfl) ?_
        refine lv_aload_n hx hb dX4_letOut_31 rfl (lv_at hl 2 rfl) ?_
        refine d_isIn E hS hP hr_3 hq hl ⟨rfl, rfl⟩ hcf dX4_letOut_32 (kk := fun locs hS => ?_)
        refine bz_eq (tgt := 106) hx hb dX4_letOut_35 (by decide) (fun c_4 => ?_) (fun c_4 => ?_)
        · refine lv_iinc (v := (nI j) + (-1)) (lv' := [(3, .int ((nI j) + (-1))), (4, .ref (A 6 r_3)), (0, .ref (A 0 0)), (1, .ref (A 5 q)), (2, .int (nI pr.length))]) hx hb dX4_letOut_106 hl (k := 4) rfl (by rfl) (by decide) rfl (fun ls hl => ?_)
          refine lv_goto (tgt := 12) hx hb dX4_letOut_109 (by decide) ?_
          rw [pk_pred] at hl
          have hst : dLoS q j sd = sd := by simp only [dLoS, pr_3, eq_false c_1, eq_false c_4, if_true, if_false, reduceIte, true_and, and_true, false_and, and_false, true_or, or_true, false_or, or_false, not_true_eq_false, not_false_eq_true, decide_true, decide_false, Bool.true_and, Bool.and_true, Bool.false_and, Bool.and_false, Bool.not_true, Bool.not_false, Bool.or_false, Bool.false_or, Bool.or_true, Bool.true_or]
          exact (ihLP (i + 1) j sd (by omega) (by omega) (by omega) (by rw [hres]; show dLo q j (dLoS q j sd) = _; rw [hst]) (by have h9 := dLoS_len (q := q) (k := j) (s := sd) (by omega); rw [hst] at h9; exact h9) (by have h9 := hok.tr (dLoS_ok (q := q) (k := j) (s := sd) (by omega)); rw [hst] at h9; exact h9) H locs hS hP ls (lv_sub hl [2, 3, 4, 0] rfl))
        · refine lv_aload hx hb dX4_letOut_38 (lv_at hl 0 rfl) ?_
          refine dgn E hP 6 r_3 hr_3 kcX3 3 fn_X4_152 dX4_letOut_40 (v := .int (sd.1 9 r_3)) (kk := ?_)
          refine lv_aload_n hx hb dX4_letOut_43 rfl (lv_at hl 2 rfl) ?_
          refine dgn E hP 5 q hq kcX2 2 fn_X4_148 dX4_letOut_44 (v := .int (sd.1 18 q)) (kk := ?_)
          refine lv_icmp_ne (tgt := 106) hx hb dX4_letOut_47 (by decide) (fun c_5 => ?_) (fun c_5 => ?_)
          · refine lv_iinc (v := (nI j) + (-1)) (lv' := [(3, .int ((nI j) + (-1))), (4, .ref (A 6 r_3)), (0, .ref (A 0 0)), (1, .ref (A 5 q)), (2, .int (nI pr.length))]) hx hb dX4_letOut_106 hl (k := 4) rfl (by rfl) (by decide) rfl (fun ls hl => ?_)
            refine lv_goto (tgt := 12) hx hb dX4_letOut_109 (by decide) ?_
            rw [pk_pred] at hl
            have hst : dLoS q j sd = sd := by simp only [dLoS, pr_3, eq_false c_1, eq_true c_4, eq_false c_5, if_true, if_false, reduceIte, true_and, and_true, false_and, and_false, true_or, or_true, false_or, or_false, not_true_eq_false, not_false_eq_true, decide_true, decide_false, Bool.true_and, Bool.and_true, Bool.false_and, Bool.and_false, Bool.not_true, Bool.not_false, Bool.or_false, Bool.false_or, Bool.or_true, Bool.true_or]
            exact (ihLP (i + 1) j sd (by omega) (by omega) (by omega) (by rw [hres]; show dLo q j (dLoS q j sd) = _; rw [hst]) (by have h9 := dLoS_len (q := q) (k := j) (s := sd) (by omega); rw [hst] at h9; exact h9) (by have h9 := hok.tr (dLoS_ok (q := q) (k := j) (s := sd) (by omega)); rw [hst] at h9; exact h9) H locs hS hP ls (lv_sub hl [2, 3, 4, 0] rfl))
          · refine lv_aload_n hx hb dX4_letOut_50 rfl (lv_at hl 1 rfl) ?_
            refine lv_aload hx hb dX4_letOut_51 (lv_at hl 0 rfl) ?_
            obtain ⟨b_6, hb_6, eb_6⟩ := hP.di.2.2.2.1 r_3 hr_3
            have lb_6 := hP.di.1.1
            refine dgn E hP 6 r_3 hr_3 kcX3 1 fn_X4_227 dX4_letOut_53 (v := .ref (A 4 b_6)) (hv := by show some (Value.ref (A 4 (sd.1 7 r_3).toNatClampNeg)) = _; rw [eb_6, nI_clamp (by omega)]) (kk := ?_)
            refine lv_aload_n hx hb dX4_letOut_56 rfl (lv_at hl 2 rfl) ?_
            refine dgn E hP 5 q hq kcX2 2 fn_X4_148 dX4_letOut_57 (v := .int (sd.1 18 q)) (kk := ?_)
            have cb_6 : (nI b_6).toNatClampNeg = b_6 := nI_clamp (by omega)
            refine ct_V E hS (c_X4_whyNot l g F A nb nl nr sd.2.2 sd.2.1 sd.1 b_6 (sd.1 18 q) hb_6) ok_X4_whyNot lk_X4_106 hP (hP.recv hG) rfl hl ⟨rfl, rfl⟩ rfl hcf dX4_letOut_60 rfl (fun v9 H locs hv9 hS hz9 => ?_)
            obtain ⟨rfl, hP⟩ := hv9
            refine lv_bipush (v := 110) hx hb dX4_letOut_63 (by decide) ?_
            refine lv_icmp_ne (tgt := 90) hx hb dX4_letOut_65 (by decide) (fun c_7 => ?_) (fun c_7 => ?_)
            · refine lv_aload hx hb dX4_letOut_90 (lv_at hl 0 rfl) ?_
              refine lv_iconst (v := 0) hx hb dX4_letOut_92 (by decide) ?_
              refine dpn E hS hP 6 r_3 hr_3 kcX3 3 9 fn_X4_152 hs_9 hP.di.p rfl rfl dX4_letOut_93 (kk := fun H locs hS hP => ?_)
              refine lv_aload_n hx hb dX4_letOut_96 rfl (lv_at hl 1 rfl) ?_
              refine lv_dup hx hb dX4_letOut_97 rfl ?_
              refine dg E hP 11 fk_X4_48 dX4_letOut_98 (v := .int (sd.1 25 0)) (hv := congrArg (fun z => some (Value.int z)) (by simp [tu])) (kk := ?_)
              refine lv_iconst (v := 1) hx hb dX4_letOut_101 (by decide) ?_
              refine lv_iadd hx hb dX4_letOut_102 ?_
              refine dp E hS hP 11 25 fk_X4_48 hs_ref hP.di.p dX4_letOut_103 (kk := fun H locs hS hP => ?_)
              refine lv_iinc (v := (nI j) + (-1)) (lv' := [(3, .int ((nI j) + (-1))), (4, .ref (A 6 r_3)), (0, .ref (A 0 0)), (1, .ref (A 5 q)), (2, .int (nI pr.length))]) hx hb dX4_letOut_106 hl (k := 4) rfl (by rfl) (by decide) rfl (fun ls hl => ?_)
              refine lv_goto (tgt := 12) hx hb dX4_letOut_109 (by decide) ?_
              rw [pk_pred] at hl
              have hst : dLoS q j sd = ((tu (tu sd.1 9 r_3 0) 25 0 ((sd.1 25 0) + 1)), sd.2) := by simp only [dLoS, pr_3, eb_6, cb_6, eq_false c_1, eq_true c_4, eq_true c_5, eq_false c_7, if_true, if_false, reduceIte, true_and, and_true, false_and, and_false, true_or, or_true, false_or, or_false, not_true_eq_false, not_false_eq_true, decide_true, decide_false, Bool.true_and, Bool.and_true, Bool.false_and, Bool.and_false, Bool.not_true, Bool.not_false, Bool.or_false, Bool.false_or, Bool.or_true, Bool.true_or]
              exact (ihLP (i + 1) j ((tu (tu sd.1 9 r_3 0) 25 0 ((sd.1 25 0) + 1)), sd.2) (by omega) (by omega) (by omega) (by rw [hres]; show dLo q j (dLoS q j sd) = _; rw [hst]) (by have h9 := dLoS_len (q := q) (k := j) (s := sd) (by omega); rw [hst] at h9; exact h9) (by have h9 := hok.tr (dLoS_ok (q := q) (k := j) (s := sd) (by omega)); rw [hst] at h9; exact h9) H locs hS hP ls (lv_sub hl [2, 3, 4, 0] rfl))
            · have hst : dLoS q j sd = (dFin sd.1 sd.2.2 r_3 (sd.1 18 q), sd.2.1.eraseIdx j, sd.2.2 + 1) := by simp only [dLoS, pr_3, eb_6, cb_6, eq_false c_1, eq_true c_4, eq_true c_5, eq_true c_7, if_true, if_false, reduceIte, true_and, and_true, false_and, and_false, true_or, or_true, false_or, or_false, not_true_eq_false, not_false_eq_true, decide_true, decide_false, Bool.true_and, Bool.and_true, Bool.false_and, Bool.and_false, Bool.not_true, Bool.not_false, Bool.or_false, Bool.false_or, Bool.or_true, Bool.true_or]
              have hmo2 : sd.2.2 + 1 ≤ s2.2.2 := by
                have h9 := (dLo_ok (q := q) j _ (dLoS_len (q := q) (k := j) (s := sd) (by omega))).1
                rw [hres]
                show _ ≤ (dLo q j (dLoS q j sd)).2.2
                rw [hst] at h9 ⊢
                exact h9
              have hcf2 : 2 * (sd.2.2 - ne) + 2 ≤ 2 * (s2.2.2 - ne) ∧ 153 * (sd.2.2 - ne) + 153 ≤ 153 * (s2.2.2 - ne) := ⟨by omega, by omega⟩
              refine lv_aload_n hx hb dX4_letOut_68 rfl (lv_at hl 1 rfl) ?_
              refine dg E hP 6 fk_X4_32 dX4_letOut_69 (v := .ref (A 2 3)) (kk := ?_)
              refine lv_iload_n hx hb dX4_letOut_72 rfl (lv_at hl 4 rfl) ?_
              refine d_remP E hS hP j rfl (by omega) hl ⟨rfl, rfl⟩ hcf dX4_letOut_73 (kk := fun H locs hS hP => ?_)
              refine lv_pop hx hb dX4_letOut_76 rfl ?_
              refine lv_aload_n hx hb dX4_letOut_77 rfl (lv_at hl 1 rfl) ?_
              refine lv_aload hx hb dX4_letOut_78 (lv_at hl 0 rfl) ?_
              refine lv_aload_n hx hb dX4_letOut_80 rfl (lv_at hl 2 rfl) ?_
              refine dgn E hP 5 q hq kcX2 2 fn_X4_148 dX4_letOut_81 (v := .int (sd.1 18 q)) (kk := ?_)
              refine ct_V E hS (c_X4_finish l g F A nb nl nr sd.2.2 (sd.2.1.eraseIdx j) sd.1 r_3 (sd.1 18 q) hr_3 hne9) ok_X4_finish lk_X4_287 hP (hP.recv hG) rfl hl ⟨rfl, rfl⟩ rfl hcf2 dX4_letOut_84 rfl (fun v9 H locs hv9 hS hz9 => ?_)
              obtain ⟨rfl, hP⟩ := hv9
              refine lv_goto (tgt := 106) hx hb dX4_letOut_87 (by decide) ?_
              refine lv_iinc (v := (nI j) + (-1)) (lv' := [(3, .int ((nI j) + (-1))), (4, .ref (A 6 r_3)), (0, .ref (A 0 0)), (1, .ref (A 5 q)), (2, .int (nI pr.length))]) hx hb dX4_letOut_106 hl (k := 4) rfl (by rfl) (by decide) rfl (fun ls hl => ?_)
              refine lv_goto (tgt := 12) hx hb dX4_letOut_109 (by decide) ?_
              rw [pk_pred] at hl
              exact W.widen (by show 2 * (sd.2.2 - ne) + 2 ≤ 2 * (sd.2.2 + 1 - ne); omega) (by show 153 * (sd.2.2 - ne) + 153 ≤ 153 * (sd.2.2 + 1 - ne); omega) (ihLP (i + 1) j ((dFin sd.1 sd.2.2 r_3 (sd.1 18 q)), sd.2.1.eraseIdx j, sd.2.2 + 1) (by omega) (by omega) (by omega) (by rw [hres]; show dLo q j (dLoS q j sd) = _; rw [hst]) (by have h9 := dLoS_len (q := q) (k := j) (s := sd) (by omega); rw [hst] at h9; exact h9) (by have h9 := hok.tr (dLoS_ok (q := q) (k := j) (s := sd) (by omega)); rw [hst] at h9; exact h9) H locs hS hP ls (lv_sub hl [2, 3, 4, 0] rfl))
  exact W.widen (Nat.zero_le _) (Nat.zero_le _) (LP (pr.length + 1) 0 pr.length (t, pr, ne) (Nat.zero_le _) (by omega) (by omega) hs2 (Nat.le_refl _) dOkS.rf _ _ hS hP ls (lv_sub hl [2, 3, 1, 0] rfl))
