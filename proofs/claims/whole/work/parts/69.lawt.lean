/-! the law: the ends of its calls -/
abbrev LBs (j bs x om ao d9 : Nat) : List (Nat × Value) := [(5, .int (nI (4 * j))), (0, .ref bs), (1, .ref x), (2, .ref om), (3, .ref ao), (4, .ref d9)]
theorem lgc_0 {x y : Int64} (h : x = y) : lg_cmp x y = 0 := by
  subst h
  simp [lg_cmp]
theorem room_c {n : Nat} (h : n ≤ 600000) : n ≤ room_1.cells := Nat.le_trans h (Nat.le_of_ble_eq_true rfl)
theorem room_s {n : Nat} (h : n ≤ 7230000) : n ≤ room_1.slots := Nat.le_trans h (Nat.le_of_ble_eq_true rfl)
section LT9
variable {p : Program} {l : Launch} {e : Env} {s : State} {m : MethodId} {args : Array Value} {below : List Frame} {meth : Method} {c : Code} {H : Heap} {locs : List Loc} {cells slots : Nat} {Q : State → Prop}
variable {ls : Array Slot} {own : String} {g : cG} {bs x om ao d9 j : Nat} {ad : Nat → Nat} {M : TT}
variable {A : Nat → Nat → Nat} {nb nl nr ne : Nat} {pr : List Nat} {t : TT} {f : Nat → Int64} {f2 : Nat → UInt64}
theorem l_end (hx : p.tables.exec = Jvm.exec) (hb : c.code = cL_law) (hn : LAt p l e s m args below meth c Q g bs x om ao d9 ad 28 (j + 1)) (hA : A 0 0 = x) (hPD : PD g (fW (FBk s.heap.size om ad d9) ao) A nb nl nr ne pr t H) (hPM : PM g (FMd om ad) om ad M H) (hao : va_at g.1 vwCl (aL g ao f) H) (hd9 : va_at g.1 vwCl (aD g d9 f2) H) (hRR : RR nb nl nr ne pr t M)
    (hS : va_S (nF (F0k s.heap.size)) s.heap H locs) (hl : lv_has ls 9 (LBs j bs x om ao d9)) (hcl : cells ≤ 30 + 1000 * (j + 1)) (hsl : slots ≤ 400 + 14100 * (j + 1)) : W p l e room_1 s m args below meth c H locs cells slots Q (F0 m 1718 ls []) := by
  refine lv_iinc (v := nI (4 * (j + 1))) (lv' := LBs (j + 1) bs x om ao d9) hx hb dL_law_1718 hl (k := 0) rfl ?_ (by decide) rfl (fun ls hl => ?_)
  · rw [show Int32.ofInt 4 = nI 4 from rfl, nI_add]; rfl
  · refine lv_goto (tgt := 28) hx hb dL_law_1721 (by decide) ?_
    exact W.widen hcl hsl (hn A nb nl nr ne pr t M f f2 H locs ls hA hPD hPM hao hd9 hRR hS hl)
set_option maxRecDepth 100000 in
theorem l_tail (E : EN p s m c cL_law 9 args own g (F0k s.heap.size)) (hc : LCn s.heap.size om ao d9 ad) (hlk : Cond.methodLink own 113 yX5_thrown ∈ lw_g) (hn : LAt p l e s m args below meth c Q g bs x om ao d9 ad 28 (j + 1)) {kc : Nat} {ans : Int32} (hkc : M 0 0 = nI kc) (hk10 : kc < 10) (hans : kc = 0 → f 0 = ans.toInt64)
    (hA : A 0 0 = x) (hPD : PD g (fW (FBk s.heap.size om ad d9) ao) A nb nl nr ne pr t H) (hPM : PM g (FMd om ad) om ad M H) (hao : va_at g.1 vwCl (aL g ao f) H) (hd9 : va_at g.1 vwCl (aD g d9 f2) H) (hRR : RR nb nl nr ne pr t M) (hS : va_S (nF (F0k s.heap.size)) s.heap H locs)
    (hl : lv_has ls 9 ((7, .int ans) :: (6, .int (nI kc)) :: LBs j bs x om ao d9)) (hj : j < 512) (hcl : cells ≤ 30 + 1000 * (j + 1)) (hsl : slots ≤ 400 + 14100 * (j + 1)) (q : Nat) {off : Int} (hoff : ((q + 28 : Nat) : Int) + off = ((1718 : Nat) : Int))
    (d0 : decode cL_law q = .ok (.aload_n 2, 1)) (d1 : decode cL_law (q + 1) = .ok (.invokevirtual 113, 3)) (d4 : decode cL_law (q + 4) = .ok (.iload 6, 2)) (d6 : decode cL_law (q + 6) = .ok (.if_icmp .eq 5, 3)) (d11 : decode cL_law (q + 11) = .ok (.iload 6, 2)) (d13 : decode cL_law (q + 13) = .ok (.ifCond .ne 15, 3)) (d16 : decode cL_law (q + 16) = .ok (.aload_n 3, 1)) (d17 : decode cL_law (q + 17) = .ok (.iconst 0, 1)) (d18 : decode cL_law (q + 18) = .ok (.laload, 1)) (d19 : decode cL_law (q + 19) = .ok (.iload 7, 2)) (d21 : decode cL_law (q + 21) = .ok (.i2l, 1)) (d22 : decode cL_law (q + 22) = .ok (.lcmp, 1)) (d23 : decode cL_law (q + 23) = .ok (.ifCond .eq 5, 3)) (d28 : decode cL_law (q + 28) = .ok (.goto off, 3)) :
    W p l e room_1 s m args below meth c H locs cells slots Q (F0 m q ls []) := by
  have hx := E.1
  have hb := E.2.1
  refine lv_aload_n hx hb d0 rfl (lv_at hl 5 rfl) ?_
  refine l_model E hc hS (c_X5_thrown l g (FMd om ad) om ad M) ok_X5_thrown hlk rfl hPM rfl hl ⟨rfl, rfl⟩ rfl ⟨room_c (by omega), room_s (by omega)⟩ d1 rfl hPD hao hd9 (fun v H locs hv hS hPD hao hd9 => ?_)
  obtain ⟨rfl, hPM⟩ := hv
  refine lv_iload hx hb d4 (lv_at hl 1 rfl) ?_
  refine lv_icmp_eq (tgt := q + 11) hx hb d6 (by omega) (fun _ => ?_) (fun h => absurd hkc h)
  refine lv_iload hx hb d11 (lv_at hl 1 rfl) ?_
  have fin : W p l e room_1 s m args below meth c H locs cells slots Q (F0 m (q + 28) ls []) := lv_goto (tgt := 1718) hx hb d28 hoff (l_end hx hb hn hA hPD hPM hao hd9 hRR hS (lv_sub hl [2, 3, 4, 5, 6, 7] rfl) hcl hsl)
  refine lv_if_ne (tgt := q + 28) hx hb d13 (by omega) (fun _ => fin) (fun h => ?_)
  have k0 : kc = 0 := by
    rcases Nat.eq_zero_or_pos kc with z | z
    · exact z
    · exact absurd h (nI_ne0 z (by omega))
  refine lv_aload_n hx hb d16 rfl (lv_at hl 6 rfl) ?_
  refine lv_iconst (v := 0) hx hb d17 (by decide) ?_
  refine va_lald hx hb E.2.2.2.2.2.1 (va_P1 hao) 0 4 rfl rfl (show vp_in (nI 0) 1 from vp_in_nI (by decide) (by decide)) d18 ?_
  refine lv_iload hx hb d19 (lv_at hl 0 rfl) ?_
  refine lv_i2l (v := ans.toInt64) hx hb d21 rfl ?_
  refine W.lcmp hx hb d22 ?_
  exact lv_if_eq (tgt := q + 28) hx hb d23 (by omega) (fun _ => fin) (fun h => absurd (lgc_0 (hans k0)) h)
set_option maxRecDepth 100000 in
theorem l_tailB (E : EN p s m c cL_law 9 args own g (F0k s.heap.size)) (hc : LCn s.heap.size om ao d9 ad) (hlk : Cond.methodLink own 113 yX5_thrown ∈ lw_g) (hn : LAt p l e s m args below meth c Q g bs x om ao d9 ad 28 (j + 1)) {kc : Nat} {ans : Int32} (hkc : M 0 0 = nI kc) (hk10 : kc < 10) (hans : kc = 0 → f 0 = (if ans = 0 then 0 else 1 : Int64))
    (hA : A 0 0 = x) (hPD : PD g (fW (FBk s.heap.size om ad d9) ao) A nb nl nr ne pr t H) (hPM : PM g (FMd om ad) om ad M H) (hao : va_at g.1 vwCl (aL g ao f) H) (hd9 : va_at g.1 vwCl (aD g d9 f2) H) (hRR : RR nb nl nr ne pr t M) (hS : va_S (nF (F0k s.heap.size)) s.heap H locs)
    (hl : lv_has ls 9 ((7, .int ans) :: (6, .int (nI kc)) :: LBs j bs x om ao d9)) (hj : j < 512) (hcl : cells ≤ 30 + 1000 * (j + 1)) (hsl : slots ≤ 400 + 14100 * (j + 1)) (q : Nat) {off : Int} (hoff : ((q + 35 : Nat) : Int) + off = ((1718 : Nat) : Int))
    (d0 : decode cL_law q = .ok (.aload_n 2, 1)) (d1 : decode cL_law (q + 1) = .ok (.invokevirtual 113, 3)) (d4 : decode cL_law (q + 4) = .ok (.iload 6, 2)) (d6 : decode cL_law (q + 6) = .ok (.if_icmp .eq 5, 3)) (d11 : decode cL_law (q + 11) = .ok (.iload 6, 2)) (d13 : decode cL_law (q + 13) = .ok (.ifCond .ne 22, 3)) (d16 : decode cL_law (q + 16) = .ok (.aload_n 3, 1)) (d17 : decode cL_law (q + 17) = .ok (.iconst 0, 1)) (d18 : decode cL_law (q + 18) = .ok (.laload, 1)) (d19 : decode cL_law (q + 19) = .ok (.iload 7, 2)) (d21 : decode cL_law (q + 21) = .ok (.ifCond .eq 7, 3)) (d24 : decode cL_law (q + 24) = .ok (.lconst 1, 1)) (d25 : decode cL_law (q + 25) = .ok (.goto 4, 3)) (d28 : decode cL_law (q + 28) = .ok (.lconst 0, 1)) (d29 : decode cL_law (q + 29) = .ok (.lcmp, 1)) (d30 : decode cL_law (q + 30) = .ok (.ifCond .eq 5, 3)) (d35 : decode cL_law (q + 35) = .ok (.goto off, 3)) :
    W p l e room_1 s m args below meth c H locs cells slots Q (F0 m q ls []) := by
  have hx := E.1
  have hb := E.2.1
  refine lv_aload_n hx hb d0 rfl (lv_at hl 5 rfl) ?_
  refine l_model E hc hS (c_X5_thrown l g (FMd om ad) om ad M) ok_X5_thrown hlk rfl hPM rfl hl ⟨rfl, rfl⟩ rfl ⟨room_c (by omega), room_s (by omega)⟩ d1 rfl hPD hao hd9 (fun v H locs hv hS hPD hao hd9 => ?_)
  obtain ⟨rfl, hPM⟩ := hv
  refine lv_iload hx hb d4 (lv_at hl 1 rfl) ?_
  refine lv_icmp_eq (tgt := q + 11) hx hb d6 (by omega) (fun _ => ?_) (fun h => absurd hkc h)
  refine lv_iload hx hb d11 (lv_at hl 1 rfl) ?_
  have fin : W p l e room_1 s m args below meth c H locs cells slots Q (F0 m (q + 35) ls []) := lv_goto (tgt := 1718) hx hb d35 hoff (l_end hx hb hn hA hPD hPM hao hd9 hRR hS (lv_sub hl [2, 3, 4, 5, 6, 7] rfl) hcl hsl)
  refine lv_if_ne (tgt := q + 35) hx hb d13 (by omega) (fun _ => fin) (fun h => ?_)
  have k0 : kc = 0 := by
    rcases Nat.eq_zero_or_pos kc with z | z
    · exact z
    · exact absurd h (nI_ne0 z (by omega))
  have ha := hans k0
  refine lv_aload_n hx hb d16 rfl (lv_at hl 6 rfl) ?_
  refine lv_iconst (v := 0) hx hb d17 (by decide) ?_
  refine va_lald hx hb E.2.2.2.2.2.1 (va_P1 hao) 0 4 rfl rfl (show vp_in (nI 0) 1 from vp_in_nI (by decide) (by decide)) d18 ?_
  refine lv_iload hx hb d19 (lv_at hl 0 rfl) ?_
  refine lv_if_eq (tgt := q + 28) hx hb d21 (by omega) (fun z => ?_) (fun z => ?_)
  · rw [if_pos z] at ha
    refine lv_lconst (v := 0) hx hb d28 (by decide) ?_
    refine W.lcmp hx hb d29 ?_
    exact lv_if_eq (tgt := q + 35) hx hb d30 (by omega) (fun _ => fin) (fun h => absurd (lgc_0 ha) h)
  · rw [if_neg z] at ha
    refine lv_lconst (v := 1) hx hb d24 (by decide) ?_
    refine lv_goto (tgt := q + 29) hx hb d25 (by omega) ?_
    refine W.lcmp hx hb d29 ?_
    exact lv_if_eq (tgt := q + 35) hx hb d30 (by omega) (fun _ => fin) (fun h => absurd (lgc_0 ha) h)
/-- a number as a truth -/
theorem l_bool (hx : p.tables.exec = Jvm.exec) (hb : c.code = cL_law) {v : Int32} {rest : List Value} (q : Nat) (d0 : decode cL_law q = .ok (.ifCond .eq 7, 3)) (d3 : decode cL_law (q + 3) = .ok (.iconst 1, 1)) (d4 : decode cL_law (q + 4) = .ok (.goto 4, 3)) (d7 : decode cL_law (q + 7) = .ok (.iconst 0, 1))
    (kk : W p l e room_1 s m args below meth c H locs cells slots Q (F0 m (q + 8) ls (.int (if v = 0 then 0 else 1) :: rest))) : W p l e room_1 s m args below meth c H locs cells slots Q (F0 m q ls (.int v :: rest)) := by
  refine lv_if_eq (tgt := q + 7) hx hb d0 (by omega) (fun z => ?_) (fun z => ?_)
  · refine lv_iconst (v := 0) hx hb d7 (by decide) ?_
    rw [if_pos z] at kk
    exact kk
  · refine lv_iconst (v := 1) hx hb d3 (by decide) ?_
    refine lv_goto (tgt := q + 8) hx hb d4 (by omega) ?_
    rw [if_neg z] at kk
    exact kk
end LT9
