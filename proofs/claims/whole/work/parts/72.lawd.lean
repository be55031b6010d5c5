/-! the law: shares and means; its loop -/
section LD9
variable {p : Program} {l : Launch} {e : Env} {s : State} {m : MethodId} {args : Array Value} {below : List Frame} {meth : Method} {c : Code} {Q : State → Prop}
variable {g : cG} {bs L x om ao d9 j : Nat} {xs : Nat → Int32} {ad : Nat → Nat}
set_option maxHeartbeats 4000000 in
set_option maxRecDepth 100000 in
theorem law_27 (E : EN p s m c cL_law 9 args RL g (F0k s.heap.size)) (hl9 : l.stackTraces = false) (hc : LCn s.heap.size om ao d9 ad) (hX : va_X bs L xs s s.heap) (hbl : bs < s.heap.size) (hjL : 4 * j + 4 ≤ L) (hL : L ≤ 2048) (hn : LAt p l e s m args below meth c Q g bs x om ao d9 ad 28 (j + 1)) : LAt p l e s m args below meth c Q g bs x om ao d9 ad 1587 j := by
  intro A nb nl nr ne pr t M f f2 H locs ls hA hPD hPM hao hd9 hRR hS hl
  have hx := E.1
  have hb := E.2.1
  have hj : j < 512 := by omega
  have hN := hRR.2.1
  have h8 := hRR.b8
  have hpl := hRR.pl
  have hl : lv_has ls 9 (LBs j bs x om ao d9) := hl
  subst hA
  refine lv_aload_n hx hb dL_law_1587 rfl (lv_at hl 2 rfl) ?_
  refine lv_aload hx hb dL_law_1588 (lv_at hl 5 rfl) ?_
  refine l_wrapD E hS (w_doneShare l g (FBk s.heap.size om ad ao) A nb nl nr ne pr t hl9 d9 (by exact FB_d9 hc) hpl) okw_doneShare lk_L_204 hPD hao hd9 hPM rfl hl ⟨rfl, rfl⟩ rfl ⟨room_cj (k := 4) hj (by omega), room_sj (k := 24) hj (by omega)⟩ dL_law_1590 rfl (fun v H locs hv hS hPM hao => ?_)
  obtain ⟨rfl, hok, hbad⟩ := hv
  have hmid : ∃ f9 : Nat → UInt64, PD g (fW (FBk s.heap.size om ad d9) ao) A nb nl nr ne pr t H ∧ va_at g.1 vwCl (aD g d9 f9) H ∧ ((if nI nr = 0 then 1 else 0) = 0 → f9 0 = FP.f2d (FP.fdiv (FP.i2f (nI (nr - pr.length))) (FP.i2f (nI nr)))) := by
    rw [FBk_sw]
    by_cases hk : (if nI nr = 0 then 1 else 0) = 0
    · obtain ⟨h1, f9, h2, h3⟩ := hok hk
      exact ⟨f9, h1, h3, fun _ => by rw [h2, pk_sub hpl]⟩
    · obtain ⟨h1, f9, h2⟩ := hbad hk
      exact ⟨f9, h1, h2, fun z => absurd z hk⟩
  obtain ⟨f9, hPD, hd9, hval⟩ := hmid
  obtain ⟨hR2, hth⟩ := hRR.fig
  refine lv_istore (lv' := (6, .int (nI (if nI nr = 0 then 1 else 0))) :: LBs j bs (A 0 0) om ao d9) hx hb dL_law_1593 hl (by decide) rfl (fun ls hl => ?_)
  refine lv_aload_n hx hb dL_law_1595 rfl (lv_at hl 4 rfl) ?_
  refine l_model E hc hS (c_X5_doneShare l g (FMd om ad) om ad M nr (nr - pr.length) hN.2.1 h8.2.2 hN.2.2.2.2 (by omega)) ok_X5_doneShare lk_L_207 rfl hPM rfl hl ⟨rfl, rfl⟩ rfl ⟨room_cj (k := 4) hj (by omega), room_sj (k := 24) hj (by omega)⟩ dL_law_1596 rfl hPD hao hd9 (fun v H locs hv hS hPD hao hd9 => ?_)
  obtain ⟨rfl, hPM⟩ := hv
  refine lv_fstore (lv' := (7, .float (if nI nr = 0 then FP.i2f 0 else FP.fdiv (FP.i2f (nI (nr - pr.length))) (FP.i2f (nI nr)))) :: (6, .int (nI (if nI nr = 0 then 1 else 0))) :: LBs j bs (A 0 0) om ao d9) hx hb dL_law_1599 hl (by decide) rfl (fun ls hl => ?_)
  refine lv_aload_n hx hb dL_law_1601 rfl (lv_at hl 5 rfl) ?_
  refine l_model E hc hS (c_X5_thrown l g (FMd om ad) om ad (if nI nr = 0 then tu (tu M 0 0 0) 0 0 1 else tu M 0 0 0)) ok_X5_thrown lk_L_113 rfl hPM rfl hl ⟨rfl, rfl⟩ rfl ⟨room_cj (k := 4) hj (by omega), room_sj (k := 24) hj (by omega)⟩ dL_law_1602 rfl hPD hao hd9 (fun v H locs hv hS hPD hao hd9 => ?_)
  obtain ⟨rfl, hPM⟩ := hv
  refine lv_iload hx hb dL_law_1605 (lv_at hl 1 rfl) ?_
  refine lv_icmp_eq (tgt := 1612) hx hb dL_law_1607 (by decide) (fun _ => ?_) (fun h => absurd hth h)
  refine lv_iload hx hb dL_law_1612 (lv_at hl 1 rfl) ?_
  have fin : W p l e room_1 s m args below meth c H locs (30 + 1000 * j + 4) (400 + 14100 * j + 24) Q (F0 m 1650 ls []) := lv_goto (tgt := 1718) hx hb dL_law_1650 (by decide) (l_end hx hb hn rfl hPD hPM hao hd9 hR2 hS (lv_sub hl [2, 3, 4, 5, 6, 7] rfl) (by omega) (by omega))
  refine lv_if_ne (tgt := 1650) hx hb dL_law_1614 (by decide) (fun _ => fin) (fun h => ?_)
  have hn0 : ¬ nI nr = 0 := fun z => by
    rw [if_pos z] at h
    exact absurd h (by decide)
  have hnr0 : nr ≠ 0 := fun z => hn0 (by rw [z]; rfl)
  have hval := hval (if_neg hn0)
  refine lv_aload hx hb dL_law_1617 (lv_at hl 7 rfl) ?_
  refine lv_iconst (v := 0) hx hb dL_law_1619 (by decide) ?_
  refine va_dald hx hb E.2.2.2.2.2.1 (va_P1 hd9) 0 5 rfl rfl (show vp_in (nI 0) 1 from vp_in_nI (by decide) (by decide)) dL_law_1620 ?_
  refine lv_fload hx hb dL_law_1621 (lv_at hl 0 rfl) ?_
  have h64 := fp_s64 (a := nr - pr.length) (b := nr) (by omega) (by omega) hnr0
  rw [if_neg hn0]
  refine lv_f2d hx hb dL_law_1623 h64 ?_
  refine lv_dcmp hx hb dL_law_1624 ?_
  refine lv_if_eq (tgt := 1650) hx hb dL_law_1625 (by decide) (fun _ => fin) (fun h => absurd ?_ h)
  show Op.cmpValue (FP.dcmp (f9 0) _) .l = 0
  rw [hval, dcmp_eq0 h64]
  rfl
set_option maxHeartbeats 4000000 in
set_option maxRecDepth 100000 in
theorem law_28 (E : EN p s m c cL_law 9 args RL g (F0k s.heap.size)) (hl9 : l.stackTraces = false) (hc : LCn s.heap.size om ao d9 ad) (hX : va_X bs L xs s s.heap) (hbl : bs < s.heap.size) (hjL : 4 * j + 4 ≤ L) (hL : L ≤ 2048) (hn : LAt p l e s m args below meth c Q g bs x om ao d9 ad 28 (j + 1)) : LAt p l e s m args below meth c Q g bs x om ao d9 ad 1653 j := by
  intro A nb nl nr ne pr t M f f2 H locs ls hA hPD hPM hao hd9 hRR hS hl
  have hx := E.1
  have hb := E.2.1
  have hj : j < 512 := by omega
  have hN := hRR.2.1
  have h8 := hRR.b8
  have hl : lv_has ls 9 (LBs j bs x om ao d9) := hl
  subst hA
  refine lv_aload_n hx hb dL_law_1653 rfl (lv_at hl 2 rfl) ?_
  refine lv_aload hx hb dL_law_1654 (lv_at hl 5 rfl) ?_
  refine l_wrapD E hS (w_meanWait l g (FBk s.heap.size om ad ao) A nb nl nr ne pr t hl9 d9 (by exact FB_d9 hc)) okw_meanWait lk_L_208 hPD hao hd9 hPM rfl hl ⟨rfl, rfl⟩ rfl ⟨room_cj (k := 4) hj (by omega), room_sj (k := 24) hj (by omega)⟩ dL_law_1656 rfl (fun v H locs hv hS hPM hao => ?_)
  obtain ⟨rfl, hok, hbad⟩ := hv
  have hmid : ∃ f9 : Nat → UInt64, PD g (fW (FBk s.heap.size om ad d9) ao) A nb nl nr ne pr t H ∧ va_at g.1 vwCl (aD g d9 f9) H ∧ ((if nI nr = 0 then 1 else 0) = 0 → f9 0 = FP.ddiv (FP.i2d (mWsum M nr)) (FP.i2d (nI nr))) := by
    rw [FBk_sw]
    by_cases hk : (if nI nr = 0 then 1 else 0) = 0
    · obtain ⟨h1, f9, h2, h3⟩ := hok hk
      exact ⟨f9, h1, h3, fun _ => by rw [h2, hRR.wsum]⟩
    · obtain ⟨h1, f9, h2⟩ := hbad hk
      exact ⟨f9, h1, h2, fun z => absurd z hk⟩
  obtain ⟨f9, hPD, hd9, hval⟩ := hmid
  obtain ⟨hR2, hth⟩ := hRR.fig
  refine lv_istore (lv' := (6, .int (nI (if nI nr = 0 then 1 else 0))) :: LBs j bs (A 0 0) om ao d9) hx hb dL_law_1659 hl (by decide) rfl (fun ls hl => ?_)
  refine lv_aload_n hx hb dL_law_1661 rfl (lv_at hl 4 rfl) ?_
  refine l_model E hc hS (c_X5_meanWait l g (FMd om ad) om ad M nr hN.2.1 h8.2.2) ok_X5_meanWait lk_L_210 rfl hPM rfl hl ⟨rfl, rfl⟩ rfl ⟨room_cj (k := 4) hj (by omega), room_sj (k := 24) hj (by omega)⟩ dL_law_1662 rfl hPD hao hd9 (fun v H locs hv hS hPD hao hd9 => ?_)
  obtain ⟨rfl, hPM⟩ := hv
  refine lv_dstore (lv' := (7, .double (if nI nr = 0 then FP.i2d 0 else FP.ddiv (FP.i2d (mWsum M nr)) (FP.i2d (nI nr)))) :: (6, .int (nI (if nI nr = 0 then 1 else 0))) :: LBs j bs (A 0 0) om ao d9) hx hb dL_law_1665 hl (by decide) rfl (fun ls hl => ?_)
  refine lv_aload_n hx hb dL_law_1667 rfl (lv_at hl 5 rfl) ?_
  refine l_model E hc hS (c_X5_thrown l g (FMd om ad) om ad (if nI nr = 0 then tu (tu M 0 0 0) 0 0 1 else tu M 0 0 0)) ok_X5_thrown lk_L_113 rfl hPM rfl hl ⟨rfl, rfl⟩ rfl ⟨room_cj (k := 4) hj (by omega), room_sj (k := 24) hj (by omega)⟩ dL_law_1668 rfl hPD hao hd9 (fun v H locs hv hS hPD hao hd9 => ?_)
  obtain ⟨rfl, hPM⟩ := hv
  refine lv_iload hx hb dL_law_1671 (lv_at hl 1 rfl) ?_
  refine lv_icmp_eq (tgt := 1678) hx hb dL_law_1673 (by decide) (fun _ => ?_) (fun h => absurd hth h)
  refine lv_iload hx hb dL_law_1678 (lv_at hl 1 rfl) ?_
  have fin : W p l e room_1 s m args below meth c H locs (30 + 1000 * j + 4) (400 + 14100 * j + 24) Q (F0 m 1715 ls []) := lv_goto (tgt := 1718) hx hb dL_law_1715 (by decide) (l_end hx hb hn rfl hPD hPM hao hd9 hR2 hS (lv_sub hl [2, 3, 4, 5, 6, 7] rfl) (by omega) (by omega))
  refine lv_if_ne (tgt := 1715) hx hb dL_law_1680 (by decide) (fun _ => fin) (fun h => ?_)
  have hn0 : ¬ nI nr = 0 := fun z => by
    rw [if_pos z] at h
    exact absurd h (by decide)
  have hnr0 : nr ≠ 0 := fun z => hn0 (by rw [z]; rfl)
  have hval := hval (if_neg hn0)
  refine lv_aload hx hb dL_law_1683 (lv_at hl 7 rfl) ?_
  refine lv_iconst (v := 0) hx hb dL_law_1685 (by decide) ?_
  refine va_dald hx hb E.2.2.2.2.2.1 (va_P1 hd9) 0 5 rfl rfl (show vp_in (nI 0) 1 from vp_in_nI (by decide) (by decide)) dL_law_1686 ?_
  refine lv_dload hx hb dL_law_1687 (lv_at hl 0 rfl) ?_
  have h64 := fp_mean (mWsum M nr) h8.2.2 hnr0
  rw [if_neg hn0]
  refine lv_dcmp hx hb dL_law_1689 ?_
  refine lv_if_eq (tgt := 1715) hx hb dL_law_1690 (by decide) (fun _ => fin) (fun h => absurd ?_ h)
  show Op.cmpValue (FP.dcmp (f9 0) _) .l = 0
  rw [hval, dcmp_eq0 h64]
  rfl
end LD9
