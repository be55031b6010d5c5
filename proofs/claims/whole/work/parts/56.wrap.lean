/-! the law's own methods -/
theorem PD.keepF {g : cG} {F : Nat → Prop} {A : Nat → Nat → Nat} {nb nl nr ne : Nat} {pr : List Nat} {t : TT} {H H1 : Heap} (h : PD g F A nb nl nr ne pr t H) (oq : ∀ q, q < H.size → ¬ F q → H1[q]? = H[q]?) (hz : H.size ≤ H1.size) : PD g F A nb nl nr ne pr t H1 := by
  obtain ⟨B, nm, hB, h⟩ := h
  refine ⟨B, nm, hB, h.1, fun k i a b => ?_, fun j2 hj2 => ?_, fun j2 hj2 => ⟨(h.2.2.2.1 j2 hj2).1, ?_⟩, h.2.2.2.2.1, fun q hq => Nat.lt_of_lt_of_le (h.2.2.2.2.2.1 q hq) hz, h.2.2.2.2.2.2⟩
  · exact (h.2.1 k i a b).kept (oq _ (h.2.1 k i a b).lt (h.1 k i a (by unfold kOb at b; omega)).2)
  · exact (h.2.2.1 j2 hj2).kept (oq _ (h.2.2.1 j2 hj2).lt (h.1 1 j2 (by exact hj2) (by decide)).2)
  · refine (h.2.2.2.1 j2 hj2).2.kept (oq _ (h.lt2 (k := 2) (by decide) (by exact hj2)) (h.1 2 j2 (by exact hj2) (by decide)).2) (fun hF => oq _ (h.lt3 hj2) hF) (fun y hy => ?_)
    obtain ⟨k, i, a, b, rfl⟩ := dEl_mem h.2.2.2.2.2.2.2.1 hy
    exact ((h.2.2.2.1 j2 hj2).2.2.2.1 _ hy).kept (oq _ ((h.2.2.2.1 j2 hj2).2.2.2.1 _ hy).lt (h.1 k i b (by omega)).2)
set_option maxRecDepth 100000 in
theorem cA_IAE : Cond.castable kIAE kIAE ∈ lw_n := lw_ni 192 rfl rfl
set_option maxRecDepth 100000 in
theorem cA_ISE : Cond.castable kISE kISE ∈ lw_n := lw_ni 264 rfl rfl
set_option maxRecDepth 100000 in
theorem cA_IOB : Cond.castable kIOB kIOB ∈ lw_n := lw_ni 403 rfl rfl
set_option maxRecDepth 100000 in
theorem cA_UOE : Cond.castable kUOE kUOE ∈ lw_n := lw_ni 497 rfl rfl
set_option maxRecDepth 100000 in
theorem cA_NSE : Cond.castable kNSE kNSE ∈ lw_n := lw_ni 621 rfl rfl
set_option maxRecDepth 100000 in
theorem cA_ARE : Cond.castable kARE kARE ∈ lw_n := lw_ni 833 rfl rfl

set_option maxRecDepth 100000 in
theorem okw_addLift : okW yL_addLift cL_addLift 4 (some .int) [(0, 9, 12, 13), (0, 9, 15, 15)] 3 := ⟨lw_gi 58 rfl rfl, lw_gi 183 rfl rfl, by decide +kernel, by decide +kernel, by decide +kernel, lw_gi 182 rfl rfl⟩
set_option maxHeartbeats 4000000 in
set_option maxRecDepth 100000 in
theorem w_addLift (l : Launch) (g : cG) (F : Nat → Prop) (A : Nat → Nat → Nat) (nb nl nr ne : Nat) (pr : List Nat) (t : TT) (hl9 : l.stackTraces = false) (ao : Nat) (hao : ¬ F ao) (x : Int32)  : CW l yL_addLift cL_addLift 4 (some .int) [(0, 9, 12, 13), (0, 9, 15, 15)] 8 216 3 174 g F [.ref (A 0 0), .int x, .ref ao] (fun H => PD g (fW F ao) A nb nl nr ne pr t H ∧ ∃ f, va_at g.1 vwCl (ao, .inl (g.2.1 4, 1, .inr (.inl f))) H)
    (fun v9 H9 => v9 = some (.int (nI (if x < 1 then 1 else if x ≤ 4 then (if nI nl < 3 then 0 else 2) else 1))) ∧ ((if x < 1 then 1 else if x ≤ 4 then (if nI nl < 3 then 0 else 2) else 1) = 0 → (∃ A2 : Nat → Nat → Nat, A2 0 0 = A 0 0 ∧ PD g (fW F ao) A2 nb (nl + 1) nr ne pr (tAddL t nl x) H9) ∧ ∃ f, f 0 = (nI nl).toInt64 ∧ va_at g.1 vwCl (ao, .inl (g.2.1 4, 1, .inr (.inl f))) H9) ∧ (¬ (if x < 1 then 1 else if x ≤ 4 then (if nI nl < 3 then 0 else 2) else 1) = 0 → PD g (fW F ao) A nb nl nr ne pr t H9 ∧ ∃ f, va_at g.1 vwCl (ao, .inl (g.2.1 4, 1, .inr (.inl f))) H9)) := by
  refine CW.of (by decide) rfl ?_
  intro p e s m args below meth c E hr hk ht hP ls hl
  have hS : va_S (nF F) s.heap s.heap [] := va_S.rf
  have hx := E.1
  have hb := E.2.1
  have hG := E.2.2.2.2.2
  have hl : lv_has ls 4 [(0, .ref (A 0 0)), (1, .int x), (2, .ref ao)] := hl
  refine lv_aload_n hx hb dL_addLift_0 rfl (lv_at hl 2 rfl) ?_
  refine lv_iconst (v := 0) hx hb dL_addLift_1 (by decide) ?_
  refine lv_aload_n hx hb dL_addLift_2 rfl (lv_at hl 0 rfl) ?_
  refine lv_iload_n hx hb dL_addLift_3 rfl (lv_at hl 1 rfl) ?_
  refine cx_VF (F1 := fW F ao) (fun q h => Or.inl h) E hS (c_X4_addLift l g (fW F ao) A nb nl nr ne pr t hl9 x ) ok_X4_addLift lk_L_7 hP.1 (hP.1.recv hG) rfl hl ⟨rfl, rfl⟩ rfl ⟨(Nat.le_of_eq (Nat.zero_add _)), (Nat.le_of_eq (Nat.zero_add _))⟩ dL_addLift_4 rfl (fun E9 ce9 q9 H9 locs hX9 hz9 hfr hS hc9 hv9 hf9 => ?_) (fun v9 H locs hv9 hS hz9 hfr => ?_)
  · obtain ⟨⟨hc0, hcE⟩, hP9⟩ := hX9
    have hao9 : ∃ f, va_at g.1 vwCl (ao, .inl (g.2.1 4, 1, .inr (.inl f))) H9 := by
      obtain ⟨f, h⟩ := hP.2
      exact ⟨f, h.kept (hfr ao h.lt (Or.inr rfl))⟩
    generalize hk9 : (if x < 1 then 1 else if x ≤ 4 then (if nI nl < 3 then 0 else 2) else 1) = kc at hc0 hcE ⊢
    obtain rfl | rfl : kc = 1 ∨ kc = 2 := by
      have h8 := (List.getElem?_eq_some_iff.mp hcE).1
      simp only [List.length_cons, List.length_nil] at h8
      omega
    · obtain rfl := Option.some.inj hcE
      refine cw_catch E ht [] (0, 9, 12, 13) [(0, 9, 15, 15)] rfl (fun z hz => by cases hz) ⟨by decide, by decide⟩ (by decide) kl_L_13 cA_IAE hc9 hv9 hf9 ?_
      refine lv_astore_n (lv' := [(3, .ref q9), (0, .ref (A 0 0)), (1, .int x), (2, .ref ao)]) hx hb dL_addLift_12 rfl hl (by decide) rfl (fun ls hl => ?_)
      refine lv_iconst (v := 1) hx hb dL_addLift_13 (by decide) ?_
      exact ct_iret E hr hk hS ⟨rfl, fun h => absurd h (by decide), fun _ => ⟨hP9, hao9⟩⟩ dL_addLift_14 (Nat.le_of_eq (Nat.zero_add _)) (Nat.le_of_eq (Nat.zero_add _))
    · obtain rfl := Option.some.inj hcE
      refine cw_catch E ht [(0, 9, 12, 13)] (0, 9, 15, 15) [] rfl (fun z hz => by rw [List.mem_singleton.mp hz]; exact ⟨by decide, kIAE, kl_L_13, by decide +kernel⟩) ⟨by decide, by decide⟩ (by decide) kl_L_15 cA_ISE hc9 hv9 hf9 ?_
      refine lv_astore_n (lv' := [(3, .ref q9), (0, .ref (A 0 0)), (1, .int x), (2, .ref ao)]) hx hb dL_addLift_15 rfl hl (by decide) rfl (fun ls hl => ?_)
      refine lv_iconst (v := 2) hx hb dL_addLift_16 (by decide) ?_
      exact ct_iret E hr hk hS ⟨rfl, fun h => absurd h (by decide), fun _ => ⟨hP9, hao9⟩⟩ dL_addLift_17 (Nat.le_of_eq (Nat.zero_add _)) (Nat.le_of_eq (Nat.zero_add _))
  · obtain ⟨rfl, hcode, hP2⟩ := hv9
    obtain ⟨f, hf⟩ := hP.2
    have hf := hf.kept (hfr ao hf.lt (Or.inr rfl))
    obtain ⟨A2, hA2, hP2⟩ := hP2
    refine lv_i2l (v := (nI nl).toInt64) hx hb dL_addLift_7 rfl ?_
    refine w_last E hS hf hao (show vp_in (nI 0) 1 from vp_in_nI (by decide) (by decide)) dL_addLift_8 (fun H1 locs1 h1 z1 oq hS => ?_)
    have hP3 := hP2.keepF (fun q h9 hn => oq q (fun z => hn (Or.inr z))) (Nat.le_of_eq z1.symm)
    refine lv_goto (tgt := 18) hx hb dL_addLift_9 (by decide) ?_
    refine lv_iconst (v := 0) hx hb dL_addLift_18 (by decide) ?_
    exact ct_iret E hr hk hS ⟨by rw [hcode]; rfl, fun _ => ⟨⟨A2, hA2, hP3⟩, _, rfl, h1⟩, fun h => absurd hcode h⟩ dL_addLift_19 (Nat.le_of_eq (Nat.zero_add _)) (Nat.le_of_eq (Nat.zero_add _))

set_option maxRecDepth 100000 in
theorem okw_setTenant : okW yL_setTenant cL_setTenant 5 (some .int) [(0, 10, 13, 21), (0, 10, 17, 13)] 4 := ⟨lw_gi 58 rfl rfl, lw_gi 372 rfl rfl, by decide +kernel, by decide +kernel, by decide +kernel, lw_gi 371 rfl rfl⟩
set_option maxHeartbeats 4000000 in
set_option maxRecDepth 100000 in
theorem w_setTenant (l : Launch) (g : cG) (F : Nat → Prop) (A : Nat → Nat → Nat) (nb nl nr ne : Nat) (pr : List Nat) (t : TT) (hl9 : l.stackTraces = false) (ao : Nat) (hao : ¬ F ao) (x y : Int32)  : CW l yL_setTenant cL_setTenant 5 (some .int) [(0, 10, 13, 21), (0, 10, 17, 13)] 7 113 4 24 g F [.ref (A 0 0), .int x, .int y, .ref ao] (fun H => PD g (fW F ao) A nb nl nr ne pr t H ∧ ∃ f, va_at g.1 vwCl (ao, .inl (g.2.1 4, 1, .inr (.inl f))) H)
    (fun v9 H9 => v9 = some (.int (nI (if x ≤ 0 then 1 else if x < 10 then (if y < -1 then 2 else if y < 4 then 0 else 2) else 1))) ∧ ((if x ≤ 0 then 1 else if x < 10 then (if y < -1 then 2 else if y < 4 then 0 else 2) else 1) = 0 → (PD g (fW F ao) A nb nl nr ne pr (tu t 1 x.toNatClampNeg y) H9) ∧ ∃ f, f 0 = (t 1 x.toNatClampNeg).toInt64 ∧ va_at g.1 vwCl (ao, .inl (g.2.1 4, 1, .inr (.inl f))) H9) ∧ (¬ (if x ≤ 0 then 1 else if x < 10 then (if y < -1 then 2 else if y < 4 then 0 else 2) else 1) = 0 → PD g (fW F ao) A nb nl nr ne pr t H9 ∧ ∃ f, va_at g.1 vwCl (ao, .inl (g.2.1 4, 1, .inr (.inl f))) H9)) := by
  refine CW.of (by decide) rfl ?_
  intro p e s m args below meth c E hr hk ht hP ls hl
  have hS : va_S (nF F) s.heap s.heap [] := va_S.rf
  have hx := E.1
  have hb := E.2.1
  have hG := E.2.2.2.2.2
  have hl : lv_has ls 5 [(0, .ref (A 0 0)), (1, .int x), (2, .int y), (3, .ref ao)] := hl
  refine lv_aload_n hx hb dL_setTenant_0 rfl (lv_at hl 3 rfl) ?_
  refine lv_iconst (v := 0) hx hb dL_setTenant_1 (by decide) ?_
  refine lv_aload_n hx hb dL_setTenant_2 rfl (lv_at hl 0 rfl) ?_
  refine lv_iload_n hx hb dL_setTenant_3 rfl (lv_at hl 1 rfl) ?_
  refine lv_iload_n hx hb dL_setTenant_4 rfl (lv_at hl 2 rfl) ?_
  refine cx_VF (F1 := fW F ao) (fun q h => Or.inl h) E hS (c_X4_setTenant l g (fW F ao) A nb nl nr ne pr t hl9 x y ) ok_X4_setTenant lk_L_17 hP.1 (hP.1.recv hG) rfl hl ⟨rfl, rfl⟩ rfl ⟨(Nat.le_of_eq (Nat.zero_add _)), (Nat.le_of_eq (Nat.zero_add _))⟩ dL_setTenant_5 rfl (fun E9 ce9 q9 H9 locs hX9 hz9 hfr hS hc9 hv9 hf9 => ?_) (fun v9 H locs hv9 hS hz9 hfr => ?_)
  · obtain ⟨⟨hc0, hcE⟩, hP9⟩ := hX9
    have hao9 : ∃ f, va_at g.1 vwCl (ao, .inl (g.2.1 4, 1, .inr (.inl f))) H9 := by
      obtain ⟨f, h⟩ := hP.2
      exact ⟨f, h.kept (hfr ao h.lt (Or.inr rfl))⟩
    generalize hk9 : (if x ≤ 0 then 1 else if x < 10 then (if y < -1 then 2 else if y < 4 then 0 else 2) else 1) = kc at hc0 hcE ⊢
    obtain rfl | rfl : kc = 1 ∨ kc = 2 := by
      have h8 := (List.getElem?_eq_some_iff.mp hcE).1
      simp only [List.length_cons, List.length_nil] at h8
      omega
    · obtain rfl := Option.some.inj hcE
      refine cw_catch E ht [] (0, 10, 13, 21) [(0, 10, 17, 13)] rfl (fun z hz => by cases hz) ⟨by decide, by decide⟩ (by decide) kl_L_21 cA_IOB hc9 hv9 hf9 ?_
      refine lv_astore (lv' := [(4, .ref q9), (0, .ref (A 0 0)), (1, .int x), (2, .int y), (3, .ref ao)]) hx hb dL_setTenant_13 hl (by decide) rfl (fun ls hl => ?_)
      refine lv_iconst (v := 1) hx hb dL_setTenant_15 (by decide) ?_
      exact ct_iret E hr hk hS ⟨rfl, fun h => absurd h (by decide), fun _ => ⟨hP9, hao9⟩⟩ dL_setTenant_16 (Nat.le_of_eq (Nat.zero_add _)) (Nat.le_of_eq (Nat.zero_add _))
    · obtain rfl := Option.some.inj hcE
      refine cw_catch E ht [(0, 10, 13, 21)] (0, 10, 17, 13) [] rfl (fun z hz => by rw [List.mem_singleton.mp hz]; exact ⟨by decide, kIOB, kl_L_21, by decide +kernel⟩) ⟨by decide, by decide⟩ (by decide) kl_L_13 cA_IAE hc9 hv9 hf9 ?_
      refine lv_astore (lv' := [(4, .ref q9), (0, .ref (A 0 0)), (1, .int x), (2, .int y), (3, .ref ao)]) hx hb dL_setTenant_17 hl (by decide) rfl (fun ls hl => ?_)
      refine lv_iconst (v := 2) hx hb dL_setTenant_19 (by decide) ?_
      exact ct_iret E hr hk hS ⟨rfl, fun h => absurd h (by decide), fun _ => ⟨hP9, hao9⟩⟩ dL_setTenant_20 (Nat.le_of_eq (Nat.zero_add _)) (Nat.le_of_eq (Nat.zero_add _))
  · obtain ⟨rfl, hcode, hP2⟩ := hv9
    obtain ⟨f, hf⟩ := hP.2
    have hf := hf.kept (hfr ao hf.lt (Or.inr rfl))
    refine lv_i2l (v := (t 1 x.toNatClampNeg).toInt64) hx hb dL_setTenant_8 rfl ?_
    refine w_last E hS hf hao (show vp_in (nI 0) 1 from vp_in_nI (by decide) (by decide)) dL_setTenant_9 (fun H1 locs1 h1 z1 oq hS => ?_)
    have hP3 := hP2.keepF (fun q h9 hn => oq q (fun z => hn (Or.inr z))) (Nat.le_of_eq z1.symm)
    refine lv_goto (tgt := 21) hx hb dL_setTenant_10 (by decide) ?_
    refine lv_iconst (v := 0) hx hb dL_setTenant_21 (by decide) ?_
    exact ct_iret E hr hk hS ⟨by rw [hcode]; rfl, fun _ => ⟨hP3, _, rfl, h1⟩, fun h => absurd hcode h⟩ dL_setTenant_22 (Nat.le_of_eq (Nat.zero_add _)) (Nat.le_of_eq (Nat.zero_add _))

set_option maxRecDepth 100000 in
theorem okw_setHours : okW yL_setHours cL_setHours 6 (some .int) [(0, 12, 15, 21), (0, 12, 19, 13)] 5 := ⟨lw_gi 58 rfl rfl, lw_gi 417 rfl rfl, by decide +kernel, by decide +kernel, by decide +kernel, lw_gi 416 rfl rfl⟩
set_option maxHeartbeats 4000000 in
set_option maxRecDepth 100000 in
theorem w_setHours (l : Launch) (g : cG) (F : Nat → Prop) (A : Nat → Nat → Nat) (nb nl nr ne : Nat) (pr : List Nat) (t : TT) (hl9 : l.stackTraces = false) (ao : Nat) (hao : ¬ F ao) (x y z : Int32)  : CW l yL_setHours cL_setHours 6 (some .int) [(0, 12, 15, 21), (0, 12, 19, 13)] 7 113 4 24 g F [.ref (A 0 0), .int x, .int y, .int z, .ref ao] (fun H => PD g (fW F ao) A nb nl nr ne pr t H ∧ ∃ f, va_at g.1 vwCl (ao, .inl (g.2.1 4, 1, .inr (.inl f))) H)
    (fun v9 H9 => v9 = some (.int (nI (if x ≤ 0 then 1 else if x < 10 then (if y < 0 then 2 else if y < 100 then (if y < z then (if z ≤ 100 then 0 else 2) else 2) else 2) else 1))) ∧ ((if x ≤ 0 then 1 else if x < 10 then (if y < 0 then 2 else if y < 100 then (if y < z then (if z ≤ 100 then 0 else 2) else 2) else 2) else 1) = 0 → (PD g (fW F ao) A nb nl nr ne pr (tu (tu t 2 x.toNatClampNeg y) 3 x.toNatClampNeg z) H9) ∧ ∃ f, f 0 = (z - y).toInt64 ∧ va_at g.1 vwCl (ao, .inl (g.2.1 4, 1, .inr (.inl f))) H9) ∧ (¬ (if x ≤ 0 then 1 else if x < 10 then (if y < 0 then 2 else if y < 100 then (if y < z then (if z ≤ 100 then 0 else 2) else 2) else 2) else 1) = 0 → PD g (fW F ao) A nb nl nr ne pr t H9 ∧ ∃ f, va_at g.1 vwCl (ao, .inl (g.2.1 4, 1, .inr (.inl f))) H9)) := by
  refine CW.of (by decide) rfl ?_
  intro p e s m args below meth c E hr hk ht hP ls hl
  have hS : va_S (nF F) s.heap s.heap [] := va_S.rf
  have hx := E.1
  have hb := E.2.1
  have hG := E.2.2.2.2.2
  have hl : lv_has ls 6 [(0, .ref (A 0 0)), (1, .int x), (2, .int y), (3, .int z), (4, .ref ao)] := hl
  refine lv_aload hx hb dL_setHours_0 (lv_at hl 4 rfl) ?_
  refine lv_iconst (v := 0) hx hb dL_setHours_2 (by decide) ?_
  refine lv_aload_n hx hb dL_setHours_3 rfl (lv_at hl 0 rfl) ?_
  refine lv_iload_n hx hb dL_setHours_4 rfl (lv_at hl 1 rfl) ?_
  refine lv_iload_n hx hb dL_setHours_5 rfl (lv_at hl 2 rfl) ?_
  refine lv_iload_n hx hb dL_setHours_6 rfl (lv_at hl 3 rfl) ?_
  refine cx_VF (F1 := fW F ao) (fun q h => Or.inl h) E hS (c_X4_setHours l g (fW F ao) A nb nl nr ne pr t hl9 x y z ) ok_X4_setHours lk_L_23 hP.1 (hP.1.recv hG) rfl hl ⟨rfl, rfl⟩ rfl ⟨(Nat.le_of_eq (Nat.zero_add _)), (Nat.le_of_eq (Nat.zero_add _))⟩ dL_setHours_7 rfl (fun E9 ce9 q9 H9 locs hX9 hz9 hfr hS hc9 hv9 hf9 => ?_) (fun v9 H locs hv9 hS hz9 hfr => ?_)
  · obtain ⟨⟨hc0, hcE⟩, hP9⟩ := hX9
    have hao9 : ∃ f, va_at g.1 vwCl (ao, .inl (g.2.1 4, 1, .inr (.inl f))) H9 := by
      obtain ⟨f, h⟩ := hP.2
      exact ⟨f, h.kept (hfr ao h.lt (Or.inr rfl))⟩
    generalize hk9 : (if x ≤ 0 then 1 else if x < 10 then (if y < 0 then 2 else if y < 100 then (if y < z then (if z ≤ 100 then 0 else 2) else 2) else 2) else 1) = kc at hc0 hcE ⊢
    obtain rfl | rfl : kc = 1 ∨ kc = 2 := by
      have h8 := (List.getElem?_eq_some_iff.mp hcE).1
      simp only [List.length_cons, List.length_nil] at h8
      omega
    · obtain rfl := Option.some.inj hcE
      refine cw_catch E ht [] (0, 12, 15, 21) [(0, 12, 19, 13)] rfl (fun z hz => by cases hz) ⟨by decide, by decide⟩ (by decide) kl_L_21 cA_IOB hc9 hv9 hf9 ?_
      refine lv_astore (lv' := [(5, .ref q9), (0, .ref (A 0 0)), (1, .int x), (2, .int y), (3, .int z), (4, .ref ao)]) hx hb dL_setHours_15 hl (by decide) rfl (fun ls hl => ?_)
      refine lv_iconst (v := 1) hx hb dL_setHours_17 (by decide) ?_
      exact ct_iret E hr hk hS ⟨rfl, fun h => absurd h (by decide), fun _ => ⟨hP9, hao9⟩⟩ dL_setHours_18 (Nat.le_of_eq (Nat.zero_add _)) (Nat.le_of_eq (Nat.zero_add _))
    · obtain rfl := Option.some.inj hcE
      refine cw_catch E ht [(0, 12, 15, 21)] (0, 12, 19, 13) [] rfl (fun z hz => by rw [List.mem_singleton.mp hz]; exact ⟨by decide, kIOB, kl_L_21, by decide +kernel⟩) ⟨by decide, by decide⟩ (by decide) kl_L_13 cA_IAE hc9 hv9 hf9 ?_
      refine lv_astore (lv' := [(5, .ref q9), (0, .ref (A 0 0)), (1, .int x), (2, .int y), (3, .int z), (4, .ref ao)]) hx hb dL_setHours_19 hl (by decide) rfl (fun ls hl => ?_)
      refine lv_iconst (v := 2) hx hb dL_setHours_21 (by decide) ?_
      exact ct_iret E hr hk hS ⟨rfl, fun h => absurd h (by decide), fun _ => ⟨hP9, hao9⟩⟩ dL_setHours_22 (Nat.le_of_eq (Nat.zero_add _)) (Nat.le_of_eq (Nat.zero_add _))
  · obtain ⟨rfl, hcode, hP2⟩ := hv9
    obtain ⟨f, hf⟩ := hP.2
    have hf := hf.kept (hfr ao hf.lt (Or.inr rfl))
    refine lv_i2l (v := (z - y).toInt64) hx hb dL_setHours_10 rfl ?_
    refine w_last E hS hf hao (show vp_in (nI 0) 1 from vp_in_nI (by decide) (by decide)) dL_setHours_11 (fun H1 locs1 h1 z1 oq hS => ?_)
    have hP3 := hP2.keepF (fun q h9 hn => oq q (fun z => hn (Or.inr z))) (Nat.le_of_eq z1.symm)
    refine lv_goto (tgt := 23) hx hb dL_setHours_12 (by decide) ?_
    refine lv_iconst (v := 0) hx hb dL_setHours_23 (by decide) ?_
    exact ct_iret E hr hk hS ⟨by rw [hcode]; rfl, fun _ => ⟨hP3, _, rfl, h1⟩, fun h => absurd hcode h⟩ dL_setHours_24 (Nat.le_of_eq (Nat.zero_add _)) (Nat.le_of_eq (Nat.zero_add _))

set_option maxRecDepth 100000 in
theorem okw_addBadge : okW yL_addBadge cL_addBadge 4 (some .int) [(0, 9, 12, 13), (0, 9, 15, 15)] 3 := ⟨lw_gi 58 rfl rfl, lw_gi 425 rfl rfl, by decide +kernel, by decide +kernel, by decide +kernel, lw_gi 424 rfl rfl⟩
set_option maxHeartbeats 4000000 in
set_option maxRecDepth 100000 in
theorem w_addBadge (l : Launch) (g : cG) (F : Nat → Prop) (A : Nat → Nat → Nat) (nb nl nr ne : Nat) (pr : List Nat) (t : TT) (hl9 : l.stackTraces = false) (ao : Nat) (hao : ¬ F ao) (x : Int32)  : CW l yL_addBadge cL_addBadge 4 (some .int) [(0, 9, 12, 13), (0, 9, 15, 15)] 8 216 3 170 g F [.ref (A 0 0), .int x, .ref ao] (fun H => PD g (fW F ao) A nb nl nr ne pr t H ∧ ∃ f, va_at g.1 vwCl (ao, .inl (g.2.1 4, 1, .inr (.inl f))) H)
    (fun v9 H9 => v9 = some (.int (nI (if x < 0 then 1 else if x < 4 then (if nI nb < 8 then 0 else 2) else 1))) ∧ ((if x < 0 then 1 else if x < 4 then (if nI nb < 8 then 0 else 2) else 1) = 0 → (∃ A2 : Nat → Nat → Nat, A2 0 0 = A 0 0 ∧ PD g (fW F ao) A2 (nb + 1) nl nr ne pr (tAddB t nb x) H9) ∧ ∃ f, f 0 = (nI nb).toInt64 ∧ va_at g.1 vwCl (ao, .inl (g.2.1 4, 1, .inr (.inl f))) H9) ∧ (¬ (if x < 0 then 1 else if x < 4 then (if nI nb < 8 then 0 else 2) else 1) = 0 → PD g (fW F ao) A nb nl nr ne pr t H9 ∧ ∃ f, va_at g.1 vwCl (ao, .inl (g.2.1 4, 1, .inr (.inl f))) H9)) := by
  refine CW.of (by decide) rfl ?_
  intro p e s m args below meth c E hr hk ht hP ls hl
  have hS : va_S (nF F) s.heap s.heap [] := va_S.rf
  have hx := E.1
  have hb := E.2.1
  have hG := E.2.2.2.2.2
  have hl : lv_has ls 4 [(0, .ref (A 0 0)), (1, .int x), (2, .ref ao)] := hl
  refine lv_aload_n hx hb dL_addBadge_0 rfl (lv_at hl 2 rfl) ?_
  refine lv_iconst (v := 0) hx hb dL_addBadge_1 (by decide) ?_
  refine lv_aload_n hx hb dL_addBadge_2 rfl (lv_at hl 0 rfl) ?_
  refine lv_iload_n hx hb dL_addBadge_3 rfl (lv_at hl 1 rfl) ?_
  refine cx_VF (F1 := fW F ao) (fun q h => Or.inl h) E hS (c_X4_addBadge l g (fW F ao) A nb nl nr ne pr t hl9 x ) ok_X4_addBadge lk_L_27 hP.1 (hP.1.recv hG) rfl hl ⟨rfl, rfl⟩ rfl ⟨(Nat.le_of_eq (Nat.zero_add _)), (Nat.le_of_eq (Nat.zero_add _))⟩ dL_addBadge_4 rfl (fun E9 ce9 q9 H9 locs hX9 hz9 hfr hS hc9 hv9 hf9 => ?_) (fun v9 H locs hv9 hS hz9 hfr => ?_)
  · obtain ⟨⟨hc0, hcE⟩, hP9⟩ := hX9
    have hao9 : ∃ f, va_at g.1 vwCl (ao, .inl (g.2.1 4, 1, .inr (.inl f))) H9 := by
      obtain ⟨f, h⟩ := hP.2
      exact ⟨f, h.kept (hfr ao h.lt (Or.inr rfl))⟩
    generalize hk9 : (if x < 0 then 1 else if x < 4 then (if nI nb < 8 then 0 else 2) else 1) = kc at hc0 hcE ⊢
    obtain rfl | rfl : kc = 1 ∨ kc = 2 := by
      have h8 := (List.getElem?_eq_some_iff.mp hcE).1
      simp only [List.length_cons, List.length_nil] at h8
      omega
    · obtain rfl := Option.some.inj hcE
      refine cw_catch E ht [] (0, 9, 12, 13) [(0, 9, 15, 15)] rfl (fun z hz => by cases hz) ⟨by decide, by decide⟩ (by decide) kl_L_13 cA_IAE hc9 hv9 hf9 ?_
      refine lv_astore_n (lv' := [(3, .ref q9), (0, .ref (A 0 0)), (1, .int x), (2, .ref ao)]) hx hb dL_addBadge_12 rfl hl (by decide) rfl (fun ls hl => ?_)
      refine lv_iconst (v := 1) hx hb dL_addBadge_13 (by decide) ?_
      exact ct_iret E hr hk hS ⟨rfl, fun h => absurd h (by decide), fun _ => ⟨hP9, hao9⟩⟩ dL_addBadge_14 (Nat.le_of_eq (Nat.zero_add _)) (Nat.le_of_eq (Nat.zero_add _))
    · obtain rfl := Option.some.inj hcE
      refine cw_catch E ht [(0, 9, 12, 13)] (0, 9, 15, 15) [] rfl (fun z hz => by rw [List.mem_singleton.mp hz]; exact ⟨by decide, kIAE, kl_L_13, by decide +kernel⟩) ⟨by decide, by decide⟩ (by decide) kl_L_15 cA_ISE hc9 hv9 hf9 ?_
      refine lv_astore_n (lv' := [(3, .ref q9), (0, .ref (A 0 0)), (1, .int x), (2, .ref ao)]) hx hb dL_addBadge_15 rfl hl (by decide) rfl (fun ls hl => ?_)
      refine lv_iconst (v := 2) hx hb dL_addBadge_16 (by decide) ?_
      exact ct_iret E hr hk hS ⟨rfl, fun h => absurd h (by decide), fun _ => ⟨hP9, hao9⟩⟩ dL_addBadge_17 (Nat.le_of_eq (Nat.zero_add _)) (Nat.le_of_eq (Nat.zero_add _))
  · obtain ⟨rfl, hcode, hP2⟩ := hv9
    obtain ⟨f, hf⟩ := hP.2
    have hf := hf.kept (hfr ao hf.lt (Or.inr rfl))
    obtain ⟨A2, hA2, hP2⟩ := hP2
    refine lv_i2l (v := (nI nb).toInt64) hx hb dL_addBadge_7 rfl ?_
    refine w_last E hS hf hao (show vp_in (nI 0) 1 from vp_in_nI (by decide) (by decide)) dL_addBadge_8 (fun H1 locs1 h1 z1 oq hS => ?_)
    have hP3 := hP2.keepF (fun q h9 hn => oq q (fun z => hn (Or.inr z))) (Nat.le_of_eq z1.symm)
    refine lv_goto (tgt := 18) hx hb dL_addBadge_9 (by decide) ?_
    refine lv_iconst (v := 0) hx hb dL_addBadge_18 (by decide) ?_
    exact ct_iret E hr hk hS ⟨by rw [hcode]; rfl, fun _ => ⟨⟨A2, hA2, hP3⟩, _, rfl, h1⟩, fun h => absurd hcode h⟩ dL_addBadge_19 (Nat.le_of_eq (Nat.zero_add _)) (Nat.le_of_eq (Nat.zero_add _))

set_option maxRecDepth 100000 in
theorem okw_setRevoked : okW yL_setRevoked cL_setRevoked 5 (some .int) [(0, 17, 20, 21)] 4 := ⟨lw_gi 58 rfl rfl, lw_gi 448 rfl rfl, by decide +kernel, by decide +kernel, by decide +kernel, lw_gi 447 rfl rfl⟩
set_option maxHeartbeats 4000000 in
set_option maxRecDepth 100000 in
theorem w_setRevoked (l : Launch) (g : cG) (F : Nat → Prop) (A : Nat → Nat → Nat) (nb nl nr ne : Nat) (pr : List Nat) (t : TT) (hl9 : l.stackTraces = false) (ao : Nat) (hao : ¬ F ao) (x v : Int32) (hv : narrow .boolean (.int v) = .int v) : CW l yL_setRevoked cL_setRevoked 5 (some .int) [(0, 17, 20, 21)] 8 135 4 24 g F [.ref (A 0 0), .int x, .int v, .ref ao] (fun H => PD g (fW F ao) A nb nl nr ne pr t H ∧ ∃ f, va_at g.1 vwCl (ao, .inl (g.2.1 4, 1, .inr (.inl f))) H)
    (fun v9 H9 => v9 = some (.int (nI (if dcN x nb = 0 then 0 else 1))) ∧ ((if dcN x nb = 0 then 0 else 1) = 0 → (PD g (fW F ao) A nb nl nr ne pr (tu t 5 x.toNatClampNeg v) H9) ∧ ∃ f, f 0 = (if t 5 x.toNatClampNeg = 0 then 0 else 1 : Int64) ∧ va_at g.1 vwCl (ao, .inl (g.2.1 4, 1, .inr (.inl f))) H9) ∧ (¬ (if dcN x nb = 0 then 0 else 1) = 0 → PD g (fW F ao) A nb nl nr ne pr t H9 ∧ ∃ f, va_at g.1 vwCl (ao, .inl (g.2.1 4, 1, .inr (.inl f))) H9)) := by
  refine CW.of (by decide) rfl ?_
  intro p e s m args below meth c E hr hk ht hP ls hl
  have hS : va_S (nF F) s.heap s.heap [] := va_S.rf
  have hx := E.1
  have hb := E.2.1
  have hG := E.2.2.2.2.2
  have hl : lv_has ls 5 [(0, .ref (A 0 0)), (1, .int x), (2, .int v), (3, .ref ao)] := hl
  refine lv_aload_n hx hb dL_setRevoked_0 rfl (lv_at hl 3 rfl) ?_
  refine lv_iconst (v := 0) hx hb dL_setRevoked_1 (by decide) ?_
  refine lv_aload_n hx hb dL_setRevoked_2 rfl (lv_at hl 0 rfl) ?_
  refine lv_iload_n hx hb dL_setRevoked_3 rfl (lv_at hl 1 rfl) ?_
  refine lv_iload_n hx hb dL_setRevoked_4 rfl (lv_at hl 2 rfl) ?_
  refine cx_VF (F1 := fW F ao) (fun q h => Or.inl h) E hS (c_X4_setRevoked l g (fW F ao) A nb nl nr ne pr t hl9 x v hv) ok_X4_setRevoked lk_L_30 hP.1 (hP.1.recv hG) rfl hl ⟨rfl, rfl⟩ rfl ⟨(Nat.le_of_eq (Nat.zero_add _)), (Nat.le_of_eq (Nat.zero_add _))⟩ dL_setRevoked_5 rfl (fun E9 ce9 q9 H9 locs hX9 hz9 hfr hS hc9 hv9 hf9 => ?_) (fun v9 H locs hv9 hS hz9 hfr => ?_)
  · obtain ⟨⟨hc0, hcE⟩, hP9⟩ := hX9
    have hao9 : ∃ f, va_at g.1 vwCl (ao, .inl (g.2.1 4, 1, .inr (.inl f))) H9 := by
      obtain ⟨f, h⟩ := hP.2
      exact ⟨f, h.kept (hfr ao h.lt (Or.inr rfl))⟩
    generalize hk9 : (if dcN x nb = 0 then 0 else 1) = kc at hc0 hcE ⊢
    obtain rfl : kc = 1 := by
      have h8 := (List.getElem?_eq_some_iff.mp hcE).1
      simp only [List.length_cons, List.length_nil] at h8
      omega
    obtain rfl := Option.some.inj hcE
    refine cw_catch E ht [] (0, 17, 20, 21) [] rfl (fun z hz => by cases hz) ⟨by decide, by decide⟩ (by decide) kl_L_21 cA_IOB hc9 hv9 hf9 ?_
    refine lv_astore (lv' := [(4, .ref q9), (0, .ref (A 0 0)), (1, .int x), (2, .int v), (3, .ref ao)]) hx hb dL_setRevoked_20 hl (by decide) rfl (fun ls hl => ?_)
    refine lv_iconst (v := 1) hx hb dL_setRevoked_22 (by decide) ?_
    exact ct_iret E hr hk hS ⟨rfl, fun h => absurd h (by decide), fun _ => ⟨hP9, hao9⟩⟩ dL_setRevoked_23 (Nat.le_of_eq (Nat.zero_add _)) (Nat.le_of_eq (Nat.zero_add _))
  · obtain ⟨rfl, hcode, hP2⟩ := hv9
    obtain ⟨f, hf⟩ := hP.2
    have hf := hf.kept (hfr ao hf.lt (Or.inr rfl))
    refine lv_if_eq (tgt := 15) hx hb dL_setRevoked_8 (by decide) (fun c1 => ?_) (fun c1 => ?_)
    · refine lv_lconst (v := 0) hx hb dL_setRevoked_15 (by rfl) ?_
      refine w_last E hS hf hao (show vp_in (nI 0) 1 from vp_in_nI (by decide) (by decide)) dL_setRevoked_16 (fun H1 locs1 h1 z1 oq hS => ?_)
      have hP3 := hP2.keepF (fun q h9 hn => oq q (fun z => hn (Or.inr z))) (Nat.le_of_eq z1.symm)
      refine lv_goto (tgt := 24) hx hb dL_setRevoked_17 (by decide) ?_
      refine lv_iconst (v := 0) hx hb dL_setRevoked_24 (by decide) ?_
      exact ct_iret E hr hk hS ⟨by rw [hcode]; rfl, fun _ => ⟨hP3, _, by rw [if_pos c1]; rfl, h1⟩, fun h => absurd hcode h⟩ dL_setRevoked_25 (Nat.le_of_eq (Nat.zero_add _)) (Nat.le_of_eq (Nat.zero_add _))
    · refine lv_lconst (v := 1) hx hb dL_setRevoked_11 (by rfl) ?_
      refine lv_goto (tgt := 16) hx hb dL_setRevoked_12 (by decide) ?_
      refine w_last E hS hf hao (show vp_in (nI 0) 1 from vp_in_nI (by decide) (by decide)) dL_setRevoked_16 (fun H1 locs1 h1 z1 oq hS => ?_)
      have hP3 := hP2.keepF (fun q h9 hn => oq q (fun z => hn (Or.inr z))) (Nat.le_of_eq z1.symm)
      refine lv_goto (tgt := 24) hx hb dL_setRevoked_17 (by decide) ?_
      refine lv_iconst (v := 0) hx hb dL_setRevoked_24 (by decide) ?_
      exact ct_iret E hr hk hS ⟨by rw [hcode]; rfl, fun _ => ⟨hP3, _, by rw [if_neg c1]; rfl, h1⟩, fun h => absurd hcode h⟩ dL_setRevoked_25 (Nat.le_of_eq (Nat.zero_add _)) (Nat.le_of_eq (Nat.zero_add _))

set_option maxRecDepth 100000 in
theorem okw_reason : okW yL_reason cL_reason 5 (some .int) [(0, 10, 13, 21)] 4 := ⟨lw_gi 58 rfl rfl, lw_gi 474 rfl rfl, by decide +kernel, by decide +kernel, by decide +kernel, lw_gi 473 rfl rfl⟩
set_option maxHeartbeats 4000000 in
set_option maxRecDepth 100000 in
theorem w_reason (l : Launch) (g : cG) (F : Nat → Prop) (A : Nat → Nat → Nat) (nb nl nr ne : Nat) (pr : List Nat) (t : TT) (hl9 : l.stackTraces = false) (ao : Nat) (hao : ¬ F ao) (x y : Int32)  : CW l yL_reason cL_reason 5 (some .int) [(0, 10, 13, 21)] 8 134 4 24 g F [.ref (A 0 0), .int x, .int y, .ref ao] (fun H => PD g (fW F ao) A nb nl nr ne pr t H ∧ ∃ f, va_at g.1 vwCl (ao, .inl (g.2.1 4, 1, .inr (.inl f))) H)
    (fun v9 H9 => v9 = some (.int (nI (if dcN x nb = 0 then (if dcF y = 0 then 0 else 1) else 1))) ∧ ((if dcN x nb = 0 then (if dcF y = 0 then 0 else 1) else 1) = 0 → (PD g (fW F ao) A nb nl nr ne pr t H9) ∧ ∃ f, f 0 = (dWhy t x.toNatClampNeg y).toInt64 ∧ va_at g.1 vwCl (ao, .inl (g.2.1 4, 1, .inr (.inl f))) H9) ∧ (¬ (if dcN x nb = 0 then (if dcF y = 0 then 0 else 1) else 1) = 0 → PD g (fW F ao) A nb nl nr ne pr t H9 ∧ ∃ f, va_at g.1 vwCl (ao, .inl (g.2.1 4, 1, .inr (.inl f))) H9)) := by
  refine CW.of (by decide) rfl ?_
  intro p e s m args below meth c E hr hk ht hP ls hl
  have hS : va_S (nF F) s.heap s.heap [] := va_S.rf
  have hx := E.1
  have hb := E.2.1
  have hG := E.2.2.2.2.2
  have hl : lv_has ls 5 [(0, .ref (A 0 0)), (1, .int x), (2, .int y), (3, .ref ao)] := hl
  refine lv_aload_n hx hb dL_reason_0 rfl (lv_at hl 3 rfl) ?_
  refine lv_iconst (v := 0) hx hb dL_reason_1 (by decide) ?_
  refine lv_aload_n hx hb dL_reason_2 rfl (lv_at hl 0 rfl) ?_
  refine lv_iload_n hx hb dL_reason_3 rfl (lv_at hl 1 rfl) ?_
  refine lv_iload_n hx hb dL_reason_4 rfl (lv_at hl 2 rfl) ?_
  refine cx_VF (F1 := fW F ao) (fun q h => Or.inl h) E hS (c_X4_reason l g (fW F ao) A nb nl nr ne pr t hl9 x y ) ok_X4_reason lk_L_34 hP.1 (hP.1.recv hG) rfl hl ⟨rfl, rfl⟩ rfl ⟨(Nat.le_of_eq (Nat.zero_add _)), (Nat.le_of_eq (Nat.zero_add _))⟩ dL_reason_5 rfl (fun E9 ce9 q9 H9 locs hX9 hz9 hfr hS hc9 hv9 hf9 => ?_) (fun v9 H locs hv9 hS hz9 hfr => ?_)
  · obtain ⟨⟨hc0, hcE⟩, hP9⟩ := hX9
    have hao9 : ∃ f, va_at g.1 vwCl (ao, .inl (g.2.1 4, 1, .inr (.inl f))) H9 := by
      obtain ⟨f, h⟩ := hP.2
      exact ⟨f, h.kept (hfr ao h.lt (Or.inr rfl))⟩
    generalize hk9 : (if dcN x nb = 0 then (if dcF y = 0 then 0 else 1) else 1) = kc at hc0 hcE ⊢
    obtain rfl : kc = 1 := by
      have h8 := (List.getElem?_eq_some_iff.mp hcE).1
      simp only [List.length_cons, List.length_nil] at h8
      omega
    obtain rfl := Option.some.inj hcE
    refine cw_catch E ht [] (0, 10, 13, 21) [] rfl (fun z hz => by cases hz) ⟨by decide, by decide⟩ (by decide) kl_L_21 cA_IOB hc9 hv9 hf9 ?_
    refine lv_astore (lv' := [(4, .ref q9), (0, .ref (A 0 0)), (1, .int x), (2, .int y), (3, .ref ao)]) hx hb dL_reason_13 hl (by decide) rfl (fun ls hl => ?_)
    refine lv_iconst (v := 1) hx hb dL_reason_15 (by decide) ?_
    exact ct_iret E hr hk hS ⟨rfl, fun h => absurd h (by decide), fun _ => ⟨hP9, hao9⟩⟩ dL_reason_16 (Nat.le_of_eq (Nat.zero_add _)) (Nat.le_of_eq (Nat.zero_add _))
  · obtain ⟨rfl, hcode, hP2⟩ := hv9
    obtain ⟨f, hf⟩ := hP.2
    have hf := hf.kept (hfr ao hf.lt (Or.inr rfl))
    refine lv_i2l (v := (dWhy t x.toNatClampNeg y).toInt64) hx hb dL_reason_8 rfl ?_
    refine w_last E hS hf hao (show vp_in (nI 0) 1 from vp_in_nI (by decide) (by decide)) dL_reason_9 (fun H1 locs1 h1 z1 oq hS => ?_)
    have hP3 := hP2.keepF (fun q h9 hn => oq q (fun z => hn (Or.inr z))) (Nat.le_of_eq z1.symm)
    refine lv_goto (tgt := 17) hx hb dL_reason_10 (by decide) ?_
    refine lv_iconst (v := 0) hx hb dL_reason_17 (by decide) ?_
    exact ct_iret E hr hk hS ⟨by rw [hcode]; rfl, fun _ => ⟨hP3, _, rfl, h1⟩, fun h => absurd hcode h⟩ dL_reason_18 (Nat.le_of_eq (Nat.zero_add _)) (Nat.le_of_eq (Nat.zero_add _))

set_option maxRecDepth 100000 in
theorem okw_call : okW yL_call cL_call 6 (some .int) [(0, 12, 15, 21), (0, 12, 19, 13), (0, 12, 23, 41), (0, 12, 27, 15)] 5 := ⟨lw_gi 58 rfl rfl, lw_gi 488 rfl rfl, by decide +kernel, by decide +kernel, by decide +kernel, lw_gi 487 rfl rfl⟩
set_option maxHeartbeats 4000000 in
set_option maxRecDepth 100000 in
theorem w_call (l : Launch) (g : cG) (F : Nat → Prop) (A : Nat → Nat → Nat) (nb nl nr ne : Nat) (pr : List Nat) (t : TT) (hl9 : l.stackTraces = false) (ao : Nat) (hao : ¬ F ao) (x y z : Int32) (hpl : pr.length ≤ nr) (hne : ne < 99) : CW l yL_call cL_call 6 (some .int) [(0, 12, 15, 21), (0, 12, 19, 13), (0, 12, 23, 41), (0, 12, 27, 15)] 9 240 8 490 g F [.ref (A 0 0), .int x, .int y, .int z, .ref ao] (fun H => PD g (fW F ao) A nb nl nr ne pr t H ∧ ∃ f, va_at g.1 vwCl (ao, .inl (g.2.1 4, 1, .inr (.inl f))) H)
    (fun v9 H9 => v9 = some (.int (nI (if dcN x nb = 0 then (if dcF y = 0 then (if dcF z = 0 then (if y = z then 2 else if dWhy t x.toNatClampNeg z = 110 then (if dHas t pr x.toNatClampNeg pr.length = true then 4 else if t 60 0 = -1 then (if nI nr < 30 then 0 else 4) else 4) else 3) else 1) else 1) else 1))) ∧ ((if dcN x nb = 0 then (if dcF y = 0 then (if dcF z = 0 then (if y = z then 2 else if dWhy t x.toNatClampNeg z = 110 then (if dHas t pr x.toNatClampNeg pr.length = true then 4 else if t 60 0 = -1 then (if nI nr < 30 then 0 else 4) else 4) else 3) else 1) else 1) else 1) = 0 → (∃ A2 : Nat → Nat → Nat, A2 0 0 = A 0 0 ∧ PD g (fW F ao) A2 nb nl (nr + 1) (ne + 1) (pr ++ [nr]) (dGive (dNote (tAddR t nr x.toNatClampNeg y z) ne nr) (pr ++ [nr]) nl nr) H9) ∧ ∃ f, f 0 = (nI nr).toInt64 ∧ va_at g.1 vwCl (ao, .inl (g.2.1 4, 1, .inr (.inl f))) H9) ∧ (¬ (if dcN x nb = 0 then (if dcF y = 0 then (if dcF z = 0 then (if y = z then 2 else if dWhy t x.toNatClampNeg z = 110 then (if dHas t pr x.toNatClampNeg pr.length = true then 4 else if t 60 0 = -1 then (if nI nr < 30 then 0 else 4) else 4) else 3) else 1) else 1) else 1) = 0 → PD g (fW F ao) A nb nl nr ne pr t H9 ∧ ∃ f, va_at g.1 vwCl (ao, .inl (g.2.1 4, 1, .inr (.inl f))) H9)) := by
  refine CW.of (by decide) rfl ?_
  intro p e s m args below meth c E hr hk ht hP ls hl
  have hS : va_S (nF F) s.heap s.heap [] := va_S.rf
  have hx := E.1
  have hb := E.2.1
  have hG := E.2.2.2.2.2
  have hl : lv_has ls 6 [(0, .ref (A 0 0)), (1, .int x), (2, .int y), (3, .int z), (4, .ref ao)] := hl
  refine lv_aload hx hb dL_call_0 (lv_at hl 4 rfl) ?_
  refine lv_iconst (v := 0) hx hb dL_call_2 (by decide) ?_
  refine lv_aload_n hx hb dL_call_3 rfl (lv_at hl 0 rfl) ?_
  refine lv_iload_n hx hb dL_call_4 rfl (lv_at hl 1 rfl) ?_
  refine lv_iload_n hx hb dL_call_5 rfl (lv_at hl 2 rfl) ?_
  refine lv_iload_n hx hb dL_call_6 rfl (lv_at hl 3 rfl) ?_
  refine cx_VF (F1 := fW F ao) (fun q h => Or.inl h) E hS (c_X4_call l g (fW F ao) A nb nl nr ne pr t hl9 x y z hpl hne) ok_X4_call lk_L_38 hP.1 (hP.1.recv hG) rfl hl ⟨rfl, rfl⟩ rfl ⟨(Nat.le_of_eq (Nat.zero_add _)), (Nat.le_of_eq (Nat.zero_add _))⟩ dL_call_7 rfl (fun E9 ce9 q9 H9 locs hX9 hz9 hfr hS hc9 hv9 hf9 => ?_) (fun v9 H locs hv9 hS hz9 hfr => ?_)
  · obtain ⟨⟨hc0, hcE⟩, hP9⟩ := hX9
    have hao9 : ∃ f, va_at g.1 vwCl (ao, .inl (g.2.1 4, 1, .inr (.inl f))) H9 := by
      obtain ⟨f, h⟩ := hP.2
      exact ⟨f, h.kept (hfr ao h.lt (Or.inr rfl))⟩
    generalize hk9 : (if dcN x nb = 0 then (if dcF y = 0 then (if dcF z = 0 then (if y = z then 2 else if dWhy t x.toNatClampNeg z = 110 then (if dHas t pr x.toNatClampNeg pr.length = true then 4 else if t 60 0 = -1 then (if nI nr < 30 then 0 else 4) else 4) else 3) else 1) else 1) else 1) = kc at hc0 hcE ⊢
    obtain rfl | rfl | rfl | rfl : kc = 1 ∨ kc = 2 ∨ kc = 3 ∨ kc = 4 := by
      have h8 := (List.getElem?_eq_some_iff.mp hcE).1
      simp only [List.length_cons, List.length_nil] at h8
      omega
    · obtain rfl := Option.some.inj hcE
      refine cw_catch E ht [] (0, 12, 15, 21) [(0, 12, 19, 13), (0, 12, 23, 41), (0, 12, 27, 15)] rfl (fun z hz => by cases hz) ⟨by decide, by decide⟩ (by decide) kl_L_21 cA_IOB hc9 hv9 hf9 ?_
      refine lv_astore (lv' := [(5, .ref q9), (0, .ref (A 0 0)), (1, .int x), (2, .int y), (3, .int z), (4, .ref ao)]) hx hb dL_call_15 hl (by decide) rfl (fun ls hl => ?_)
      refine lv_iconst (v := 1) hx hb dL_call_17 (by decide) ?_
      exact ct_iret E hr hk hS ⟨rfl, fun h => absurd h (by decide), fun _ => ⟨hP9, hao9⟩⟩ dL_call_18 (Nat.le_of_eq (Nat.zero_add _)) (Nat.le_of_eq (Nat.zero_add _))
    · obtain rfl := Option.some.inj hcE
      refine cw_catch E ht [(0, 12, 15, 21)] (0, 12, 19, 13) [(0, 12, 23, 41), (0, 12, 27, 15)] rfl (fun z hz => by rw [List.mem_singleton.mp hz]; exact ⟨by decide, kIOB, kl_L_21, by decide +kernel⟩) ⟨by decide, by decide⟩ (by decide) kl_L_13 cA_IAE hc9 hv9 hf9 ?_
      refine lv_astore (lv' := [(5, .ref q9), (0, .ref (A 0 0)), (1, .int x), (2, .int y), (3, .int z), (4, .ref ao)]) hx hb dL_call_19 hl (by decide) rfl (fun ls hl => ?_)
      refine lv_iconst (v := 2) hx hb dL_call_21 (by decide) ?_
      exact ct_iret E hr hk hS ⟨rfl, fun h => absurd h (by decide), fun _ => ⟨hP9, hao9⟩⟩ dL_call_22 (Nat.le_of_eq (Nat.zero_add _)) (Nat.le_of_eq (Nat.zero_add _))
    · obtain rfl := Option.some.inj hcE
      refine cw_catch E ht [(0, 12, 15, 21), (0, 12, 19, 13)] (0, 12, 23, 41) [(0, 12, 27, 15)] rfl (fun z hz => by simp only [List.mem_cons, List.not_mem_nil, or_false] at hz; rcases hz with rfl | rfl <;> first | exact ⟨by decide, kIOB, kl_L_21, by decide +kernel⟩ | exact ⟨by decide, kIAE, kl_L_13, by decide +kernel⟩) ⟨by decide, by decide⟩ (by decide) kl_L_41 cA_UOE hc9 hv9 hf9 ?_
      refine lv_astore (lv' := [(5, .ref q9), (0, .ref (A 0 0)), (1, .int x), (2, .int y), (3, .int z), (4, .ref ao)]) hx hb dL_call_23 hl (by decide) rfl (fun ls hl => ?_)
      refine lv_iconst (v := 3) hx hb dL_call_25 (by decide) ?_
      exact ct_iret E hr hk hS ⟨rfl, fun h => absurd h (by decide), fun _ => ⟨hP9, hao9⟩⟩ dL_call_26 (Nat.le_of_eq (Nat.zero_add _)) (Nat.le_of_eq (Nat.zero_add _))
    · obtain rfl := Option.some.inj hcE
      refine cw_catch E ht [(0, 12, 15, 21), (0, 12, 19, 13), (0, 12, 23, 41)] (0, 12, 27, 15) [] rfl (fun z hz => by simp only [List.mem_cons, List.not_mem_nil, or_false] at hz; rcases hz with rfl | rfl | rfl <;> first | exact ⟨by decide, kIOB, kl_L_21, by decide +kernel⟩ | exact ⟨by decide, kIAE, kl_L_13, by decide +kernel⟩ | exact ⟨by decide, kUOE, kl_L_41, by decide +kernel⟩) ⟨by decide, by decide⟩ (by decide) kl_L_15 cA_ISE hc9 hv9 hf9 ?_
      refine lv_astore (lv' := [(5, .ref q9), (0, .ref (A 0 0)), (1, .int x), (2, .int y), (3, .int z), (4, .ref ao)]) hx hb dL_call_27 hl (by decide) rfl (fun ls hl => ?_)
      refine lv_iconst (v := 4) hx hb dL_call_29 (by decide) ?_
      exact ct_iret E hr hk hS ⟨rfl, fun h => absurd h (by decide), fun _ => ⟨hP9, hao9⟩⟩ dL_call_30 (Nat.le_of_eq (Nat.zero_add _)) (Nat.le_of_eq (Nat.zero_add _))
  · obtain ⟨rfl, hcode, hP2⟩ := hv9
    obtain ⟨f, hf⟩ := hP.2
    have hf := hf.kept (hfr ao hf.lt (Or.inr rfl))
    obtain ⟨A2, hA2, hP2⟩ := hP2
    refine lv_i2l (v := (nI nr).toInt64) hx hb dL_call_10 rfl ?_
    refine w_last E hS hf hao (show vp_in (nI 0) 1 from vp_in_nI (by decide) (by decide)) dL_call_11 (fun H1 locs1 h1 z1 oq hS => ?_)
    have hP3 := hP2.keepF (fun q h9 hn => oq q (fun z => hn (Or.inr z))) (Nat.le_of_eq z1.symm)
    refine lv_goto (tgt := 31) hx hb dL_call_12 (by decide) ?_
    refine lv_iconst (v := 0) hx hb dL_call_31 (by decide) ?_
    exact ct_iret E hr hk hS ⟨by rw [hcode]; rfl, fun _ => ⟨⟨A2, hA2, hP3⟩, _, rfl, h1⟩, fun h => absurd hcode h⟩ dL_call_32 (Nat.le_of_eq (Nat.zero_add _)) (Nat.le_of_eq (Nat.zero_add _))

set_option maxRecDepth 100000 in
theorem okw_state : okW yL_state cL_state 4 (some .int) [(0, 9, 12, 21)] 3 := ⟨lw_gi 58 rfl rfl, lw_gi 587 rfl rfl, by decide +kernel, by decide +kernel, by decide +kernel, lw_gi 586 rfl rfl⟩
set_option maxHeartbeats 4000000 in
set_option maxRecDepth 100000 in
theorem w_state (l : Launch) (g : cG) (F : Nat → Prop) (A : Nat → Nat → Nat) (nb nl nr ne : Nat) (pr : List Nat) (t : TT) (hl9 : l.stackTraces = false) (ao : Nat) (hao : ¬ F ao) (x : Int32)  : CW l yL_state cL_state 4 (some .int) [(0, 9, 12, 21)] 8 132 4 24 g F [.ref (A 0 0), .int x, .ref ao] (fun H => PD g (fW F ao) A nb nl nr ne pr t H ∧ ∃ f, va_at g.1 vwCl (ao, .inl (g.2.1 4, 1, .inr (.inl f))) H)
    (fun v9 H9 => v9 = some (.int (nI (if dcN x nr = 0 then 0 else 1))) ∧ ((if dcN x nr = 0 then 0 else 1) = 0 → (PD g (fW F ao) A nb nl nr ne pr t H9) ∧ ∃ f, f 0 = (t 13 x.toNatClampNeg).toInt64 ∧ va_at g.1 vwCl (ao, .inl (g.2.1 4, 1, .inr (.inl f))) H9) ∧ (¬ (if dcN x nr = 0 then 0 else 1) = 0 → PD g (fW F ao) A nb nl nr ne pr t H9 ∧ ∃ f, va_at g.1 vwCl (ao, .inl (g.2.1 4, 1, .inr (.inl f))) H9)) := by
  refine CW.of (by decide) rfl ?_
  intro p e s m args below meth c E hr hk ht hP ls hl
  have hS : va_S (nF F) s.heap s.heap [] := va_S.rf
  have hx := E.1
  have hb := E.2.1
  have hG := E.2.2.2.2.2
  have hl : lv_has ls 4 [(0, .ref (A 0 0)), (1, .int x), (2, .ref ao)] := hl
  refine lv_aload_n hx hb dL_state_0 rfl (lv_at hl 2 rfl) ?_
  refine lv_iconst (v := 0) hx hb dL_state_1 (by decide) ?_
  refine lv_aload_n hx hb dL_state_2 rfl (lv_at hl 0 rfl) ?_
  refine lv_iload_n hx hb dL_state_3 rfl (lv_at hl 1 rfl) ?_
  refine cx_VF (F1 := fW F ao) (fun q h => Or.inl h) E hS (c_X4_state l g (fW F ao) A nb nl nr ne pr t hl9 x ) ok_X4_state lk_L_43 hP.1 (hP.1.recv hG) rfl hl ⟨rfl, rfl⟩ rfl ⟨(Nat.le_of_eq (Nat.zero_add _)), (Nat.le_of_eq (Nat.zero_add _))⟩ dL_state_4 rfl (fun E9 ce9 q9 H9 locs hX9 hz9 hfr hS hc9 hv9 hf9 => ?_) (fun v9 H locs hv9 hS hz9 hfr => ?_)
  · obtain ⟨⟨hc0, hcE⟩, hP9⟩ := hX9
    have hao9 : ∃ f, va_at g.1 vwCl (ao, .inl (g.2.1 4, 1, .inr (.inl f))) H9 := by
      obtain ⟨f, h⟩ := hP.2
      exact ⟨f, h.kept (hfr ao h.lt (Or.inr rfl))⟩
    generalize hk9 : (if dcN x nr = 0 then 0 else 1) = kc at hc0 hcE ⊢
    obtain rfl : kc = 1 := by
      have h8 := (List.getElem?_eq_some_iff.mp hcE).1
      simp only [List.length_cons, List.length_nil] at h8
      omega
    obtain rfl := Option.some.inj hcE
    refine cw_catch E ht [] (0, 9, 12, 21) [] rfl (fun z hz => by cases hz) ⟨by decide, by decide⟩ (by decide) kl_L_21 cA_IOB hc9 hv9 hf9 ?_
    refine lv_astore_n (lv' := [(3, .ref q9), (0, .ref (A 0 0)), (1, .int x), (2, .ref ao)]) hx hb dL_state_12 rfl hl (by decide) rfl (fun ls hl => ?_)
    refine lv_iconst (v := 1) hx hb dL_state_13 (by decide) ?_
    exact ct_iret E hr hk hS ⟨rfl, fun h => absurd h (by decide), fun _ => ⟨hP9, hao9⟩⟩ dL_state_14 (Nat.le_of_eq (Nat.zero_add _)) (Nat.le_of_eq (Nat.zero_add _))
  · obtain ⟨rfl, hcode, hP2⟩ := hv9
    obtain ⟨f, hf⟩ := hP.2
    have hf := hf.kept (hfr ao hf.lt (Or.inr rfl))
    refine lv_i2l (v := (t 13 x.toNatClampNeg).toInt64) hx hb dL_state_7 rfl ?_
    refine w_last E hS hf hao (show vp_in (nI 0) 1 from vp_in_nI (by decide) (by decide)) dL_state_8 (fun H1 locs1 h1 z1 oq hS => ?_)
    have hP3 := hP2.keepF (fun q h9 hn => oq q (fun z => hn (Or.inr z))) (Nat.le_of_eq z1.symm)
    refine lv_goto (tgt := 15) hx hb dL_state_9 (by decide) ?_
    refine lv_iconst (v := 0) hx hb dL_state_15 (by decide) ?_
    exact ct_iret E hr hk hS ⟨by rw [hcode]; rfl, fun _ => ⟨hP3, _, rfl, h1⟩, fun h => absurd hcode h⟩ dL_state_16 (Nat.le_of_eq (Nat.zero_add _)) (Nat.le_of_eq (Nat.zero_add _))

set_option maxRecDepth 100000 in
theorem okw_floorOf : okW yL_floorOf cL_floorOf 4 (some .int) [(0, 9, 12, 21)] 3 := ⟨lw_gi 58 rfl rfl, lw_gi 599 rfl rfl, by decide +kernel, by decide +kernel, by decide +kernel, lw_gi 598 rfl rfl⟩
set_option maxHeartbeats 4000000 in
set_option maxRecDepth 100000 in
theorem w_floorOf (l : Launch) (g : cG) (F : Nat → Prop) (A : Nat → Nat → Nat) (nb nl nr ne : Nat) (pr : List Nat) (t : TT) (hl9 : l.stackTraces = false) (ao : Nat) (hao : ¬ F ao) (x : Int32)  : CW l yL_floorOf cL_floorOf 4 (some .int) [(0, 9, 12, 21)] 8 133 4 24 g F [.ref (A 0 0), .int x, .ref ao] (fun H => PD g (fW F ao) A nb nl nr ne pr t H ∧ ∃ f, va_at g.1 vwCl (ao, .inl (g.2.1 4, 1, .inr (.inl f))) H)
    (fun v9 H9 => v9 = some (.int (nI (if dcN x nr = 0 then 0 else 1))) ∧ ((if dcN x nr = 0 then 0 else 1) = 0 → (PD g (fW F ao) A nb nl nr ne pr t H9) ∧ ∃ f, f 0 = (if t 13 x.toNatClampNeg = 97 then (if t 10 x.toNatClampNeg < 0 then t 8 x.toNatClampNeg else t 18 (t 10 x.toNatClampNeg).toNatClampNeg) else t 8 x.toNatClampNeg).toInt64 ∧ va_at g.1 vwCl (ao, .inl (g.2.1 4, 1, .inr (.inl f))) H9) ∧ (¬ (if dcN x nr = 0 then 0 else 1) = 0 → PD g (fW F ao) A nb nl nr ne pr t H9 ∧ ∃ f, va_at g.1 vwCl (ao, .inl (g.2.1 4, 1, .inr (.inl f))) H9)) := by
  refine CW.of (by decide) rfl ?_
  intro p e s m args below meth c E hr hk ht hP ls hl
  have hS : va_S (nF F) s.heap s.heap [] := va_S.rf
  have hx := E.1
  have hb := E.2.1
  have hG := E.2.2.2.2.2
  have hl : lv_has ls 4 [(0, .ref (A 0 0)), (1, .int x), (2, .ref ao)] := hl
  refine lv_aload_n hx hb dL_floorOf_0 rfl (lv_at hl 2 rfl) ?_
  refine lv_iconst (v := 0) hx hb dL_floorOf_1 (by decide) ?_
  refine lv_aload_n hx hb dL_floorOf_2 rfl (lv_at hl 0 rfl) ?_
  refine lv_iload_n hx hb dL_floorOf_3 rfl (lv_at hl 1 rfl) ?_
  refine cx_VF (F1 := fW F ao) (fun q h => Or.inl h) E hS (c_X4_floorOf l g (fW F ao) A nb nl nr ne pr t hl9 x ) ok_X4_floorOf lk_L_47 hP.1 (hP.1.recv hG) rfl hl ⟨rfl, rfl⟩ rfl ⟨(Nat.le_of_eq (Nat.zero_add _)), (Nat.le_of_eq (Nat.zero_add _))⟩ dL_floorOf_4 rfl (fun E9 ce9 q9 H9 locs hX9 hz9 hfr hS hc9 hv9 hf9 => ?_) (fun v9 H locs hv9 hS hz9 hfr => ?_)
  · obtain ⟨⟨hc0, hcE⟩, hP9⟩ := hX9
    have hao9 : ∃ f, va_at g.1 vwCl (ao, .inl (g.2.1 4, 1, .inr (.inl f))) H9 := by
      obtain ⟨f, h⟩ := hP.2
      exact ⟨f, h.kept (hfr ao h.lt (Or.inr rfl))⟩
    generalize hk9 : (if dcN x nr = 0 then 0 else 1) = kc at hc0 hcE ⊢
    obtain rfl : kc = 1 := by
      have h8 := (List.getElem?_eq_some_iff.mp hcE).1
      simp only [List.length_cons, List.length_nil] at h8
      omega
    obtain rfl := Option.some.inj hcE
    refine cw_catch E ht [] (0, 9, 12, 21) [] rfl (fun z hz => by cases hz) ⟨by decide, by decide⟩ (by decide) kl_L_21 cA_IOB hc9 hv9 hf9 ?_
    refine lv_astore_n (lv' := [(3, .ref q9), (0, .ref (A 0 0)), (1, .int x), (2, .ref ao)]) hx hb dL_floorOf_12 rfl hl (by decide) rfl (fun ls hl => ?_)
    refine lv_iconst (v := 1) hx hb dL_floorOf_13 (by decide) ?_
    exact ct_iret E hr hk hS ⟨rfl, fun h => absurd h (by decide), fun _ => ⟨hP9, hao9⟩⟩ dL_floorOf_14 (Nat.le_of_eq (Nat.zero_add _)) (Nat.le_of_eq (Nat.zero_add _))
  · obtain ⟨rfl, hcode, hP2⟩ := hv9
    obtain ⟨f, hf⟩ := hP.2
    have hf := hf.kept (hfr ao hf.lt (Or.inr rfl))
    refine lv_i2l (v := (if t 13 x.toNatClampNeg = 97 then (if t 10 x.toNatClampNeg < 0 then t 8 x.toNatClampNeg else t 18 (t 10 x.toNatClampNeg).toNatClampNeg) else t 8 x.toNatClampNeg).toInt64) hx hb dL_floorOf_7 rfl ?_
    refine w_last E hS hf hao (show vp_in (nI 0) 1 from vp_in_nI (by decide) (by decide)) dL_floorOf_8 (fun H1 locs1 h1 z1 oq hS => ?_)
    have hP3 := hP2.keepF (fun q h9 hn => oq q (fun z => hn (Or.inr z))) (Nat.le_of_eq z1.symm)
    refine lv_goto (tgt := 15) hx hb dL_floorOf_9 (by decide) ?_
    refine lv_iconst (v := 0) hx hb dL_floorOf_15 (by decide) ?_
    exact ct_iret E hr hk hS ⟨by rw [hcode]; rfl, fun _ => ⟨hP3, _, rfl, h1⟩, fun h => absurd hcode h⟩ dL_floorOf_16 (Nat.le_of_eq (Nat.zero_add _)) (Nat.le_of_eq (Nat.zero_add _))

set_option maxRecDepth 100000 in
theorem okw_aim : okW yL_aim cL_aim 4 (some .int) [(0, 9, 12, 21)] 3 := ⟨lw_gi 58 rfl rfl, lw_gi 606 rfl rfl, by decide +kernel, by decide +kernel, by decide +kernel, lw_gi 605 rfl rfl⟩
set_option maxHeartbeats 4000000 in
set_option maxRecDepth 100000 in
theorem w_aim (l : Launch) (g : cG) (F : Nat → Prop) (A : Nat → Nat → Nat) (nb nl nr ne : Nat) (pr : List Nat) (t : TT) (hl9 : l.stackTraces = false) (ao : Nat) (hao : ¬ F ao) (x : Int32)  : CW l yL_aim cL_aim 4 (some .int) [(0, 9, 12, 21)] 8 132 4 24 g F [.ref (A 0 0), .int x, .ref ao] (fun H => PD g (fW F ao) A nb nl nr ne pr t H ∧ ∃ f, va_at g.1 vwCl (ao, .inl (g.2.1 4, 1, .inr (.inl f))) H)
    (fun v9 H9 => v9 = some (.int (nI (if dcN x nr = 0 then 0 else 1))) ∧ ((if dcN x nr = 0 then 0 else 1) = 0 → (PD g (fW F ao) A nb nl nr ne pr t H9) ∧ ∃ f, f 0 = (t 9 x.toNatClampNeg).toInt64 ∧ va_at g.1 vwCl (ao, .inl (g.2.1 4, 1, .inr (.inl f))) H9) ∧ (¬ (if dcN x nr = 0 then 0 else 1) = 0 → PD g (fW F ao) A nb nl nr ne pr t H9 ∧ ∃ f, va_at g.1 vwCl (ao, .inl (g.2.1 4, 1, .inr (.inl f))) H9)) := by
  refine CW.of (by decide) rfl ?_
  intro p e s m args below meth c E hr hk ht hP ls hl
  have hS : va_S (nF F) s.heap s.heap [] := va_S.rf
  have hx := E.1
  have hb := E.2.1
  have hG := E.2.2.2.2.2
  have hl : lv_has ls 4 [(0, .ref (A 0 0)), (1, .int x), (2, .ref ao)] := hl
  refine lv_aload_n hx hb dL_aim_0 rfl (lv_at hl 2 rfl) ?_
  refine lv_iconst (v := 0) hx hb dL_aim_1 (by decide) ?_
  refine lv_aload_n hx hb dL_aim_2 rfl (lv_at hl 0 rfl) ?_
  refine lv_iload_n hx hb dL_aim_3 rfl (lv_at hl 1 rfl) ?_
  refine cx_VF (F1 := fW F ao) (fun q h => Or.inl h) E hS (c_X4_aim l g (fW F ao) A nb nl nr ne pr t hl9 x ) ok_X4_aim lk_L_50 hP.1 (hP.1.recv hG) rfl hl ⟨rfl, rfl⟩ rfl ⟨(Nat.le_of_eq (Nat.zero_add _)), (Nat.le_of_eq (Nat.zero_add _))⟩ dL_aim_4 rfl (fun E9 ce9 q9 H9 locs hX9 hz9 hfr hS hc9 hv9 hf9 => ?_) (fun v9 H locs hv9 hS hz9 hfr => ?_)
  · obtain ⟨⟨hc0, hcE⟩, hP9⟩ := hX9
    have hao9 : ∃ f, va_at g.1 vwCl (ao, .inl (g.2.1 4, 1, .inr (.inl f))) H9 := by
      obtain ⟨f, h⟩ := hP.2
      exact ⟨f, h.kept (hfr ao h.lt (Or.inr rfl))⟩
    generalize hk9 : (if dcN x nr = 0 then 0 else 1) = kc at hc0 hcE ⊢
    obtain rfl : kc = 1 := by
      have h8 := (List.getElem?_eq_some_iff.mp hcE).1
      simp only [List.length_cons, List.length_nil] at h8
      omega
    obtain rfl := Option.some.inj hcE
    refine cw_catch E ht [] (0, 9, 12, 21) [] rfl (fun z hz => by cases hz) ⟨by decide, by decide⟩ (by decide) kl_L_21 cA_IOB hc9 hv9 hf9 ?_
    refine lv_astore_n (lv' := [(3, .ref q9), (0, .ref (A 0 0)), (1, .int x), (2, .ref ao)]) hx hb dL_aim_12 rfl hl (by decide) rfl (fun ls hl => ?_)
    refine lv_iconst (v := 1) hx hb dL_aim_13 (by decide) ?_
    exact ct_iret E hr hk hS ⟨rfl, fun h => absurd h (by decide), fun _ => ⟨hP9, hao9⟩⟩ dL_aim_14 (Nat.le_of_eq (Nat.zero_add _)) (Nat.le_of_eq (Nat.zero_add _))
  · obtain ⟨rfl, hcode, hP2⟩ := hv9
    obtain ⟨f, hf⟩ := hP.2
    have hf := hf.kept (hfr ao hf.lt (Or.inr rfl))
    refine lv_i2l (v := (t 9 x.toNatClampNeg).toInt64) hx hb dL_aim_7 rfl ?_
    refine w_last E hS hf hao (show vp_in (nI 0) 1 from vp_in_nI (by decide) (by decide)) dL_aim_8 (fun H1 locs1 h1 z1 oq hS => ?_)
    have hP3 := hP2.keepF (fun q h9 hn => oq q (fun z => hn (Or.inr z))) (Nat.le_of_eq z1.symm)
    refine lv_goto (tgt := 15) hx hb dL_aim_9 (by decide) ?_
    refine lv_iconst (v := 0) hx hb dL_aim_15 (by decide) ?_
    exact ct_iret E hr hk hS ⟨by rw [hcode]; rfl, fun _ => ⟨hP3, _, rfl, h1⟩, fun h => absurd hcode h⟩ dL_aim_16 (Nat.le_of_eq (Nat.zero_add _)) (Nat.le_of_eq (Nat.zero_add _))

set_option maxRecDepth 100000 in
theorem okw_liftOf : okW yL_liftOf cL_liftOf 4 (some .int) [(0, 9, 12, 21), (0, 9, 15, 56)] 3 := ⟨lw_gi 58 rfl rfl, lw_gi 613 rfl rfl, by decide +kernel, by decide +kernel, by decide +kernel, lw_gi 612 rfl rfl⟩
set_option maxHeartbeats 4000000 in
set_option maxRecDepth 100000 in
theorem w_liftOf (l : Launch) (g : cG) (F : Nat → Prop) (A : Nat → Nat → Nat) (nb nl nr ne : Nat) (pr : List Nat) (t : TT) (hl9 : l.stackTraces = false) (ao : Nat) (hao : ¬ F ao) (x : Int32)  : CW l yL_liftOf cL_liftOf 4 (some .int) [(0, 9, 12, 21), (0, 9, 15, 56)] 8 133 4 24 g F [.ref (A 0 0), .int x, .ref ao] (fun H => PD g (fW F ao) A nb nl nr ne pr t H ∧ ∃ f, va_at g.1 vwCl (ao, .inl (g.2.1 4, 1, .inr (.inl f))) H)
    (fun v9 H9 => v9 = some (.int (nI (if dcN x nr = 0 then (if t 10 x.toNatClampNeg < 0 then 2 else 0) else 1))) ∧ ((if dcN x nr = 0 then (if t 10 x.toNatClampNeg < 0 then 2 else 0) else 1) = 0 → (PD g (fW F ao) A nb nl nr ne pr t H9) ∧ ∃ f, f 0 = (t 10 x.toNatClampNeg).toInt64 ∧ va_at g.1 vwCl (ao, .inl (g.2.1 4, 1, .inr (.inl f))) H9) ∧ (¬ (if dcN x nr = 0 then (if t 10 x.toNatClampNeg < 0 then 2 else 0) else 1) = 0 → PD g (fW F ao) A nb nl nr ne pr t H9 ∧ ∃ f, va_at g.1 vwCl (ao, .inl (g.2.1 4, 1, .inr (.inl f))) H9)) := by
  refine CW.of (by decide) rfl ?_
  intro p e s m args below meth c E hr hk ht hP ls hl
  have hS : va_S (nF F) s.heap s.heap [] := va_S.rf
  have hx := E.1
  have hb := E.2.1
  have hG := E.2.2.2.2.2
  have hl : lv_has ls 4 [(0, .ref (A 0 0)), (1, .int x), (2, .ref ao)] := hl
  refine lv_aload_n hx hb dL_liftOf_0 rfl (lv_at hl 2 rfl) ?_
  refine lv_iconst (v := 0) hx hb dL_liftOf_1 (by decide) ?_
  refine lv_aload_n hx hb dL_liftOf_2 rfl (lv_at hl 0 rfl) ?_
  refine lv_iload_n hx hb dL_liftOf_3 rfl (lv_at hl 1 rfl) ?_
  refine cx_VF (F1 := fW F ao) (fun q h => Or.inl h) E hS (c_X4_liftOf l g (fW F ao) A nb nl nr ne pr t hl9 x ) ok_X4_liftOf lk_L_53 hP.1 (hP.1.recv hG) rfl hl ⟨rfl, rfl⟩ rfl ⟨(Nat.le_of_eq (Nat.zero_add _)), (Nat.le_of_eq (Nat.zero_add _))⟩ dL_liftOf_4 rfl (fun E9 ce9 q9 H9 locs hX9 hz9 hfr hS hc9 hv9 hf9 => ?_) (fun v9 H locs hv9 hS hz9 hfr => ?_)
  · obtain ⟨⟨hc0, hcE⟩, hP9⟩ := hX9
    have hao9 : ∃ f, va_at g.1 vwCl (ao, .inl (g.2.1 4, 1, .inr (.inl f))) H9 := by
      obtain ⟨f, h⟩ := hP.2
      exact ⟨f, h.kept (hfr ao h.lt (Or.inr rfl))⟩
    generalize hk9 : (if dcN x nr = 0 then (if t 10 x.toNatClampNeg < 0 then 2 else 0) else 1) = kc at hc0 hcE ⊢
    obtain rfl | rfl : kc = 1 ∨ kc = 2 := by
      have h8 := (List.getElem?_eq_some_iff.mp hcE).1
      simp only [List.length_cons, List.length_nil] at h8
      omega
    · obtain rfl := Option.some.inj hcE
      refine cw_catch E ht [] (0, 9, 12, 21) [(0, 9, 15, 56)] rfl (fun z hz => by cases hz) ⟨by decide, by decide⟩ (by decide) kl_L_21 cA_IOB hc9 hv9 hf9 ?_
      refine lv_astore_n (lv' := [(3, .ref q9), (0, .ref (A 0 0)), (1, .int x), (2, .ref ao)]) hx hb dL_liftOf_12 rfl hl (by decide) rfl (fun ls hl => ?_)
      refine lv_iconst (v := 1) hx hb dL_liftOf_13 (by decide) ?_
      exact ct_iret E hr hk hS ⟨rfl, fun h => absurd h (by decide), fun _ => ⟨hP9, hao9⟩⟩ dL_liftOf_14 (Nat.le_of_eq (Nat.zero_add _)) (Nat.le_of_eq (Nat.zero_add _))
    · obtain rfl := Option.some.inj hcE
      refine cw_catch E ht [(0, 9, 12, 21)] (0, 9, 15, 56) [] rfl (fun z hz => by rw [List.mem_singleton.mp hz]; exact ⟨by decide, kIOB, kl_L_21, by decide +kernel⟩) ⟨by decide, by decide⟩ (by decide) kl_L_56 cA_NSE hc9 hv9 hf9 ?_
      refine lv_astore_n (lv' := [(3, .ref q9), (0, .ref (A 0 0)), (1, .int x), (2, .ref ao)]) hx hb dL_liftOf_15 rfl hl (by decide) rfl (fun ls hl => ?_)
      refine lv_iconst (v := 2) hx hb dL_liftOf_16 (by decide) ?_
      exact ct_iret E hr hk hS ⟨rfl, fun h => absurd h (by decide), fun _ => ⟨hP9, hao9⟩⟩ dL_liftOf_17 (Nat.le_of_eq (Nat.zero_add _)) (Nat.le_of_eq (Nat.zero_add _))
  · obtain ⟨rfl, hcode, hP2⟩ := hv9
    obtain ⟨f, hf⟩ := hP.2
    have hf := hf.kept (hfr ao hf.lt (Or.inr rfl))
    refine lv_i2l (v := (t 10 x.toNatClampNeg).toInt64) hx hb dL_liftOf_7 rfl ?_
    refine w_last E hS hf hao (show vp_in (nI 0) 1 from vp_in_nI (by decide) (by decide)) dL_liftOf_8 (fun H1 locs1 h1 z1 oq hS => ?_)
    have hP3 := hP2.keepF (fun q h9 hn => oq q (fun z => hn (Or.inr z))) (Nat.le_of_eq z1.symm)
    refine lv_goto (tgt := 18) hx hb dL_liftOf_9 (by decide) ?_
    refine lv_iconst (v := 0) hx hb dL_liftOf_18 (by decide) ?_
    exact ct_iret E hr hk hS ⟨by rw [hcode]; rfl, fun _ => ⟨hP3, _, rfl, h1⟩, fun h => absurd hcode h⟩ dL_liftOf_19 (Nat.le_of_eq (Nat.zero_add _)) (Nat.le_of_eq (Nat.zero_add _))

set_option maxRecDepth 100000 in
theorem okw_waited : okW yL_waited cL_waited 4 (some .int) [(0, 9, 12, 21)] 3 := ⟨lw_gi 58 rfl rfl, lw_gi 637 rfl rfl, by decide +kernel, by decide +kernel, by decide +kernel, lw_gi 636 rfl rfl⟩
set_option maxHeartbeats 4000000 in
set_option maxRecDepth 100000 in
theorem w_waited (l : Launch) (g : cG) (F : Nat → Prop) (A : Nat → Nat → Nat) (nb nl nr ne : Nat) (pr : List Nat) (t : TT) (hl9 : l.stackTraces = false) (ao : Nat) (hao : ¬ F ao) (x : Int32)  : CW l yL_waited cL_waited 4 (some .int) [(0, 9, 12, 21)] 8 132 4 24 g F [.ref (A 0 0), .int x, .ref ao] (fun H => PD g (fW F ao) A nb nl nr ne pr t H ∧ ∃ f, va_at g.1 vwCl (ao, .inl (g.2.1 4, 1, .inr (.inl f))) H)
    (fun v9 H9 => v9 = some (.int (nI (if dcN x nr = 0 then 0 else 1))) ∧ ((if dcN x nr = 0 then 0 else 1) = 0 → (PD g (fW F ao) A nb nl nr ne pr t H9) ∧ ∃ f, f 0 = (t 40 x.toNatClampNeg).toInt64 ∧ va_at g.1 vwCl (ao, .inl (g.2.1 4, 1, .inr (.inl f))) H9) ∧ (¬ (if dcN x nr = 0 then 0 else 1) = 0 → PD g (fW F ao) A nb nl nr ne pr t H9 ∧ ∃ f, va_at g.1 vwCl (ao, .inl (g.2.1 4, 1, .inr (.inl f))) H9)) := by
  refine CW.of (by decide) rfl ?_
  intro p e s m args below meth c E hr hk ht hP ls hl
  have hS : va_S (nF F) s.heap s.heap [] := va_S.rf
  have hx := E.1
  have hb := E.2.1
  have hG := E.2.2.2.2.2
  have hl : lv_has ls 4 [(0, .ref (A 0 0)), (1, .int x), (2, .ref ao)] := hl
  refine lv_aload_n hx hb dL_waited_0 rfl (lv_at hl 2 rfl) ?_
  refine lv_iconst (v := 0) hx hb dL_waited_1 (by decide) ?_
  refine lv_aload_n hx hb dL_waited_2 rfl (lv_at hl 0 rfl) ?_
  refine lv_iload_n hx hb dL_waited_3 rfl (lv_at hl 1 rfl) ?_
  refine cx_VF (F1 := fW F ao) (fun q h => Or.inl h) E hS (c_X4_waited l g (fW F ao) A nb nl nr ne pr t hl9 x ) ok_X4_waited lk_L_58 hP.1 (hP.1.recv hG) rfl hl ⟨rfl, rfl⟩ rfl ⟨(Nat.le_of_eq (Nat.zero_add _)), (Nat.le_of_eq (Nat.zero_add _))⟩ dL_waited_4 rfl (fun E9 ce9 q9 H9 locs hX9 hz9 hfr hS hc9 hv9 hf9 => ?_) (fun v9 H locs hv9 hS hz9 hfr => ?_)
  · obtain ⟨⟨hc0, hcE⟩, hP9⟩ := hX9
    have hao9 : ∃ f, va_at g.1 vwCl (ao, .inl (g.2.1 4, 1, .inr (.inl f))) H9 := by
      obtain ⟨f, h⟩ := hP.2
      exact ⟨f, h.kept (hfr ao h.lt (Or.inr rfl))⟩
    generalize hk9 : (if dcN x nr = 0 then 0 else 1) = kc at hc0 hcE ⊢
    obtain rfl : kc = 1 := by
      have h8 := (List.getElem?_eq_some_iff.mp hcE).1
      simp only [List.length_cons, List.length_nil] at h8
      omega
    obtain rfl := Option.some.inj hcE
    refine cw_catch E ht [] (0, 9, 12, 21) [] rfl (fun z hz => by cases hz) ⟨by decide, by decide⟩ (by decide) kl_L_21 cA_IOB hc9 hv9 hf9 ?_
    refine lv_astore_n (lv' := [(3, .ref q9), (0, .ref (A 0 0)), (1, .int x), (2, .ref ao)]) hx hb dL_waited_12 rfl hl (by decide) rfl (fun ls hl => ?_)
    refine lv_iconst (v := 1) hx hb dL_waited_13 (by decide) ?_
    exact ct_iret E hr hk hS ⟨rfl, fun h => absurd h (by decide), fun _ => ⟨hP9, hao9⟩⟩ dL_waited_14 (Nat.le_of_eq (Nat.zero_add _)) (Nat.le_of_eq (Nat.zero_add _))
  · obtain ⟨rfl, hcode, hP2⟩ := hv9
    obtain ⟨f, hf⟩ := hP.2
    have hf := hf.kept (hfr ao hf.lt (Or.inr rfl))
    refine lv_i2l (v := (t 40 x.toNatClampNeg).toInt64) hx hb dL_waited_7 rfl ?_
    refine w_last E hS hf hao (show vp_in (nI 0) 1 from vp_in_nI (by decide) (by decide)) dL_waited_8 (fun H1 locs1 h1 z1 oq hS => ?_)
    have hP3 := hP2.keepF (fun q h9 hn => oq q (fun z => hn (Or.inr z))) (Nat.le_of_eq z1.symm)
    refine lv_goto (tgt := 15) hx hb dL_waited_9 (by decide) ?_
    refine lv_iconst (v := 0) hx hb dL_waited_15 (by decide) ?_
    exact ct_iret E hr hk hS ⟨by rw [hcode]; rfl, fun _ => ⟨hP3, _, rfl, h1⟩, fun h => absurd hcode h⟩ dL_waited_16 (Nat.le_of_eq (Nat.zero_add _)) (Nat.le_of_eq (Nat.zero_add _))

set_option maxRecDepth 100000 in
theorem okw_waitedByLog : okW yL_waitedByLog cL_waitedByLog 4 (some .int) [(0, 9, 12, 21)] 3 := ⟨lw_gi 58 rfl rfl, lw_gi 644 rfl rfl, by decide +kernel, by decide +kernel, by decide +kernel, lw_gi 643 rfl rfl⟩
set_option maxHeartbeats 4000000 in
set_option maxRecDepth 100000 in
theorem w_waitedByLog (l : Launch) (g : cG) (F : Nat → Prop) (A : Nat → Nat → Nat) (nb nl nr ne : Nat) (pr : List Nat) (t : TT) (hl9 : l.stackTraces = false) (ao : Nat) (hao : ¬ F ao) (x : Int32)  : CW l yL_waitedByLog cL_waitedByLog 4 (some .int) [(0, 9, 12, 21)] 8 132 4 24 g F [.ref (A 0 0), .int x, .ref ao] (fun H => PD g (fW F ao) A nb nl nr ne pr t H ∧ ∃ f, va_at g.1 vwCl (ao, .inl (g.2.1 4, 1, .inr (.inl f))) H)
    (fun v9 H9 => v9 = some (.int (nI (if dcN x nr = 0 then 0 else 1))) ∧ ((if dcN x nr = 0 then 0 else 1) = 0 → (PD g (fW F ao) A nb nl nr ne pr t H9) ∧ ∃ f, f 0 = (dTf t x.toNatClampNeg ne 0 (t 23 0)).toInt64 ∧ va_at g.1 vwCl (ao, .inl (g.2.1 4, 1, .inr (.inl f))) H9) ∧ (¬ (if dcN x nr = 0 then 0 else 1) = 0 → PD g (fW F ao) A nb nl nr ne pr t H9 ∧ ∃ f, va_at g.1 vwCl (ao, .inl (g.2.1 4, 1, .inr (.inl f))) H9)) := by
  refine CW.of (by decide) rfl ?_
  intro p e s m args below meth c E hr hk ht hP ls hl
  have hS : va_S (nF F) s.heap s.heap [] := va_S.rf
  have hx := E.1
  have hb := E.2.1
  have hG := E.2.2.2.2.2
  have hl : lv_has ls 4 [(0, .ref (A 0 0)), (1, .int x), (2, .ref ao)] := hl
  refine lv_aload_n hx hb dL_waitedByLog_0 rfl (lv_at hl 2 rfl) ?_
  refine lv_iconst (v := 0) hx hb dL_waitedByLog_1 (by decide) ?_
  refine lv_aload_n hx hb dL_waitedByLog_2 rfl (lv_at hl 0 rfl) ?_
  refine lv_iload_n hx hb dL_waitedByLog_3 rfl (lv_at hl 1 rfl) ?_
  refine cx_VF (F1 := fW F ao) (fun q h => Or.inl h) E hS (c_X4_waitedByLog l g (fW F ao) A nb nl nr ne pr t hl9 x ) ok_X4_waitedByLog lk_L_61 hP.1 (hP.1.recv hG) rfl hl ⟨rfl, rfl⟩ rfl ⟨(Nat.le_of_eq (Nat.zero_add _)), (Nat.le_of_eq (Nat.zero_add _))⟩ dL_waitedByLog_4 rfl (fun E9 ce9 q9 H9 locs hX9 hz9 hfr hS hc9 hv9 hf9 => ?_) (fun v9 H locs hv9 hS hz9 hfr => ?_)
  · obtain ⟨⟨hc0, hcE⟩, hP9⟩ := hX9
    have hao9 : ∃ f, va_at g.1 vwCl (ao, .inl (g.2.1 4, 1, .inr (.inl f))) H9 := by
      obtain ⟨f, h⟩ := hP.2
      exact ⟨f, h.kept (hfr ao h.lt (Or.inr rfl))⟩
    generalize hk9 : (if dcN x nr = 0 then 0 else 1) = kc at hc0 hcE ⊢
    obtain rfl : kc = 1 := by
      have h8 := (List.getElem?_eq_some_iff.mp hcE).1
      simp only [List.length_cons, List.length_nil] at h8
      omega
    obtain rfl := Option.some.inj hcE
    refine cw_catch E ht [] (0, 9, 12, 21) [] rfl (fun z hz => by cases hz) ⟨by decide, by decide⟩ (by decide) kl_L_21 cA_IOB hc9 hv9 hf9 ?_
    refine lv_astore_n (lv' := [(3, .ref q9), (0, .ref (A 0 0)), (1, .int x), (2, .ref ao)]) hx hb dL_waitedByLog_12 rfl hl (by decide) rfl (fun ls hl => ?_)
    refine lv_iconst (v := 1) hx hb dL_waitedByLog_13 (by decide) ?_
    exact ct_iret E hr hk hS ⟨rfl, fun h => absurd h (by decide), fun _ => ⟨hP9, hao9⟩⟩ dL_waitedByLog_14 (Nat.le_of_eq (Nat.zero_add _)) (Nat.le_of_eq (Nat.zero_add _))
  · obtain ⟨rfl, hcode, hP2⟩ := hv9
    obtain ⟨f, hf⟩ := hP.2
    have hf := hf.kept (hfr ao hf.lt (Or.inr rfl))
    refine lv_i2l (v := (dTf t x.toNatClampNeg ne 0 (t 23 0)).toInt64) hx hb dL_waitedByLog_7 rfl ?_
    refine w_last E hS hf hao (show vp_in (nI 0) 1 from vp_in_nI (by decide) (by decide)) dL_waitedByLog_8 (fun H1 locs1 h1 z1 oq hS => ?_)
    have hP3 := hP2.keepF (fun q h9 hn => oq q (fun z => hn (Or.inr z))) (Nat.le_of_eq z1.symm)
    refine lv_goto (tgt := 15) hx hb dL_waitedByLog_9 (by decide) ?_
    refine lv_iconst (v := 0) hx hb dL_waitedByLog_15 (by decide) ?_
    exact ct_iret E hr hk hS ⟨by rw [hcode]; rfl, fun _ => ⟨hP3, _, rfl, h1⟩, fun h => absurd hcode h⟩ dL_waitedByLog_16 (Nat.le_of_eq (Nat.zero_add _)) (Nat.le_of_eq (Nat.zero_add _))

set_option maxRecDepth 100000 in
theorem okw_callOff : okW yL_callOff cL_callOff 4 (some .int) [(0, 9, 12, 21), (0, 9, 15, 15)] 3 := ⟨lw_gi 58 rfl rfl, lw_gi 655 rfl rfl, by decide +kernel, by decide +kernel, by decide +kernel, lw_gi 654 rfl rfl⟩
set_option maxHeartbeats 4000000 in
set_option maxRecDepth 100000 in
theorem w_callOff (l : Launch) (g : cG) (F : Nat → Prop) (A : Nat → Nat → Nat) (nb nl nr ne : Nat) (pr : List Nat) (t : TT) (hl9 : l.stackTraces = false) (ao : Nat) (hao : ¬ F ao) (x : Int32)  : CW l yL_callOff cL_callOff 4 (some .int) [(0, 9, 12, 21), (0, 9, 15, 15)] 8 133 4 24 g F [.ref (A 0 0), .int x, .ref ao] (fun H => PD g (fW F ao) A nb nl nr ne pr t H ∧ ∃ f, va_at g.1 vwCl (ao, .inl (g.2.1 4, 1, .inr (.inl f))) H)
    (fun v9 H9 => v9 = some (.int (nI (if dcN x nl = 0 then (if t 20 x.toNatClampNeg = 115 then (if t 60 0 = -1 then 0 else 2) else 2) else 1))) ∧ ((if dcN x nl = 0 then (if t 20 x.toNatClampNeg = 115 then (if t 60 0 = -1 then 0 else 2) else 2) else 1) = 0 → (PD g (fW F ao) A nb nl nr ne pr ((dLose (tu t 20 x.toNatClampNeg 111) pr x.toNatClampNeg pr.length).1) H9) ∧ ∃ f, f 0 = ((dLose (tu t 20 x.toNatClampNeg 111) pr x.toNatClampNeg pr.length).2).toInt64 ∧ va_at g.1 vwCl (ao, .inl (g.2.1 4, 1, .inr (.inl f))) H9) ∧ (¬ (if dcN x nl = 0 then (if t 20 x.toNatClampNeg = 115 then (if t 60 0 = -1 then 0 else 2) else 2) else 1) = 0 → PD g (fW F ao) A nb nl nr ne pr t H9 ∧ ∃ f, va_at g.1 vwCl (ao, .inl (g.2.1 4, 1, .inr (.inl f))) H9)) := by
  refine CW.of (by decide) rfl ?_
  intro p e s m args below meth c E hr hk ht hP ls hl
  have hS : va_S (nF F) s.heap s.heap [] := va_S.rf
  have hx := E.1
  have hb := E.2.1
  have hG := E.2.2.2.2.2
  have hl : lv_has ls 4 [(0, .ref (A 0 0)), (1, .int x), (2, .ref ao)] := hl
  refine lv_aload_n hx hb dL_callOff_0 rfl (lv_at hl 2 rfl) ?_
  refine lv_iconst (v := 0) hx hb dL_callOff_1 (by decide) ?_
  refine lv_aload_n hx hb dL_callOff_2 rfl (lv_at hl 0 rfl) ?_
  refine lv_iload_n hx hb dL_callOff_3 rfl (lv_at hl 1 rfl) ?_
  refine cx_VF (F1 := fW F ao) (fun q h => Or.inl h) E hS (c_X4_callOff l g (fW F ao) A nb nl nr ne pr t hl9 x ) ok_X4_callOff lk_L_64 hP.1 (hP.1.recv hG) rfl hl ⟨rfl, rfl⟩ rfl ⟨(Nat.le_of_eq (Nat.zero_add _)), (Nat.le_of_eq (Nat.zero_add _))⟩ dL_callOff_4 rfl (fun E9 ce9 q9 H9 locs hX9 hz9 hfr hS hc9 hv9 hf9 => ?_) (fun v9 H locs hv9 hS hz9 hfr => ?_)
  · obtain ⟨⟨hc0, hcE⟩, hP9⟩ := hX9
    have hao9 : ∃ f, va_at g.1 vwCl (ao, .inl (g.2.1 4, 1, .inr (.inl f))) H9 := by
      obtain ⟨f, h⟩ := hP.2
      exact ⟨f, h.kept (hfr ao h.lt (Or.inr rfl))⟩
    generalize hk9 : (if dcN x nl = 0 then (if t 20 x.toNatClampNeg = 115 then (if t 60 0 = -1 then 0 else 2) else 2) else 1) = kc at hc0 hcE ⊢
    obtain rfl | rfl : kc = 1 ∨ kc = 2 := by
      have h8 := (List.getElem?_eq_some_iff.mp hcE).1
      simp only [List.length_cons, List.length_nil] at h8
      omega
    · obtain rfl := Option.some.inj hcE
      refine cw_catch E ht [] (0, 9, 12, 21) [(0, 9, 15, 15)] rfl (fun z hz => by cases hz) ⟨by decide, by decide⟩ (by decide) kl_L_21 cA_IOB hc9 hv9 hf9 ?_
      refine lv_astore_n (lv' := [(3, .ref q9), (0, .ref (A 0 0)), (1, .int x), (2, .ref ao)]) hx hb dL_callOff_12 rfl hl (by decide) rfl (fun ls hl => ?_)
      refine lv_iconst (v := 1) hx hb dL_callOff_13 (by decide) ?_
      exact ct_iret E hr hk hS ⟨rfl, fun h => absurd h (by decide), fun _ => ⟨hP9, hao9⟩⟩ dL_callOff_14 (Nat.le_of_eq (Nat.zero_add _)) (Nat.le_of_eq (Nat.zero_add _))
    · obtain rfl := Option.some.inj hcE
      refine cw_catch E ht [(0, 9, 12, 21)] (0, 9, 15, 15) [] rfl (fun z hz => by rw [List.mem_singleton.mp hz]; exact ⟨by decide, kIOB, kl_L_21, by decide +kernel⟩) ⟨by decide, by decide⟩ (by decide) kl_L_15 cA_ISE hc9 hv9 hf9 ?_
      refine lv_astore_n (lv' := [(3, .ref q9), (0, .ref (A 0 0)), (1, .int x), (2, .ref ao)]) hx hb dL_callOff_15 rfl hl (by decide) rfl (fun ls hl => ?_)
      refine lv_iconst (v := 2) hx hb dL_callOff_16 (by decide) ?_
      exact ct_iret E hr hk hS ⟨rfl, fun h => absurd h (by decide), fun _ => ⟨hP9, hao9⟩⟩ dL_callOff_17 (Nat.le_of_eq (Nat.zero_add _)) (Nat.le_of_eq (Nat.zero_add _))
  · obtain ⟨rfl, hcode, hP2⟩ := hv9
    obtain ⟨f, hf⟩ := hP.2
    have hf := hf.kept (hfr ao hf.lt (Or.inr rfl))
    refine lv_i2l (v := ((dLose (tu t 20 x.toNatClampNeg 111) pr x.toNatClampNeg pr.length).2).toInt64) hx hb dL_callOff_7 rfl ?_
    refine w_last E hS hf hao (show vp_in (nI 0) 1 from vp_in_nI (by decide) (by decide)) dL_callOff_8 (fun H1 locs1 h1 z1 oq hS => ?_)
    have hP3 := hP2.keepF (fun q h9 hn => oq q (fun z => hn (Or.inr z))) (Nat.le_of_eq z1.symm)
    refine lv_goto (tgt := 18) hx hb dL_callOff_9 (by decide) ?_
    refine lv_iconst (v := 0) hx hb dL_callOff_18 (by decide) ?_
    exact ct_iret E hr hk hS ⟨by rw [hcode]; rfl, fun _ => ⟨hP3, _, rfl, h1⟩, fun h => absurd hcode h⟩ dL_callOff_19 (Nat.le_of_eq (Nat.zero_add _)) (Nat.le_of_eq (Nat.zero_add _))

set_option maxRecDepth 100000 in
theorem okw_service : okW yL_service cL_service 4 (some .int) [(0, 9, 12, 21)] 3 := ⟨lw_gi 58 rfl rfl, lw_gi 676 rfl rfl, by decide +kernel, by decide +kernel, by decide +kernel, lw_gi 675 rfl rfl⟩
set_option maxHeartbeats 4000000 in
set_option maxRecDepth 100000 in
theorem w_service (l : Launch) (g : cG) (F : Nat → Prop) (A : Nat → Nat → Nat) (nb nl nr ne : Nat) (pr : List Nat) (t : TT) (hl9 : l.stackTraces = false) (ao : Nat) (hao : ¬ F ao) (x : Int32)  : CW l yL_service cL_service 4 (some .int) [(0, 9, 12, 21)] 8 132 4 24 g F [.ref (A 0 0), .int x, .ref ao] (fun H => PD g (fW F ao) A nb nl nr ne pr t H ∧ ∃ f, va_at g.1 vwCl (ao, .inl (g.2.1 4, 1, .inr (.inl f))) H)
    (fun v9 H9 => v9 = some (.int (nI (if dcN x nl = 0 then 0 else 1))) ∧ ((if dcN x nl = 0 then 0 else 1) = 0 → (PD g (fW F ao) A nb nl nr ne pr t H9) ∧ ∃ f, f 0 = (t 20 x.toNatClampNeg).toInt64 ∧ va_at g.1 vwCl (ao, .inl (g.2.1 4, 1, .inr (.inl f))) H9) ∧ (¬ (if dcN x nl = 0 then 0 else 1) = 0 → PD g (fW F ao) A nb nl nr ne pr t H9 ∧ ∃ f, va_at g.1 vwCl (ao, .inl (g.2.1 4, 1, .inr (.inl f))) H9)) := by
  refine CW.of (by decide) rfl ?_
  intro p e s m args below meth c E hr hk ht hP ls hl
  have hS : va_S (nF F) s.heap s.heap [] := va_S.rf
  have hx := E.1
  have hb := E.2.1
  have hG := E.2.2.2.2.2
  have hl : lv_has ls 4 [(0, .ref (A 0 0)), (1, .int x), (2, .ref ao)] := hl
  refine lv_aload_n hx hb dL_service_0 rfl (lv_at hl 2 rfl) ?_
  refine lv_iconst (v := 0) hx hb dL_service_1 (by decide) ?_
  refine lv_aload_n hx hb dL_service_2 rfl (lv_at hl 0 rfl) ?_
  refine lv_iload_n hx hb dL_service_3 rfl (lv_at hl 1 rfl) ?_
  refine cx_VF (F1 := fW F ao) (fun q h => Or.inl h) E hS (c_X4_service l g (fW F ao) A nb nl nr ne pr t hl9 x ) ok_X4_service lk_L_67 hP.1 (hP.1.recv hG) rfl hl ⟨rfl, rfl⟩ rfl ⟨(Nat.le_of_eq (Nat.zero_add _)), (Nat.le_of_eq (Nat.zero_add _))⟩ dL_service_4 rfl (fun E9 ce9 q9 H9 locs hX9 hz9 hfr hS hc9 hv9 hf9 => ?_) (fun v9 H locs hv9 hS hz9 hfr => ?_)
  · obtain ⟨⟨hc0, hcE⟩, hP9⟩ := hX9
    have hao9 : ∃ f, va_at g.1 vwCl (ao, .inl (g.2.1 4, 1, .inr (.inl f))) H9 := by
      obtain ⟨f, h⟩ := hP.2
      exact ⟨f, h.kept (hfr ao h.lt (Or.inr rfl))⟩
    generalize hk9 : (if dcN x nl = 0 then 0 else 1) = kc at hc0 hcE ⊢
    obtain rfl : kc = 1 := by
      have h8 := (List.getElem?_eq_some_iff.mp hcE).1
      simp only [List.length_cons, List.length_nil] at h8
      omega
    obtain rfl := Option.some.inj hcE
    refine cw_catch E ht [] (0, 9, 12, 21) [] rfl (fun z hz => by cases hz) ⟨by decide, by decide⟩ (by decide) kl_L_21 cA_IOB hc9 hv9 hf9 ?_
    refine lv_astore_n (lv' := [(3, .ref q9), (0, .ref (A 0 0)), (1, .int x), (2, .ref ao)]) hx hb dL_service_12 rfl hl (by decide) rfl (fun ls hl => ?_)
    refine lv_iconst (v := 1) hx hb dL_service_13 (by decide) ?_
    exact ct_iret E hr hk hS ⟨rfl, fun h => absurd h (by decide), fun _ => ⟨hP9, hao9⟩⟩ dL_service_14 (Nat.le_of_eq (Nat.zero_add _)) (Nat.le_of_eq (Nat.zero_add _))
  · obtain ⟨rfl, hcode, hP2⟩ := hv9
    obtain ⟨f, hf⟩ := hP.2
    have hf := hf.kept (hfr ao hf.lt (Or.inr rfl))
    refine lv_i2l (v := (t 20 x.toNatClampNeg).toInt64) hx hb dL_service_7 rfl ?_
    refine w_last E hS hf hao (show vp_in (nI 0) 1 from vp_in_nI (by decide) (by decide)) dL_service_8 (fun H1 locs1 h1 z1 oq hS => ?_)
    have hP3 := hP2.keepF (fun q h9 hn => oq q (fun z => hn (Or.inr z))) (Nat.le_of_eq z1.symm)
    refine lv_goto (tgt := 15) hx hb dL_service_9 (by decide) ?_
    refine lv_iconst (v := 0) hx hb dL_service_15 (by decide) ?_
    exact ct_iret E hr hk hS ⟨by rw [hcode]; rfl, fun _ => ⟨hP3, _, rfl, h1⟩, fun h => absurd hcode h⟩ dL_service_16 (Nat.le_of_eq (Nat.zero_add _)) (Nat.le_of_eq (Nat.zero_add _))

set_option maxRecDepth 100000 in
theorem okw_floorOfLift : okW yL_floorOfLift cL_floorOfLift 4 (some .int) [(0, 9, 12, 21)] 3 := ⟨lw_gi 58 rfl rfl, lw_gi 683 rfl rfl, by decide +kernel, by decide +kernel, by decide +kernel, lw_gi 682 rfl rfl⟩
set_option maxHeartbeats 4000000 in
set_option maxRecDepth 100000 in
theorem w_floorOfLift (l : Launch) (g : cG) (F : Nat → Prop) (A : Nat → Nat → Nat) (nb nl nr ne : Nat) (pr : List Nat) (t : TT) (hl9 : l.stackTraces = false) (ao : Nat) (hao : ¬ F ao) (x : Int32)  : CW l yL_floorOfLift cL_floorOfLift 4 (some .int) [(0, 9, 12, 21)] 8 132 4 24 g F [.ref (A 0 0), .int x, .ref ao] (fun H => PD g (fW F ao) A nb nl nr ne pr t H ∧ ∃ f, va_at g.1 vwCl (ao, .inl (g.2.1 4, 1, .inr (.inl f))) H)
    (fun v9 H9 => v9 = some (.int (nI (if dcN x nl = 0 then 0 else 1))) ∧ ((if dcN x nl = 0 then 0 else 1) = 0 → (PD g (fW F ao) A nb nl nr ne pr t H9) ∧ ∃ f, f 0 = (t 18 x.toNatClampNeg).toInt64 ∧ va_at g.1 vwCl (ao, .inl (g.2.1 4, 1, .inr (.inl f))) H9) ∧ (¬ (if dcN x nl = 0 then 0 else 1) = 0 → PD g (fW F ao) A nb nl nr ne pr t H9 ∧ ∃ f, va_at g.1 vwCl (ao, .inl (g.2.1 4, 1, .inr (.inl f))) H9)) := by
  refine CW.of (by decide) rfl ?_
  intro p e s m args below meth c E hr hk ht hP ls hl
  have hS : va_S (nF F) s.heap s.heap [] := va_S.rf
  have hx := E.1
  have hb := E.2.1
  have hG := E.2.2.2.2.2
  have hl : lv_has ls 4 [(0, .ref (A 0 0)), (1, .int x), (2, .ref ao)] := hl
  refine lv_aload_n hx hb dL_floorOfLift_0 rfl (lv_at hl 2 rfl) ?_
  refine lv_iconst (v := 0) hx hb dL_floorOfLift_1 (by decide) ?_
  refine lv_aload_n hx hb dL_floorOfLift_2 rfl (lv_at hl 0 rfl) ?_
  refine lv_iload_n hx hb dL_floorOfLift_3 rfl (lv_at hl 1 rfl) ?_
  refine cx_VF (F1 := fW F ao) (fun q h => Or.inl h) E hS (c_X4_floorOfLift l g (fW F ao) A nb nl nr ne pr t hl9 x ) ok_X4_floorOfLift lk_L_70 hP.1 (hP.1.recv hG) rfl hl ⟨rfl, rfl⟩ rfl ⟨(Nat.le_of_eq (Nat.zero_add _)), (Nat.le_of_eq (Nat.zero_add _))⟩ dL_floorOfLift_4 rfl (fun E9 ce9 q9 H9 locs hX9 hz9 hfr hS hc9 hv9 hf9 => ?_) (fun v9 H locs hv9 hS hz9 hfr => ?_)
  · obtain ⟨⟨hc0, hcE⟩, hP9⟩ := hX9
    have hao9 : ∃ f, va_at g.1 vwCl (ao, .inl (g.2.1 4, 1, .inr (.inl f))) H9 := by
      obtain ⟨f, h⟩ := hP.2
      exact ⟨f, h.kept (hfr ao h.lt (Or.inr rfl))⟩
    generalize hk9 : (if dcN x nl = 0 then 0 else 1) = kc at hc0 hcE ⊢
    obtain rfl : kc = 1 := by
      have h8 := (List.getElem?_eq_some_iff.mp hcE).1
      simp only [List.length_cons, List.length_nil] at h8
      omega
    obtain rfl := Option.some.inj hcE
    refine cw_catch E ht [] (0, 9, 12, 21) [] rfl (fun z hz => by cases hz) ⟨by decide, by decide⟩ (by decide) kl_L_21 cA_IOB hc9 hv9 hf9 ?_
    refine lv_astore_n (lv' := [(3, .ref q9), (0, .ref (A 0 0)), (1, .int x), (2, .ref ao)]) hx hb dL_floorOfLift_12 rfl hl (by decide) rfl (fun ls hl => ?_)
    refine lv_iconst (v := 1) hx hb dL_floorOfLift_13 (by decide) ?_
    exact ct_iret E hr hk hS ⟨rfl, fun h => absurd h (by decide), fun _ => ⟨hP9, hao9⟩⟩ dL_floorOfLift_14 (Nat.le_of_eq (Nat.zero_add _)) (Nat.le_of_eq (Nat.zero_add _))
  · obtain ⟨rfl, hcode, hP2⟩ := hv9
    obtain ⟨f, hf⟩ := hP.2
    have hf := hf.kept (hfr ao hf.lt (Or.inr rfl))
    refine lv_i2l (v := (t 18 x.toNatClampNeg).toInt64) hx hb dL_floorOfLift_7 rfl ?_
    refine w_last E hS hf hao (show vp_in (nI 0) 1 from vp_in_nI (by decide) (by decide)) dL_floorOfLift_8 (fun H1 locs1 h1 z1 oq hS => ?_)
    have hP3 := hP2.keepF (fun q h9 hn => oq q (fun z => hn (Or.inr z))) (Nat.le_of_eq z1.symm)
    refine lv_goto (tgt := 15) hx hb dL_floorOfLift_9 (by decide) ?_
    refine lv_iconst (v := 0) hx hb dL_floorOfLift_15 (by decide) ?_
    exact ct_iret E hr hk hS ⟨by rw [hcode]; rfl, fun _ => ⟨hP3, _, rfl, h1⟩, fun h => absurd hcode h⟩ dL_floorOfLift_16 (Nat.le_of_eq (Nat.zero_add _)) (Nat.le_of_eq (Nat.zero_add _))

set_option maxRecDepth 100000 in
theorem okw_isUp : okW yL_isUp cL_isUp 4 (some .int) [(0, 16, 19, 21)] 3 := ⟨lw_gi 58 rfl rfl, lw_gi 690 rfl rfl, by decide +kernel, by decide +kernel, by decide +kernel, lw_gi 689 rfl rfl⟩
set_option maxHeartbeats 4000000 in
set_option maxRecDepth 100000 in
theorem w_isUp (l : Launch) (g : cG) (F : Nat → Prop) (A : Nat → Nat → Nat) (nb nl nr ne : Nat) (pr : List Nat) (t : TT) (hl9 : l.stackTraces = false) (ao : Nat) (hao : ¬ F ao) (x : Int32)  : CW l yL_isUp cL_isUp 4 (some .int) [(0, 16, 19, 21)] 8 132 4 24 g F [.ref (A 0 0), .int x, .ref ao] (fun H => PD g (fW F ao) A nb nl nr ne pr t H ∧ ∃ f, va_at g.1 vwCl (ao, .inl (g.2.1 4, 1, .inr (.inl f))) H)
    (fun v9 H9 => v9 = some (.int (nI (if dcN x nl = 0 then 0 else 1))) ∧ ((if dcN x nl = 0 then 0 else 1) = 0 → (PD g (fW F ao) A nb nl nr ne pr t H9) ∧ ∃ f, f 0 = (if t 21 x.toNatClampNeg = 0 then 0 else 1 : Int64) ∧ va_at g.1 vwCl (ao, .inl (g.2.1 4, 1, .inr (.inl f))) H9) ∧ (¬ (if dcN x nl = 0 then 0 else 1) = 0 → PD g (fW F ao) A nb nl nr ne pr t H9 ∧ ∃ f, va_at g.1 vwCl (ao, .inl (g.2.1 4, 1, .inr (.inl f))) H9)) := by
  refine CW.of (by decide) rfl ?_
  intro p e s m args below meth c E hr hk ht hP ls hl
  have hS : va_S (nF F) s.heap s.heap [] := va_S.rf
  have hx := E.1
  have hb := E.2.1
  have hG := E.2.2.2.2.2
  have hl : lv_has ls 4 [(0, .ref (A 0 0)), (1, .int x), (2, .ref ao)] := hl
  refine lv_aload_n hx hb dL_isUp_0 rfl (lv_at hl 2 rfl) ?_
  refine lv_iconst (v := 0) hx hb dL_isUp_1 (by decide) ?_
  refine lv_aload_n hx hb dL_isUp_2 rfl (lv_at hl 0 rfl) ?_
  refine lv_iload_n hx hb dL_isUp_3 rfl (lv_at hl 1 rfl) ?_
  refine cx_VF (F1 := fW F ao) (fun q h => Or.inl h) E hS (c_X4_isUp l g (fW F ao) A nb nl nr ne pr t hl9 x ) ok_X4_isUp lk_L_73 hP.1 (hP.1.recv hG) rfl hl ⟨rfl, rfl⟩ rfl ⟨(Nat.le_of_eq (Nat.zero_add _)), (Nat.le_of_eq (Nat.zero_add _))⟩ dL_isUp_4 rfl (fun E9 ce9 q9 H9 locs hX9 hz9 hfr hS hc9 hv9 hf9 => ?_) (fun v9 H locs hv9 hS hz9 hfr => ?_)
  · obtain ⟨⟨hc0, hcE⟩, hP9⟩ := hX9
    have hao9 : ∃ f, va_at g.1 vwCl (ao, .inl (g.2.1 4, 1, .inr (.inl f))) H9 := by
      obtain ⟨f, h⟩ := hP.2
      exact ⟨f, h.kept (hfr ao h.lt (Or.inr rfl))⟩
    generalize hk9 : (if dcN x nl = 0 then 0 else 1) = kc at hc0 hcE ⊢
    obtain rfl : kc = 1 := by
      have h8 := (List.getElem?_eq_some_iff.mp hcE).1
      simp only [List.length_cons, List.length_nil] at h8
      omega
    obtain rfl := Option.some.inj hcE
    refine cw_catch E ht [] (0, 16, 19, 21) [] rfl (fun z hz => by cases hz) ⟨by decide, by decide⟩ (by decide) kl_L_21 cA_IOB hc9 hv9 hf9 ?_
    refine lv_astore_n (lv' := [(3, .ref q9), (0, .ref (A 0 0)), (1, .int x), (2, .ref ao)]) hx hb dL_isUp_19 rfl hl (by decide) rfl (fun ls hl => ?_)
    refine lv_iconst (v := 1) hx hb dL_isUp_20 (by decide) ?_
    exact ct_iret E hr hk hS ⟨rfl, fun h => absurd h (by decide), fun _ => ⟨hP9, hao9⟩⟩ dL_isUp_21 (Nat.le_of_eq (Nat.zero_add _)) (Nat.le_of_eq (Nat.zero_add _))
  · obtain ⟨rfl, hcode, hP2⟩ := hv9
    obtain ⟨f, hf⟩ := hP.2
    have hf := hf.kept (hfr ao hf.lt (Or.inr rfl))
    refine lv_if_eq (tgt := 14) hx hb dL_isUp_7 (by decide) (fun c1 => ?_) (fun c1 => ?_)
    · refine lv_lconst (v := 0) hx hb dL_isUp_14 (by rfl) ?_
      refine w_last E hS hf hao (show vp_in (nI 0) 1 from vp_in_nI (by decide) (by decide)) dL_isUp_15 (fun H1 locs1 h1 z1 oq hS => ?_)
      have hP3 := hP2.keepF (fun q h9 hn => oq q (fun z => hn (Or.inr z))) (Nat.le_of_eq z1.symm)
      refine lv_goto (tgt := 22) hx hb dL_isUp_16 (by decide) ?_
      refine lv_iconst (v := 0) hx hb dL_isUp_22 (by decide) ?_
      exact ct_iret E hr hk hS ⟨by rw [hcode]; rfl, fun _ => ⟨hP3, _, by rw [if_pos c1]; rfl, h1⟩, fun h => absurd hcode h⟩ dL_isUp_23 (Nat.le_of_eq (Nat.zero_add _)) (Nat.le_of_eq (Nat.zero_add _))
    · refine lv_lconst (v := 1) hx hb dL_isUp_10 (by rfl) ?_
      refine lv_goto (tgt := 15) hx hb dL_isUp_11 (by decide) ?_
      refine w_last E hS hf hao (show vp_in (nI 0) 1 from vp_in_nI (by decide) (by decide)) dL_isUp_15 (fun H1 locs1 h1 z1 oq hS => ?_)
      have hP3 := hP2.keepF (fun q h9 hn => oq q (fun z => hn (Or.inr z))) (Nat.le_of_eq z1.symm)
      refine lv_goto (tgt := 22) hx hb dL_isUp_16 (by decide) ?_
      refine lv_iconst (v := 0) hx hb dL_isUp_22 (by decide) ?_
      exact ct_iret E hr hk hS ⟨by rw [hcode]; rfl, fun _ => ⟨hP3, _, by rw [if_neg c1]; rfl, h1⟩, fun h => absurd hcode h⟩ dL_isUp_23 (Nat.le_of_eq (Nat.zero_add _)) (Nat.le_of_eq (Nat.zero_add _))

set_option maxRecDepth 100000 in
theorem okw_aboard : okW yL_aboard cL_aboard 4 (some .int) [(0, 9, 12, 21)] 3 := ⟨lw_gi 58 rfl rfl, lw_gi 697 rfl rfl, by decide +kernel, by decide +kernel, by decide +kernel, lw_gi 696 rfl rfl⟩
set_option maxHeartbeats 4000000 in
set_option maxRecDepth 100000 in
theorem w_aboard (l : Launch) (g : cG) (F : Nat → Prop) (A : Nat → Nat → Nat) (nb nl nr ne : Nat) (pr : List Nat) (t : TT) (hl9 : l.stackTraces = false) (ao : Nat) (hao : ¬ F ao) (x : Int32)  : CW l yL_aboard cL_aboard 4 (some .int) [(0, 9, 12, 21)] 8 132 4 24 g F [.ref (A 0 0), .int x, .ref ao] (fun H => PD g (fW F ao) A nb nl nr ne pr t H ∧ ∃ f, va_at g.1 vwCl (ao, .inl (g.2.1 4, 1, .inr (.inl f))) H)
    (fun v9 H9 => v9 = some (.int (nI (if dcN x nl = 0 then 0 else 1))) ∧ ((if dcN x nl = 0 then 0 else 1) = 0 → (PD g (fW F ao) A nb nl nr ne pr t H9) ∧ ∃ f, f 0 = (dAb t pr x.toNatClampNeg pr.length).toInt64 ∧ va_at g.1 vwCl (ao, .inl (g.2.1 4, 1, .inr (.inl f))) H9) ∧ (¬ (if dcN x nl = 0 then 0 else 1) = 0 → PD g (fW F ao) A nb nl nr ne pr t H9 ∧ ∃ f, va_at g.1 vwCl (ao, .inl (g.2.1 4, 1, .inr (.inl f))) H9)) := by
  refine CW.of (by decide) rfl ?_
  intro p e s m args below meth c E hr hk ht hP ls hl
  have hS : va_S (nF F) s.heap s.heap [] := va_S.rf
  have hx := E.1
  have hb := E.2.1
  have hG := E.2.2.2.2.2
  have hl : lv_has ls 4 [(0, .ref (A 0 0)), (1, .int x), (2, .ref ao)] := hl
  refine lv_aload_n hx hb dL_aboard_0 rfl (lv_at hl 2 rfl) ?_
  refine lv_iconst (v := 0) hx hb dL_aboard_1 (by decide) ?_
  refine lv_aload_n hx hb dL_aboard_2 rfl (lv_at hl 0 rfl) ?_
  refine lv_iload_n hx hb dL_aboard_3 rfl (lv_at hl 1 rfl) ?_
  refine cx_VF (F1 := fW F ao) (fun q h => Or.inl h) E hS (c_X4_aboard l g (fW F ao) A nb nl nr ne pr t hl9 x ) ok_X4_aboard lk_L_77 hP.1 (hP.1.recv hG) rfl hl ⟨rfl, rfl⟩ rfl ⟨(Nat.le_of_eq (Nat.zero_add _)), (Nat.le_of_eq (Nat.zero_add _))⟩ dL_aboard_4 rfl (fun E9 ce9 q9 H9 locs hX9 hz9 hfr hS hc9 hv9 hf9 => ?_) (fun v9 H locs hv9 hS hz9 hfr => ?_)
  · obtain ⟨⟨hc0, hcE⟩, hP9⟩ := hX9
    have hao9 : ∃ f, va_at g.1 vwCl (ao, .inl (g.2.1 4, 1, .inr (.inl f))) H9 := by
      obtain ⟨f, h⟩ := hP.2
      exact ⟨f, h.kept (hfr ao h.lt (Or.inr rfl))⟩
    generalize hk9 : (if dcN x nl = 0 then 0 else 1) = kc at hc0 hcE ⊢
    obtain rfl : kc = 1 := by
      have h8 := (List.getElem?_eq_some_iff.mp hcE).1
      simp only [List.length_cons, List.length_nil] at h8
      omega
    obtain rfl := Option.some.inj hcE
    refine cw_catch E ht [] (0, 9, 12, 21) [] rfl (fun z hz => by cases hz) ⟨by decide, by decide⟩ (by decide) kl_L_21 cA_IOB hc9 hv9 hf9 ?_
    refine lv_astore_n (lv' := [(3, .ref q9), (0, .ref (A 0 0)), (1, .int x), (2, .ref ao)]) hx hb dL_aboard_12 rfl hl (by decide) rfl (fun ls hl => ?_)
    refine lv_iconst (v := 1) hx hb dL_aboard_13 (by decide) ?_
    exact ct_iret E hr hk hS ⟨rfl, fun h => absurd h (by decide), fun _ => ⟨hP9, hao9⟩⟩ dL_aboard_14 (Nat.le_of_eq (Nat.zero_add _)) (Nat.le_of_eq (Nat.zero_add _))
  · obtain ⟨rfl, hcode, hP2⟩ := hv9
    obtain ⟨f, hf⟩ := hP.2
    have hf := hf.kept (hfr ao hf.lt (Or.inr rfl))
    refine lv_i2l (v := (dAb t pr x.toNatClampNeg pr.length).toInt64) hx hb dL_aboard_7 rfl ?_
    refine w_last E hS hf hao (show vp_in (nI 0) 1 from vp_in_nI (by decide) (by decide)) dL_aboard_8 (fun H1 locs1 h1 z1 oq hS => ?_)
    have hP3 := hP2.keepF (fun q h9 hn => oq q (fun z => hn (Or.inr z))) (Nat.le_of_eq z1.symm)
    refine lv_goto (tgt := 15) hx hb dL_aboard_9 (by decide) ?_
    refine lv_iconst (v := 0) hx hb dL_aboard_15 (by decide) ?_
    exact ct_iret E hr hk hS ⟨by rw [hcode]; rfl, fun _ => ⟨hP3, _, rfl, h1⟩, fun h => absurd hcode h⟩ dL_aboard_16 (Nat.le_of_eq (Nat.zero_add _)) (Nat.le_of_eq (Nat.zero_add _))

set_option maxRecDepth 100000 in
theorem okw_score : okW yL_score cL_score 5 (some .int) [(0, 10, 13, 21)] 4 := ⟨lw_gi 58 rfl rfl, lw_gi 712 rfl rfl, by decide +kernel, by decide +kernel, by decide +kernel, lw_gi 711 rfl rfl⟩
set_option maxHeartbeats 4000000 in
set_option maxRecDepth 100000 in
theorem w_score (l : Launch) (g : cG) (F : Nat → Prop) (A : Nat → Nat → Nat) (nb nl nr ne : Nat) (pr : List Nat) (t : TT) (hl9 : l.stackTraces = false) (ao : Nat) (hao : ¬ F ao) (x y : Int32)  : CW l yL_score cL_score 5 (some .int) [(0, 10, 13, 21)] 8 134 4 24 g F [.ref (A 0 0), .int x, .int y, .ref ao] (fun H => PD g (fW F ao) A nb nl nr ne pr t H ∧ ∃ f, va_at g.1 vwCl (ao, .inl (g.2.1 4, 1, .inr (.inl f))) H)
    (fun v9 H9 => v9 = some (.int (nI (if dcN x nl = 0 then (if dcF y = 0 then 0 else 1) else 1))) ∧ ((if dcN x nl = 0 then (if dcF y = 0 then 0 else 1) else 1) = 0 → (PD g (fW F ao) A nb nl nr ne pr t H9) ∧ ∃ f, f 0 = (dScore t pr x.toNatClampNeg y).toInt64 ∧ va_at g.1 vwCl (ao, .inl (g.2.1 4, 1, .inr (.inl f))) H9) ∧ (¬ (if dcN x nl = 0 then (if dcF y = 0 then 0 else 1) else 1) = 0 → PD g (fW F ao) A nb nl nr ne pr t H9 ∧ ∃ f, va_at g.1 vwCl (ao, .inl (g.2.1 4, 1, .inr (.inl f))) H9)) := by
  refine CW.of (by decide) rfl ?_
  intro p e s m args below meth c E hr hk ht hP ls hl
  have hS : va_S (nF F) s.heap s.heap [] := va_S.rf
  have hx := E.1
  have hb := E.2.1
  have hG := E.2.2.2.2.2
  have hl : lv_has ls 5 [(0, .ref (A 0 0)), (1, .int x), (2, .int y), (3, .ref ao)] := hl
  refine lv_aload_n hx hb dL_score_0 rfl (lv_at hl 3 rfl) ?_
  refine lv_iconst (v := 0) hx hb dL_score_1 (by decide) ?_
  refine lv_aload_n hx hb dL_score_2 rfl (lv_at hl 0 rfl) ?_
  refine lv_iload_n hx hb dL_score_3 rfl (lv_at hl 1 rfl) ?_
  refine lv_iload_n hx hb dL_score_4 rfl (lv_at hl 2 rfl) ?_
  refine cx_VF (F1 := fW F ao) (fun q h => Or.inl h) E hS (c_X4_score l g (fW F ao) A nb nl nr ne pr t hl9 x y ) ok_X4_score lk_L_80 hP.1 (hP.1.recv hG) rfl hl ⟨rfl, rfl⟩ rfl ⟨(Nat.le_of_eq (Nat.zero_add _)), (Nat.le_of_eq (Nat.zero_add _))⟩ dL_score_5 rfl (fun E9 ce9 q9 H9 locs hX9 hz9 hfr hS hc9 hv9 hf9 => ?_) (fun v9 H locs hv9 hS hz9 hfr => ?_)
  · obtain ⟨⟨hc0, hcE⟩, hP9⟩ := hX9
    have hao9 : ∃ f, va_at g.1 vwCl (ao, .inl (g.2.1 4, 1, .inr (.inl f))) H9 := by
      obtain ⟨f, h⟩ := hP.2
      exact ⟨f, h.kept (hfr ao h.lt (Or.inr rfl))⟩
    generalize hk9 : (if dcN x nl = 0 then (if dcF y = 0 then 0 else 1) else 1) = kc at hc0 hcE ⊢
    obtain rfl : kc = 1 := by
      have h8 := (List.getElem?_eq_some_iff.mp hcE).1
      simp only [List.length_cons, List.length_nil] at h8
      omega
    obtain rfl := Option.some.inj hcE
    refine cw_catch E ht [] (0, 10, 13, 21) [] rfl (fun z hz => by cases hz) ⟨by decide, by decide⟩ (by decide) kl_L_21 cA_IOB hc9 hv9 hf9 ?_
    refine lv_astore (lv' := [(4, .ref q9), (0, .ref (A 0 0)), (1, .int x), (2, .int y), (3, .ref ao)]) hx hb dL_score_13 hl (by decide) rfl (fun ls hl => ?_)
    refine lv_iconst (v := 1) hx hb dL_score_15 (by decide) ?_
    exact ct_iret E hr hk hS ⟨rfl, fun h => absurd h (by decide), fun _ => ⟨hP9, hao9⟩⟩ dL_score_16 (Nat.le_of_eq (Nat.zero_add _)) (Nat.le_of_eq (Nat.zero_add _))
  · obtain ⟨rfl, hcode, hP2⟩ := hv9
    obtain ⟨f, hf⟩ := hP.2
    have hf := hf.kept (hfr ao hf.lt (Or.inr rfl))
    refine lv_i2l (v := (dScore t pr x.toNatClampNeg y).toInt64) hx hb dL_score_8 rfl ?_
    refine w_last E hS hf hao (show vp_in (nI 0) 1 from vp_in_nI (by decide) (by decide)) dL_score_9 (fun H1 locs1 h1 z1 oq hS => ?_)
    have hP3 := hP2.keepF (fun q h9 hn => oq q (fun z => hn (Or.inr z))) (Nat.le_of_eq z1.symm)
    refine lv_goto (tgt := 17) hx hb dL_score_10 (by decide) ?_
    refine lv_iconst (v := 0) hx hb dL_score_17 (by decide) ?_
    exact ct_iret E hr hk hS ⟨by rw [hcode]; rfl, fun _ => ⟨hP3, _, rfl, h1⟩, fun h => absurd hcode h⟩ dL_score_18 (Nat.le_of_eq (Nat.zero_add _)) (Nat.le_of_eq (Nat.zero_add _))

set_option maxRecDepth 100000 in
theorem okw_pass : okW yL_pass cL_pass 4 (some .int) [(0, 9, 12, 13)] 3 := ⟨lw_gi 58 rfl rfl, lw_gi 719 rfl rfl, by decide +kernel, by decide +kernel, by decide +kernel, lw_gi 718 rfl rfl⟩
set_option maxHeartbeats 4000000 in
set_option maxRecDepth 100000 in
theorem w_pass (l : Launch) (g : cG) (F : Nat → Prop) (A : Nat → Nat → Nat) (nb nl nr ne : Nat) (pr : List Nat) (t : TT) (hl9 : l.stackTraces = false) (ao : Nat) (hao : ¬ F ao) (x : Int32) (s2 : DS) (hs2 : s2 = dTicks nl (t, pr, ne) x.toNatClampNeg) (hph : ne + dPh (t 13) pr ≤ 95) : CW l yL_pass cL_pass 4 (some .int) [(0, 9, 12, 13)] 13 328 (2 * (s2.2.2 - ne) + 1) (153 * (s2.2.2 - ne) + 6) g F [.ref (A 0 0), .int x, .ref ao] (fun H => PD g (fW F ao) A nb nl nr ne pr t H ∧ ∃ f, va_at g.1 vwCl (ao, .inl (g.2.1 4, 1, .inr (.inl f))) H)
    (fun v9 H9 => v9 = some (.int (nI (if x < 1 then 1 else if x ≤ 100 then 0 else 1))) ∧ ((if x < 1 then 1 else if x ≤ 100 then 0 else 1) = 0 → (PD g (fW F ao) A nb nl nr s2.2.2 s2.2.1 s2.1 H9) ∧ ∃ f, f 0 = (nI pr.length - nI s2.2.1.length).toInt64 ∧ va_at g.1 vwCl (ao, .inl (g.2.1 4, 1, .inr (.inl f))) H9) ∧ (¬ (if x < 1 then 1 else if x ≤ 100 then 0 else 1) = 0 → PD g (fW F ao) A nb nl nr ne pr t H9 ∧ ∃ f, va_at g.1 vwCl (ao, .inl (g.2.1 4, 1, .inr (.inl f))) H9)) := by
  refine CW.of (by decide) rfl ?_
  intro p e s m args below meth c E hr hk ht hP ls hl
  have hS : va_S (nF F) s.heap s.heap [] := va_S.rf
  have hx := E.1
  have hb := E.2.1
  have hG := E.2.2.2.2.2
  have hl : lv_has ls 4 [(0, .ref (A 0 0)), (1, .int x), (2, .ref ao)] := hl
  refine lv_aload_n hx hb dL_pass_0 rfl (lv_at hl 2 rfl) ?_
  refine lv_iconst (v := 0) hx hb dL_pass_1 (by decide) ?_
  refine lv_aload_n hx hb dL_pass_2 rfl (lv_at hl 0 rfl) ?_
  refine lv_iload_n hx hb dL_pass_3 rfl (lv_at hl 1 rfl) ?_
  refine cx_VF (F1 := fW F ao) (fun q h => Or.inl h) E hS (c_X4_pass l g (fW F ao) A nb nl nr ne pr t hl9 x s2 hs2 hph) ok_X4_pass lk_L_83 hP.1 (hP.1.recv hG) rfl hl ⟨rfl, rfl⟩ rfl ⟨(Nat.le_of_eq (Nat.zero_add _)), (Nat.le_of_eq (Nat.zero_add _))⟩ dL_pass_4 rfl (fun E9 ce9 q9 H9 locs hX9 hz9 hfr hS hc9 hv9 hf9 => ?_) (fun v9 H locs hv9 hS hz9 hfr => ?_)
  · obtain ⟨⟨hc0, hcE⟩, hP9⟩ := hX9
    have hao9 : ∃ f, va_at g.1 vwCl (ao, .inl (g.2.1 4, 1, .inr (.inl f))) H9 := by
      obtain ⟨f, h⟩ := hP.2
      exact ⟨f, h.kept (hfr ao h.lt (Or.inr rfl))⟩
    generalize hk9 : (if x < 1 then 1 else if x ≤ 100 then 0 else 1) = kc at hc0 hcE ⊢
    obtain rfl : kc = 1 := by
      have h8 := (List.getElem?_eq_some_iff.mp hcE).1
      simp only [List.length_cons, List.length_nil] at h8
      omega
    obtain rfl := Option.some.inj hcE
    refine cw_catch E ht [] (0, 9, 12, 13) [] rfl (fun z hz => by cases hz) ⟨by decide, by decide⟩ (by decide) kl_L_13 cA_IAE hc9 hv9 hf9 ?_
    refine lv_astore_n (lv' := [(3, .ref q9), (0, .ref (A 0 0)), (1, .int x), (2, .ref ao)]) hx hb dL_pass_12 rfl hl (by decide) rfl (fun ls hl => ?_)
    refine lv_iconst (v := 1) hx hb dL_pass_13 (by decide) ?_
    exact ct_iret E hr hk hS ⟨rfl, fun h => absurd h (by decide), fun _ => ⟨hP9, hao9⟩⟩ dL_pass_14 (Nat.le_of_eq (Nat.zero_add _)) (Nat.le_of_eq (Nat.zero_add _))
  · obtain ⟨rfl, hcode, hP2⟩ := hv9
    obtain ⟨f, hf⟩ := hP.2
    have hf := hf.kept (hfr ao hf.lt (Or.inr rfl))
    refine lv_i2l (v := (nI pr.length - nI s2.2.1.length).toInt64) hx hb dL_pass_7 rfl ?_
    refine w_last E hS hf hao (show vp_in (nI 0) 1 from vp_in_nI (by decide) (by decide)) dL_pass_8 (fun H1 locs1 h1 z1 oq hS => ?_)
    have hP3 := hP2.keepF (fun q h9 hn => oq q (fun z => hn (Or.inr z))) (Nat.le_of_eq z1.symm)
    refine lv_goto (tgt := 15) hx hb dL_pass_9 (by decide) ?_
    refine lv_iconst (v := 0) hx hb dL_pass_15 (by decide) ?_
    exact ct_iret E hr hk hS ⟨by rw [hcode]; rfl, fun _ => ⟨hP3, _, rfl, h1⟩, fun h => absurd hcode h⟩ dL_pass_16 (Nat.le_of_eq (Nat.zero_add _)) (Nat.le_of_eq (Nat.zero_add _))

set_option maxRecDepth 100000 in
theorem okw_alarm : okW yL_alarm cL_alarm 4 (some .int) [(0, 9, 12, 21), (0, 9, 15, 15)] 3 := ⟨lw_gi 58 rfl rfl, lw_gi 800 rfl rfl, by decide +kernel, by decide +kernel, by decide +kernel, lw_gi 799 rfl rfl⟩
set_option maxHeartbeats 4000000 in
set_option maxRecDepth 100000 in
theorem w_alarm (l : Launch) (g : cG) (F : Nat → Prop) (A : Nat → Nat → Nat) (nb nl nr ne : Nat) (pr : List Nat) (t : TT) (hl9 : l.stackTraces = false) (ao : Nat) (hao : ¬ F ao) (x : Int32) (s2 : DS) (hs2 : s2 = dSe pr.length (tu t 60 0 x, pr, ne)) (hph : ne + dPh (t 13) pr ≤ 95) : CW l yL_alarm cL_alarm 4 (some .int) [(0, 9, 12, 21), (0, 9, 15, 15)] 11 280 (2 * (s2.2.2 - ne) + 2) (153 * (s2.2.2 - ne) + 12) g F [.ref (A 0 0), .int x, .ref ao] (fun H => PD g (fW F ao) A nb nl nr ne pr t H ∧ ∃ f, va_at g.1 vwCl (ao, .inl (g.2.1 4, 1, .inr (.inl f))) H)
    (fun v9 H9 => v9 = some (.int (nI (if dcF x = 0 then (if t 60 0 = -1 then (if nI pr.length = 0 then 2 else 0) else 2) else 1))) ∧ ((if dcF x = 0 then (if t 60 0 = -1 then (if nI pr.length = 0 then 2 else 0) else 2) else 1) = 0 → (PD g (fW F ao) A nb nl nr s2.2.2 s2.2.1 s2.1 H9) ∧ ∃ f, f 0 = (nI s2.2.1.length).toInt64 ∧ va_at g.1 vwCl (ao, .inl (g.2.1 4, 1, .inr (.inl f))) H9) ∧ (¬ (if dcF x = 0 then (if t 60 0 = -1 then (if nI pr.length = 0 then 2 else 0) else 2) else 1) = 0 → PD g (fW F ao) A nb nl nr ne pr t H9 ∧ ∃ f, va_at g.1 vwCl (ao, .inl (g.2.1 4, 1, .inr (.inl f))) H9)) := by
  refine CW.of (by decide) rfl ?_
  intro p e s m args below meth c E hr hk ht hP ls hl
  have hS : va_S (nF F) s.heap s.heap [] := va_S.rf
  have hx := E.1
  have hb := E.2.1
  have hG := E.2.2.2.2.2
  have hl : lv_has ls 4 [(0, .ref (A 0 0)), (1, .int x), (2, .ref ao)] := hl
  refine lv_aload_n hx hb dL_alarm_0 rfl (lv_at hl 2 rfl) ?_
  refine lv_iconst (v := 0) hx hb dL_alarm_1 (by decide) ?_
  refine lv_aload_n hx hb dL_alarm_2 rfl (lv_at hl 0 rfl) ?_
  refine lv_iload_n hx hb dL_alarm_3 rfl (lv_at hl 1 rfl) ?_
  refine cx_VF (F1 := fW F ao) (fun q h => Or.inl h) E hS (c_X4_alarm l g (fW F ao) A nb nl nr ne pr t hl9 x s2 hs2 hph) ok_X4_alarm lk_L_86 hP.1 (hP.1.recv hG) rfl hl ⟨rfl, rfl⟩ rfl ⟨(Nat.le_of_eq (Nat.zero_add _)), (Nat.le_of_eq (Nat.zero_add _))⟩ dL_alarm_4 rfl (fun E9 ce9 q9 H9 locs hX9 hz9 hfr hS hc9 hv9 hf9 => ?_) (fun v9 H locs hv9 hS hz9 hfr => ?_)
  · obtain ⟨⟨hc0, hcE⟩, hP9⟩ := hX9
    have hao9 : ∃ f, va_at g.1 vwCl (ao, .inl (g.2.1 4, 1, .inr (.inl f))) H9 := by
      obtain ⟨f, h⟩ := hP.2
      exact ⟨f, h.kept (hfr ao h.lt (Or.inr rfl))⟩
    generalize hk9 : (if dcF x = 0 then (if t 60 0 = -1 then (if nI pr.length = 0 then 2 else 0) else 2) else 1) = kc at hc0 hcE ⊢
    obtain rfl | rfl : kc = 1 ∨ kc = 2 := by
      have h8 := (List.getElem?_eq_some_iff.mp hcE).1
      simp only [List.length_cons, List.length_nil] at h8
      omega
    · obtain rfl := Option.some.inj hcE
      refine cw_catch E ht [] (0, 9, 12, 21) [(0, 9, 15, 15)] rfl (fun z hz => by cases hz) ⟨by decide, by decide⟩ (by decide) kl_L_21 cA_IOB hc9 hv9 hf9 ?_
      refine lv_astore_n (lv' := [(3, .ref q9), (0, .ref (A 0 0)), (1, .int x), (2, .ref ao)]) hx hb dL_alarm_12 rfl hl (by decide) rfl (fun ls hl => ?_)
      refine lv_iconst (v := 1) hx hb dL_alarm_13 (by decide) ?_
      exact ct_iret E hr hk hS ⟨rfl, fun h => absurd h (by decide), fun _ => ⟨hP9, hao9⟩⟩ dL_alarm_14 (Nat.le_of_eq (Nat.zero_add _)) (Nat.le_of_eq (Nat.zero_add _))
    · obtain rfl := Option.some.inj hcE
      refine cw_catch E ht [(0, 9, 12, 21)] (0, 9, 15, 15) [] rfl (fun z hz => by rw [List.mem_singleton.mp hz]; exact ⟨by decide, kIOB, kl_L_21, by decide +kernel⟩) ⟨by decide, by decide⟩ (by decide) kl_L_15 cA_ISE hc9 hv9 hf9 ?_
      refine lv_astore_n (lv' := [(3, .ref q9), (0, .ref (A 0 0)), (1, .int x), (2, .ref ao)]) hx hb dL_alarm_15 rfl hl (by decide) rfl (fun ls hl => ?_)
      refine lv_iconst (v := 2) hx hb dL_alarm_16 (by decide) ?_
      exact ct_iret E hr hk hS ⟨rfl, fun h => absurd h (by decide), fun _ => ⟨hP9, hao9⟩⟩ dL_alarm_17 (Nat.le_of_eq (Nat.zero_add _)) (Nat.le_of_eq (Nat.zero_add _))
  · obtain ⟨rfl, hcode, hP2⟩ := hv9
    obtain ⟨f, hf⟩ := hP.2
    have hf := hf.kept (hfr ao hf.lt (Or.inr rfl))
    refine lv_i2l (v := (nI s2.2.1.length).toInt64) hx hb dL_alarm_7 rfl ?_
    refine w_last E hS hf hao (show vp_in (nI 0) 1 from vp_in_nI (by decide) (by decide)) dL_alarm_8 (fun H1 locs1 h1 z1 oq hS => ?_)
    have hP3 := hP2.keepF (fun q h9 hn => oq q (fun z => hn (Or.inr z))) (Nat.le_of_eq z1.symm)
    refine lv_goto (tgt := 18) hx hb dL_alarm_9 (by decide) ?_
    refine lv_iconst (v := 0) hx hb dL_alarm_18 (by decide) ?_
    exact ct_iret E hr hk hS ⟨by rw [hcode]; rfl, fun _ => ⟨hP3, _, rfl, h1⟩, fun h => absurd hcode h⟩ dL_alarm_19 (Nat.le_of_eq (Nat.zero_add _)) (Nat.le_of_eq (Nat.zero_add _))

set_option maxRecDepth 100000 in
theorem okw_turn : okW yL_turn cL_turn 3 (some .int) [(0, 8, 11, 56)] 2 := ⟨lw_gi 58 rfl rfl, lw_gi 812 rfl rfl, by decide +kernel, by decide +kernel, by decide +kernel, lw_gi 811 rfl rfl⟩
set_option maxHeartbeats 4000000 in
set_option maxRecDepth 100000 in
theorem w_turn (l : Launch) (g : cG) (F : Nat → Prop) (A : Nat → Nat → Nat) (nb nl nr ne : Nat) (pr : List Nat) (t : TT) (hl9 : l.stackTraces = false) (ao : Nat) (hao : ¬ F ao)   : CW l yL_turn cL_turn 3 (some .int) [(0, 8, 11, 56)] 7 129 4 24 g F [.ref (A 0 0), .ref ao] (fun H => PD g (fW F ao) A nb nl nr ne pr t H ∧ ∃ f, va_at g.1 vwCl (ao, .inl (g.2.1 4, 1, .inr (.inl f))) H)
    (fun v9 H9 => v9 = some (.int (nI (if dTurn t pr = -1 then 1 else 0))) ∧ ((if dTurn t pr = -1 then 1 else 0) = 0 → (PD g (fW F ao) A nb nl nr ne pr t H9) ∧ ∃ f, f 0 = (dTurn t pr).toInt64 ∧ va_at g.1 vwCl (ao, .inl (g.2.1 4, 1, .inr (.inl f))) H9) ∧ (¬ (if dTurn t pr = -1 then 1 else 0) = 0 → PD g (fW F ao) A nb nl nr ne pr t H9 ∧ ∃ f, va_at g.1 vwCl (ao, .inl (g.2.1 4, 1, .inr (.inl f))) H9)) := by
  refine CW.of (by decide) rfl ?_
  intro p e s m args below meth c E hr hk ht hP ls hl
  have hS : va_S (nF F) s.heap s.heap [] := va_S.rf
  have hx := E.1
  have hb := E.2.1
  have hG := E.2.2.2.2.2
  have hl : lv_has ls 3 [(0, .ref (A 0 0)), (1, .ref ao)] := hl
  refine lv_aload_n hx hb dL_turn_0 rfl (lv_at hl 1 rfl) ?_
  refine lv_iconst (v := 0) hx hb dL_turn_1 (by decide) ?_
  refine lv_aload_n hx hb dL_turn_2 rfl (lv_at hl 0 rfl) ?_
  refine cx_VF (F1 := fW F ao) (fun q h => Or.inl h) E hS (c_X4_turn l g (fW F ao) A nb nl nr ne pr t hl9  ) ok_X4_turn lk_L_89 hP.1 (hP.1.recv hG) rfl hl ⟨rfl, rfl⟩ rfl ⟨(Nat.le_of_eq (Nat.zero_add _)), (Nat.le_of_eq (Nat.zero_add _))⟩ dL_turn_3 rfl (fun E9 ce9 q9 H9 locs hX9 hz9 hfr hS hc9 hv9 hf9 => ?_) (fun v9 H locs hv9 hS hz9 hfr => ?_)
  · obtain ⟨⟨hc0, hcE⟩, hP9⟩ := hX9
    have hao9 : ∃ f, va_at g.1 vwCl (ao, .inl (g.2.1 4, 1, .inr (.inl f))) H9 := by
      obtain ⟨f, h⟩ := hP.2
      exact ⟨f, h.kept (hfr ao h.lt (Or.inr rfl))⟩
    generalize hk9 : (if dTurn t pr = -1 then 1 else 0) = kc at hc0 hcE ⊢
    obtain rfl : kc = 1 := by
      have h8 := (List.getElem?_eq_some_iff.mp hcE).1
      simp only [List.length_cons, List.length_nil] at h8
      omega
    obtain rfl := Option.some.inj hcE
    refine cw_catch E ht [] (0, 8, 11, 56) [] rfl (fun z hz => by cases hz) ⟨by decide, by decide⟩ (by decide) kl_L_56 cA_NSE hc9 hv9 hf9 ?_
    refine lv_astore_n (lv' := [(2, .ref q9), (0, .ref (A 0 0)), (1, .ref ao)]) hx hb dL_turn_11 rfl hl (by decide) rfl (fun ls hl => ?_)
    refine lv_iconst (v := 1) hx hb dL_turn_12 (by decide) ?_
    exact ct_iret E hr hk hS ⟨rfl, fun h => absurd h (by decide), fun _ => ⟨hP9, hao9⟩⟩ dL_turn_13 (Nat.le_of_eq (Nat.zero_add _)) (Nat.le_of_eq (Nat.zero_add _))
  · obtain ⟨rfl, hcode, hP2⟩ := hv9
    obtain ⟨f, hf⟩ := hP.2
    have hf := hf.kept (hfr ao hf.lt (Or.inr rfl))
    refine lv_i2l (v := (dTurn t pr).toInt64) hx hb dL_turn_6 rfl ?_
    refine w_last E hS hf hao (show vp_in (nI 0) 1 from vp_in_nI (by decide) (by decide)) dL_turn_7 (fun H1 locs1 h1 z1 oq hS => ?_)
    have hP3 := hP2.keepF (fun q h9 hn => oq q (fun z => hn (Or.inr z))) (Nat.le_of_eq z1.symm)
    refine lv_goto (tgt := 14) hx hb dL_turn_8 (by decide) ?_
    refine lv_iconst (v := 0) hx hb dL_turn_14 (by decide) ?_
    exact ct_iret E hr hk hS ⟨by rw [hcode]; rfl, fun _ => ⟨hP3, _, rfl, h1⟩, fun h => absurd hcode h⟩ dL_turn_15 (Nat.le_of_eq (Nat.zero_add _)) (Nat.le_of_eq (Nat.zero_add _))

set_option maxRecDepth 100000 in
theorem okw_doneShare : okW yL_doneShare cL_doneShare 3 (some .int) [(0, 8, 11, 97)] 2 := ⟨lw_gi 58 rfl rfl, lw_gi 820 rfl rfl, by decide +kernel, by decide +kernel, by decide +kernel, lw_gi 819 rfl rfl⟩
set_option maxHeartbeats 4000000 in
set_option maxRecDepth 100000 in
theorem w_doneShare (l : Launch) (g : cG) (F : Nat → Prop) (A : Nat → Nat → Nat) (nb nl nr ne : Nat) (pr : List Nat) (t : TT) (hl9 : l.stackTraces = false) (ao : Nat) (hao : ¬ F ao)  (hpl : pr.length ≤ nr) : CW l yL_doneShare cL_doneShare 3 (some .int) [(0, 8, 11, 97)] 7 111 4 24 g F [.ref (A 0 0), .ref ao] (fun H => PD g (fW F ao) A nb nl nr ne pr t H ∧ ∃ f, va_at g.1 vwCl (ao, .inl (g.2.1 5, 1, .inr (.inr (.inr (.inl f))))) H)
    (fun v9 H9 => v9 = some (.int (nI (if nI nr = 0 then 1 else 0))) ∧ ((if nI nr = 0 then 1 else 0) = 0 → (PD g (fW F ao) A nb nl nr ne pr t H9) ∧ ∃ f, f 0 = FP.f2d (FP.fdiv (FP.i2f (nI nr - nI pr.length)) (FP.i2f (nI nr))) ∧ va_at g.1 vwCl (ao, .inl (g.2.1 5, 1, .inr (.inr (.inr (.inl f))))) H9) ∧ (¬ (if nI nr = 0 then 1 else 0) = 0 → PD g (fW F ao) A nb nl nr ne pr t H9 ∧ ∃ f, va_at g.1 vwCl (ao, .inl (g.2.1 5, 1, .inr (.inr (.inr (.inl f))))) H9)) := by
  refine CW.of (by decide) rfl ?_
  intro p e s m args below meth c E hr hk ht hP ls hl
  have hS : va_S (nF F) s.heap s.heap [] := va_S.rf
  have hx := E.1
  have hb := E.2.1
  have hG := E.2.2.2.2.2
  have hl : lv_has ls 3 [(0, .ref (A 0 0)), (1, .ref ao)] := hl
  refine lv_aload_n hx hb dL_doneShare_0 rfl (lv_at hl 1 rfl) ?_
  refine lv_iconst (v := 0) hx hb dL_doneShare_1 (by decide) ?_
  refine lv_aload_n hx hb dL_doneShare_2 rfl (lv_at hl 0 rfl) ?_
  refine cx_VF (F1 := fW F ao) (fun q h => Or.inl h) E hS (c_X4_doneShare l g (fW F ao) A nb nl nr ne pr t hl9  hpl) ok_X4_doneShare lk_L_93 hP.1 (hP.1.recv hG) rfl hl ⟨rfl, rfl⟩ rfl ⟨(Nat.le_of_eq (Nat.zero_add _)), (Nat.le_of_eq (Nat.zero_add _))⟩ dL_doneShare_3 rfl (fun E9 ce9 q9 H9 locs hX9 hz9 hfr hS hc9 hv9 hf9 => ?_) (fun v9 H locs hv9 hS hz9 hfr => ?_)
  · obtain ⟨⟨hc0, hcE⟩, hP9⟩ := hX9
    have hao9 : ∃ f, va_at g.1 vwCl (ao, .inl (g.2.1 5, 1, .inr (.inr (.inr (.inl f))))) H9 := by
      obtain ⟨f, h⟩ := hP.2
      exact ⟨f, h.kept (hfr ao h.lt (Or.inr rfl))⟩
    generalize hk9 : (if nI nr = 0 then 1 else 0) = kc at hc0 hcE ⊢
    obtain rfl : kc = 1 := by
      have h8 := (List.getElem?_eq_some_iff.mp hcE).1
      simp only [List.length_cons, List.length_nil] at h8
      omega
    obtain rfl := Option.some.inj hcE
    refine cw_catch E ht [] (0, 8, 11, 97) [] rfl (fun z hz => by cases hz) ⟨by decide, by decide⟩ (by decide) kl_L_97 cA_ARE hc9 hv9 hf9 ?_
    refine lv_astore_n (lv' := [(2, .ref q9), (0, .ref (A 0 0)), (1, .ref ao)]) hx hb dL_doneShare_11 rfl hl (by decide) rfl (fun ls hl => ?_)
    refine lv_iconst (v := 1) hx hb dL_doneShare_12 (by decide) ?_
    exact ct_iret E hr hk hS ⟨rfl, fun h => absurd h (by decide), fun _ => ⟨hP9, hao9⟩⟩ dL_doneShare_13 (Nat.le_of_eq (Nat.zero_add _)) (Nat.le_of_eq (Nat.zero_add _))
  · obtain ⟨rfl, hcode, hP2⟩ := hv9
    obtain ⟨f, hf⟩ := hP.2
    have hf := hf.kept (hfr ao hf.lt (Or.inr rfl))
    have hn0 : ¬ nI nr = 0 := fun z => by rw [if_pos z] at hcode; cases hcode
    have hd9 := hP.1.di.1
    refine lv_f2d hx hb dL_doneShare_6 (by rw [pk_sub hpl]; exact fp_s64 (by omega) (by omega) (fun z => hn0 (by rw [z]; rfl))) ?_
    refine w_dast E hS hf hao (show vp_in (nI 0) 1 from vp_in_nI (by decide) (by decide)) dL_doneShare_7 (fun H1 locs1 h1 z1 oq hS => ?_)
    have hP3 := hP2.keepF (fun q h9 hn => oq q (fun z => hn (Or.inr z))) (Nat.le_of_eq z1.symm)
    refine lv_goto (tgt := 14) hx hb dL_doneShare_8 (by decide) ?_
    refine lv_iconst (v := 0) hx hb dL_doneShare_14 (by decide) ?_
    exact ct_iret E hr hk hS ⟨by rw [hcode]; rfl, fun _ => ⟨hP3, _, rfl, h1⟩, fun h => absurd hcode h⟩ dL_doneShare_15 (Nat.le_of_eq (Nat.zero_add _)) (Nat.le_of_eq (Nat.zero_add _))

set_option maxRecDepth 100000 in
theorem okw_meanWait : okW yL_meanWait cL_meanWait 3 (some .int) [(0, 7, 10, 97)] 2 := ⟨lw_gi 58 rfl rfl, lw_gi 844 rfl rfl, by decide +kernel, by decide +kernel, by decide +kernel, lw_gi 843 rfl rfl⟩
set_option maxHeartbeats 4000000 in
set_option maxRecDepth 100000 in
theorem w_meanWait (l : Launch) (g : cG) (F : Nat → Prop) (A : Nat → Nat → Nat) (nb nl nr ne : Nat) (pr : List Nat) (t : TT) (hl9 : l.stackTraces = false) (ao : Nat) (hao : ¬ F ao)   : CW l yL_meanWait cL_meanWait 3 (some .int) [(0, 7, 10, 97)] 7 112 4 24 g F [.ref (A 0 0), .ref ao] (fun H => PD g (fW F ao) A nb nl nr ne pr t H ∧ ∃ f, va_at g.1 vwCl (ao, .inl (g.2.1 5, 1, .inr (.inr (.inr (.inl f))))) H)
    (fun v9 H9 => v9 = some (.int (nI (if nI nr = 0 then 1 else 0))) ∧ ((if nI nr = 0 then 1 else 0) = 0 → (PD g (fW F ao) A nb nl nr ne pr t H9) ∧ ∃ f, f 0 = FP.ddiv (FP.i2d (dWsum t nr)) (FP.i2d (nI nr)) ∧ va_at g.1 vwCl (ao, .inl (g.2.1 5, 1, .inr (.inr (.inr (.inl f))))) H9) ∧ (¬ (if nI nr = 0 then 1 else 0) = 0 → PD g (fW F ao) A nb nl nr ne pr t H9 ∧ ∃ f, va_at g.1 vwCl (ao, .inl (g.2.1 5, 1, .inr (.inr (.inr (.inl f))))) H9)) := by
  refine CW.of (by decide) rfl ?_
  intro p e s m args below meth c E hr hk ht hP ls hl
  have hS : va_S (nF F) s.heap s.heap [] := va_S.rf
  have hx := E.1
  have hb := E.2.1
  have hG := E.2.2.2.2.2
  have hl : lv_has ls 3 [(0, .ref (A 0 0)), (1, .ref ao)] := hl
  refine lv_aload_n hx hb dL_meanWait_0 rfl (lv_at hl 1 rfl) ?_
  refine lv_iconst (v := 0) hx hb dL_meanWait_1 (by decide) ?_
  refine lv_aload_n hx hb dL_meanWait_2 rfl (lv_at hl 0 rfl) ?_
  refine cx_VF (F1 := fW F ao) (fun q h => Or.inl h) E hS (c_X4_meanWait l g (fW F ao) A nb nl nr ne pr t hl9  ) ok_X4_meanWait lk_L_99 hP.1 (hP.1.recv hG) rfl hl ⟨rfl, rfl⟩ rfl ⟨(Nat.le_of_eq (Nat.zero_add _)), (Nat.le_of_eq (Nat.zero_add _))⟩ dL_meanWait_3 rfl (fun E9 ce9 q9 H9 locs hX9 hz9 hfr hS hc9 hv9 hf9 => ?_) (fun v9 H locs hv9 hS hz9 hfr => ?_)
  · obtain ⟨⟨hc0, hcE⟩, hP9⟩ := hX9
    have hao9 : ∃ f, va_at g.1 vwCl (ao, .inl (g.2.1 5, 1, .inr (.inr (.inr (.inl f))))) H9 := by
      obtain ⟨f, h⟩ := hP.2
      exact ⟨f, h.kept (hfr ao h.lt (Or.inr rfl))⟩
    generalize hk9 : (if nI nr = 0 then 1 else 0) = kc at hc0 hcE ⊢
    obtain rfl : kc = 1 := by
      have h8 := (List.getElem?_eq_some_iff.mp hcE).1
      simp only [List.length_cons, List.length_nil] at h8
      omega
    obtain rfl := Option.some.inj hcE
    refine cw_catch E ht [] (0, 7, 10, 97) [] rfl (fun z hz => by cases hz) ⟨by decide, by decide⟩ (by decide) kl_L_97 cA_ARE hc9 hv9 hf9 ?_
    refine lv_astore_n (lv' := [(2, .ref q9), (0, .ref (A 0 0)), (1, .ref ao)]) hx hb dL_meanWait_10 rfl hl (by decide) rfl (fun ls hl => ?_)
    refine lv_iconst (v := 1) hx hb dL_meanWait_11 (by decide) ?_
    exact ct_iret E hr hk hS ⟨rfl, fun h => absurd h (by decide), fun _ => ⟨hP9, hao9⟩⟩ dL_meanWait_12 (Nat.le_of_eq (Nat.zero_add _)) (Nat.le_of_eq (Nat.zero_add _))
  · obtain ⟨rfl, hcode, hP2⟩ := hv9
    obtain ⟨f, hf⟩ := hP.2
    have hf := hf.kept (hfr ao hf.lt (Or.inr rfl))
    refine w_dast E hS hf hao (show vp_in (nI 0) 1 from vp_in_nI (by decide) (by decide)) dL_meanWait_6 (fun H1 locs1 h1 z1 oq hS => ?_)
    have hP3 := hP2.keepF (fun q h9 hn => oq q (fun z => hn (Or.inr z))) (Nat.le_of_eq z1.symm)
    refine lv_goto (tgt := 13) hx hb dL_meanWait_7 (by decide) ?_
    refine lv_iconst (v := 0) hx hb dL_meanWait_13 (by decide) ?_
    exact ct_iret E hr hk hS ⟨by rw [hcode]; rfl, fun _ => ⟨hP3, _, rfl, h1⟩, fun h => absurd hcode h⟩ dL_meanWait_14 (Nat.le_of_eq (Nat.zero_add _)) (Nat.le_of_eq (Nat.zero_add _))
