/-! the law: its loop, its entry -/
section LZ9
variable {p : Program} {l : Launch} {e : Env} {s : State} {m : MethodId} {below : List Frame} {meth : Method} {c : Code}
variable {g : cG} {bs L x om ao d9 : Nat} {xs : Nat → Int32} {ad : Nat → Nat}
set_option maxHeartbeats 4000000 in
set_option maxRecDepth 100000 in
theorem law_sw {args : Array Value} {Q : State → Prop} {j : Nat} (E : EN p s m c cL_law 9 args RL g (F0k s.heap.size)) (hl9 : l.stackTraces = false) (hc : LCn s.heap.size om ao d9 ad) (hX : va_X bs L xs s s.heap) (hbl : bs < s.heap.size) (h4 : 4 * j + 4 ≤ L) (hL : L ≤ 2048) (hn : LAt p l e s m args below meth c Q g bs x om ao d9 ad 28 (j + 1)) : LAt p l e s m args below meth c Q g bs x om ao d9 ad 37 j := by
  intro A nb nl nr ne pr t M f f2 H locs ls hA hPD hPM hao hd9 hRR hS hl
  have hx := E.1
  have hb := E.2.1
  have hl : lv_has ls 9 (LBs j bs x om ao d9) := hl
  refine lv_aload_n hx hb dL_law_37 rfl (lv_at hl 1 rfl) ?_
  refine lv_iload hx hb dL_law_38 (lv_at hl 0 rfl) ?_
  refine va_sld hx hb hX hbl (fun z => z hbl) hS (vp_in_nI (show 4 * j < L by omega) (by omega)) dL_law_40 ?_
  refine lv_bipush (v := 31) hx hb dL_law_41 (by decide) ?_
  refine lv_iand hx hb dL_law_43 ?_
  obtain ⟨k, hk, ek⟩ := pk_andE (xs (nI (4 * j)).toNatClampNeg) (m := 31) 5 (by decide)
  rw [ek]
  have out : ∀ k : Nat, (28 : Int) < (nI k).toInt → W p l e room_1 s m args below meth c H locs (30 + 1000 * j) (400 + 14100 * j) Q (F0 m 44 ls [.int (nI k)]) := fun k hk => lv_tableOut (tgt := 1718) hx hb dL_law_44 (Or.inr hk) (by decide) (l_end hx hb hn hA hPD hPM hao hd9 hRR hS hl (by omega) (by omega))
  match k, hk with
  | 0, _ => exact lv_tableIn (off := 132) (tgt := 176) hx hb dL_law_44 (by decide +kernel) (by decide +kernel) (by decide +kernel) (by decide) (law_0 E hl9 hc hX hbl h4 hL hn A nb nl nr ne pr t M f f2 H locs ls hA hPD hPM hao hd9 hRR hS hl)
  | 1, _ => exact lv_tableIn (off := 188) (tgt := 232) hx hb dL_law_44 (by decide +kernel) (by decide +kernel) (by decide +kernel) (by decide) (law_1 E hl9 hc hX hbl h4 hL hn A nb nl nr ne pr t M f f2 H locs ls hA hPD hPM hao hd9 hRR hS hl)
  | 2, _ => exact lv_tableIn (off := 256) (tgt := 300) hx hb dL_law_44 (by decide +kernel) (by decide +kernel) (by decide +kernel) (by decide) (law_2 E hl9 hc hX hbl h4 hL hn A nb nl nr ne pr t M f f2 H locs ls hA hPD hPM hao hd9 hRR hS hl)
  | 3, _ => exact lv_tableIn (off := 336) (tgt := 380) hx hb dL_law_44 (by decide +kernel) (by decide +kernel) (by decide +kernel) (by decide) (law_3 E hl9 hc hX hbl h4 hL hn A nb nl nr ne pr t M f f2 H locs ls hA hPD hPM hao hd9 hRR hS hl)
  | 4, _ => exact lv_tableIn (off := 392) (tgt := 436) hx hb dL_law_44 (by decide +kernel) (by decide +kernel) (by decide +kernel) (by decide) (law_4 E hl9 hc hX hbl h4 hL hn A nb nl nr ne pr t M f f2 H locs ls hA hPD hPM hao hd9 hRR hS hl)
  | 5, _ => exact lv_tableIn (off := 483) (tgt := 527) hx hb dL_law_44 (by decide +kernel) (by decide +kernel) (by decide +kernel) (by decide) (law_5 E hl9 hc hX hbl h4 hL hn A nb nl nr ne pr t M f f2 H locs ls hA hPD hPM hao hd9 hRR hS hl)
  | 6, _ => exact lv_tableIn (off := 551) (tgt := 595) hx hb dL_law_44 (by decide +kernel) (by decide +kernel) (by decide +kernel) (by decide) (law_6 E hl9 hc hX hbl h4 hL hn A nb nl nr ne pr t M f f2 H locs ls hA hPD hPM hao hd9 hRR hS hl)
  | 7, _ => exact lv_tableIn (off := 631) (tgt := 675) hx hb dL_law_44 (by decide +kernel) (by decide +kernel) (by decide +kernel) (by decide) (law_7 E hl9 hc hX hbl h4 hL hn A nb nl nr ne pr t M f f2 H locs ls hA hPD hPM hao hd9 hRR hS hl)
  | 8, _ => exact lv_tableIn (off := 687) (tgt := 731) hx hb dL_law_44 (by decide +kernel) (by decide +kernel) (by decide +kernel) (by decide) (law_8 E hl9 hc hX hbl h4 hL hn A nb nl nr ne pr t M f f2 H locs ls hA hPD hPM hao hd9 hRR hS hl)
  | 9, _ => exact lv_tableIn (off := 743) (tgt := 787) hx hb dL_law_44 (by decide +kernel) (by decide +kernel) (by decide +kernel) (by decide) (law_9 E hl9 hc hX hbl h4 hL hn A nb nl nr ne pr t M f f2 H locs ls hA hPD hPM hao hd9 hRR hS hl)
  | 10, _ => exact lv_tableIn (off := 799) (tgt := 843) hx hb dL_law_44 (by decide +kernel) (by decide +kernel) (by decide +kernel) (by decide) (law_10 E hl9 hc hX hbl h4 hL hn A nb nl nr ne pr t M f f2 H locs ls hA hPD hPM hao hd9 hRR hS hl)
  | 11, _ => exact lv_tableIn (off := 855) (tgt := 899) hx hb dL_law_44 (by decide +kernel) (by decide +kernel) (by decide +kernel) (by decide) (law_11 E hl9 hc hX hbl h4 hL hn A nb nl nr ne pr t M f f2 H locs ls hA hPD hPM hao hd9 hRR hS hl)
  | 12, _ => exact lv_tableIn (off := 911) (tgt := 955) hx hb dL_law_44 (by decide +kernel) (by decide +kernel) (by decide +kernel) (by decide) (law_12 E hl9 hc hX hbl h4 hL hn A nb nl nr ne pr t M f f2 H locs ls hA hPD hPM hao hd9 hRR hS hl)
  | 13, _ => exact lv_tableIn (off := 967) (tgt := 1011) hx hb dL_law_44 (by decide +kernel) (by decide +kernel) (by decide +kernel) (by decide) (law_13 E hl9 hc hX hbl h4 hL hn A nb nl nr ne pr t M f f2 H locs ls hA hPD hPM hao hd9 hRR hS hl)
  | 14, _ => exact lv_tableIn (off := 980) (tgt := 1024) hx hb dL_law_44 (by decide +kernel) (by decide +kernel) (by decide +kernel) (by decide) (law_14 E hl9 hc hX hbl h4 hL hn A nb nl nr ne pr t M f f2 H locs ls hA hPD hPM hao hd9 hRR hS hl)
  | 15, _ => exact lv_tableIn (off := 1036) (tgt := 1080) hx hb dL_law_44 (by decide +kernel) (by decide +kernel) (by decide +kernel) (by decide) (law_15 E hl9 hc hX hbl h4 hL hn A nb nl nr ne pr t M f f2 H locs ls hA hPD hPM hao hd9 hRR hS hl)
  | 16, _ => exact lv_tableIn (off := 1092) (tgt := 1136) hx hb dL_law_44 (by decide +kernel) (by decide +kernel) (by decide +kernel) (by decide) (law_16 E hl9 hc hX hbl h4 hL hn A nb nl nr ne pr t M f f2 H locs ls hA hPD hPM hao hd9 hRR hS hl)
  | 17, _ => exact lv_tableIn (off := 1148) (tgt := 1192) hx hb dL_law_44 (by decide +kernel) (by decide +kernel) (by decide +kernel) (by decide) (law_17 E hl9 hc hX hbl h4 hL hn A nb nl nr ne pr t M f f2 H locs ls hA hPD hPM hao hd9 hRR hS hl)
  | 18, _ => exact lv_tableIn (off := 1211) (tgt := 1255) hx hb dL_law_44 (by decide +kernel) (by decide +kernel) (by decide +kernel) (by decide) (law_18 E hl9 hc hX hbl h4 hL hn A nb nl nr ne pr t M f f2 H locs ls hA hPD hPM hao hd9 hRR hS hl)
  | 19, _ => exact lv_tableIn (off := 1267) (tgt := 1311) hx hb dL_law_44 (by decide +kernel) (by decide +kernel) (by decide +kernel) (by decide) (law_19 E hl9 hc hX hbl h4 hL hn A nb nl nr ne pr t M f f2 H locs ls hA hPD hPM hao hd9 hRR hS hl)
  | 20, _ => exact lv_tableIn (off := 1335) (tgt := 1379) hx hb dL_law_44 (by decide +kernel) (by decide +kernel) (by decide +kernel) (by decide) (law_20 E hl9 hc hX hbl h4 hL hn A nb nl nr ne pr t M f f2 H locs ls hA hPD hPM hao hd9 hRR hS hl)
  | 21, _ => exact lv_tableIn (off := 1391) (tgt := 1435) hx hb dL_law_44 (by decide +kernel) (by decide +kernel) (by decide +kernel) (by decide) (law_21 E hl9 hc hX hbl h4 hL hn A nb nl nr ne pr t M f f2 H locs ls hA hPD hPM hao hd9 hRR hS hl)
  | 22, _ => exact lv_tableIn (off := 1404) (tgt := 1448) hx hb dL_law_44 (by decide +kernel) (by decide +kernel) (by decide +kernel) (by decide) (law_22 E hl9 hc hX hbl h4 hL hn A nb nl nr ne pr t M f f2 H locs ls hA hPD hPM hao hd9 hRR hS hl)
  | 23, _ => exact lv_tableIn (off := 1460) (tgt := 1504) hx hb dL_law_44 (by decide +kernel) (by decide +kernel) (by decide +kernel) (by decide) (law_23 E hl9 hc hX hbl h4 hL hn A nb nl nr ne pr t M f f2 H locs ls hA hPD hPM hao hd9 hRR hS hl)
  | 24, _ => exact lv_tableIn (off := 1473) (tgt := 1517) hx hb dL_law_44 (by decide +kernel) (by decide +kernel) (by decide +kernel) (by decide) (law_24 E hl9 hc hX hbl h4 hL hn A nb nl nr ne pr t M f f2 H locs ls hA hPD hPM hao hd9 hRR hS hl)
  | 25, _ => exact lv_tableIn (off := 1517) (tgt := 1561) hx hb dL_law_44 (by decide +kernel) (by decide +kernel) (by decide +kernel) (by decide) (law_25 E hl9 hc hX hbl h4 hL hn A nb nl nr ne pr t M f f2 H locs ls hA hPD hPM hao hd9 hRR hS hl)
  | 26, _ => exact lv_tableIn (off := 1530) (tgt := 1574) hx hb dL_law_44 (by decide +kernel) (by decide +kernel) (by decide +kernel) (by decide) (law_26 E hl9 hc hX hbl h4 hL hn A nb nl nr ne pr t M f f2 H locs ls hA hPD hPM hao hd9 hRR hS hl)
  | 27, _ => exact lv_tableIn (off := 1543) (tgt := 1587) hx hb dL_law_44 (by decide +kernel) (by decide +kernel) (by decide +kernel) (by decide) (law_27 E hl9 hc hX hbl h4 hL hn A nb nl nr ne pr t M f f2 H locs ls hA hPD hPM hao hd9 hRR hS hl)
  | 28, _ => exact lv_tableIn (off := 1609) (tgt := 1653) hx hb dL_law_44 (by decide +kernel) (by decide +kernel) (by decide +kernel) (by decide) (law_28 E hl9 hc hX hbl h4 hL hn A nb nl nr ne pr t M f f2 H locs ls hA hPD hPM hao hd9 hRR hS hl)
  | 29, _ => exact out 29 (by decide +kernel)
  | 30, _ => exact out 30 (by decide +kernel)
  | 31, _ => exact out 31 (by decide +kernel)
  | k + 32, hk => exact absurd hk (by omega)
theorem gt_end {L j : Nat} (hL : L ≤ 2048) (hj : j ≤ 512) : nI L - 4 < nI (4 * j) ↔ L < 4 * j + 4 := by
  rw [show (4 : Int32) = nI 4 from rfl, Int32.lt_iff_toInt_lt, pk_sub_toInt (by omega) (by omega), nI_toInt (by omega)]
  omega
set_option maxHeartbeats 4000000 in
set_option maxRecDepth 100000 in
theorem law_loop (E : EN p s m c cL_law 9 #[Value.ref bs] RL g (F0k s.heap.size)) (hl9 : l.stackTraces = false) (hc : LCn s.heap.size om ao d9 ad) (hX : va_X bs L xs s s.heap) (hbl : bs < s.heap.size) (hL : L ≤ 2048) (hr : meth.sig.returnType = ret) (hlocks : meth.locks = false) :
    ∀ n j, L < 4 * j + n → 4 * j ≤ L → LAt p l e s m #[Value.ref bs] below meth c (lw_Z below #[Value.ref bs] s) g bs x om ao d9 ad 28 j := by
  intro n
  induction n with
  | zero => exact fun j h1 h2 => absurd h1 (by omega)
  | succ n ih =>
    intro j h1 h2 A nb nl nr ne pr t M f f2 H locs ls hA hPD hPM hao hd9 hRR hS hl
    have hx := E.1
    have hb := E.2.1
    have hl : lv_has ls 9 (LBs j bs x om ao d9) := hl
    refine lv_iload hx hb dL_law_28 (lv_at hl 0 rfl) ?_
    refine lv_aload_n hx hb dL_law_30 rfl (lv_at hl 1 rfl) ?_
    refine va_slen hx hb hX hbl (fun z => z hbl) hS dL_law_31 ?_
    refine lv_iconst (v := 4) hx hb dL_law_32 (by decide) ?_
    refine lv_isub hx hb dL_law_33 ?_
    refine lv_icmp_gt (tgt := 1724) hx hb dL_law_34 (by decide) (fun _ => ?_) (fun h => ?_)
    · refine lv_iconst (v := 1) hx hb dL_law_1724 (by decide) ?_
      refine va_forget (fun q hq => Nat.le_of_not_lt (hS.2.2 q hq)) ?_
      refine W.widen (k := 603072) (n := 7231594) (Nat.le_trans (show 30 + 1000 * j ≤ 600000 by omega) (Nat.le_of_ble_eq_true rfl)) (Nat.le_trans (show 400 + 14100 * j ≤ 7230000 by omega) (Nat.le_of_ble_eq_true rfl)) ?_
      exact lw_ret (d0 := s.drawn) (Drawn.sameBut.refl s.drawn lw_cs) hx hb hr hlocks dL_law_1725
    · have h4 : 4 * j + 4 ≤ L := by
        have : ¬ L < 4 * j + 4 := fun z => h ((gt_end hL (show j ≤ 512 by omega)).mpr z)
        omega
      exact law_sw E hl9 hc hX hbl h4 hL (ih (j + 1) (by omega) (by omega)) A nb nl nr ne pr t M f f2 H locs ls hA hPD hPM hao hd9 hRR hS hl
end LZ9
/-! the desk's picture over more foreign cells -/
theorem PD.reF {g : cG} {F F2 : Nat → Prop} {A : Nat → Nat → Nat} {nb nl nr ne : Nat} {pr : List Nat} {t : TT} {H H1 : Heap} (h : PD g F A nb nl nr ne pr t H) (h1 : ∀ q, F q → F2 q) (h2 : ∀ q, F2 q → F q ∨ H.size ≤ q) (h3 : ∀ q, F2 q → q < H1.size) (hk : ∀ q, q < H.size → H1[q]? = H[q]?) : PD g F2 A nb nl nr ne pr t H1 := by
  obtain ⟨B, nm, hB, c1, c2, c3, c4, c5, c6, c7⟩ := h
  have out : ∀ q, q < H.size → ¬ F q → ¬ F2 q := fun q a b z => (h2 q z).elim b (fun y => by omega)
  refine ⟨B, nm, hB, fun k i hi hk3 => ⟨(c1 k i hi hk3).1, out _ ?_ (c1 k i hi hk3).2⟩, fun k i hi ho => (c2 k i hi ho).kept (hk _ (c2 k i hi ho).lt), fun j hj => (c3 j hj).kept (hk _ (c3 j hj).lt), fun j hj => ⟨(c4 j hj).1, ?_⟩, h1 _ c5, h3, c7⟩
  · by_cases ho : kOb k
    · exact (c2 k i hi ho).lt
    · have hk12 : k = 1 ∨ k = 2 := by
        unfold kOb at ho
        have : k < 8 := by
          refine Nat.lt_of_not_le (fun z => ?_)
          obtain ⟨w, rfl⟩ : ∃ w, k = w + 8 := ⟨k - 8, by omega⟩
          exact absurd hi (Nat.not_lt_zero _)
        omega
      rcases hk12 with rfl | rfl
      · exact (c3 i hi).lt
      · obtain ⟨md, z⟩ := (c4 i hi).2.2.1
        exact z.lt
  · obtain ⟨a1, ⟨md, a2⟩, a3, a4⟩ := (c4 j hj).2
    refine ⟨out _ a2.lt a1, ⟨md, a2.kept (hk _ a2.lt)⟩, fun y hy => (a3 y hy).kept (hk _ (a3 y hy).lt), ?_⟩
    rcases a4 with a4 | ⟨a5, a6, cap, f, a7, a8⟩
    · exact Or.inl a4
    · exact Or.inr ⟨out _ a7.lt a5, a6, cap, f, a7.kept (hk _ a7.lt), a8⟩
theorem tr_ok {l : Launch} (hflags : l.flags = flags0) : l.stackTraces = false := by
  unfold Launch.stackTraces
  rw [hflags]
  decide +kernel
set_option maxHeartbeats 8000000 in
set_option maxRecDepth 100000 in
theorem whole_start {p : Program} {e : Env} {s : State} {m : MethodId} {below : List Frame} {meth : Method} {c : Code} (l : Launch) (hflags : l.flags = flags0) {b L : Nat} {xs : Nat → Int32} (hL : L ≤ 2048) (C0 : lw_At p s m meth c b L xs) : W p l e room_1 s m #[Value.ref b] below meth c s.heap [] 0 0 (lw_Z below #[Value.ref b] s) (entryFrame m ([Value.ref b] : List Value).toArray 9) := by
  obtain ⟨hx, hb, hr, hml, hown, hts, hX, hbl, hlocks, hgv⟩ := id C0
  have hl9 := tr_ok hflags
  obtain ⟨g, hG⟩ := ge9 hts hgv
  have E : EN p s m c cL_law 9 #[Value.ref b] RL g (F0k s.heap.size) := ⟨hx, hb, hml, hown, hts_g hts, hG⟩
  have he0 : F0k s.heap.size g.2.2.1 := by
    obtain ⟨cell, h1, -⟩ := hG.2.2.2.1
    exact (Array.getElem?_eq_some_iff.mp h1).1
  have hS : va_S (nF (F0k s.heap.size)) s.heap s.heap [] := va_S.rf
  have hl := lv_entry ([.ref b]) (n := 9) (Nat.le_of_ble_eq_true rfl)
  rw [lg_entry_eq]
  generalize (lg_sl ([.ref b]) ++ List.replicate (9 - (lg_sl ([.ref b])).length) Slot.unset).toArray = ls at hl ⊢
  have hl : lv_has ls 9 [(0, .ref b)] := hl
  -- the desk
  refine w_new (C := RX4) (T := TX4) (N := 12) (ci := 7) E ly_X4 tyX4 tyX4_ok kl_L_8 is_X4 in_X4 rfl hS (fs := [.null, .null, .null, .null, .null, .null, .null, .null, .int 0, .int 0, .int 0, .int 0]) (by decide +kernel) (Nat.le_of_ble_eq_true rfl) (Nat.le_of_ble_eq_true rfl) dL_law_0 (fun H1 hz1 z1 o1 hS1 => ?_)
  refine lv_dup hx hb dL_law_3 rfl ?_
  refine ct_IF (F1 := fun q => q < s.heap.size) (fun q h => h) E hS1 (c_X4_init l g (fun q => q < s.heap.size) s.heap.size (Nat.lt_irrefl _) he0) ok_X4_init lk_L_103 ⟨hz1, fun q hq => by have hq : q < s.heap.size := hq; omega⟩ rfl hl ⟨rfl, rfl⟩ rfl ⟨Nat.le_of_ble_eq_true rfl, Nat.le_of_ble_eq_true rfl⟩ dL_law_4 rfl (fun v H2 locs2 hv hS2 hz2 hfr2 => ?_)
  obtain ⟨rfl, A, hA, hPD2⟩ := hv
  refine lv_astore_n (lv' := [(1, .ref s.heap.size), (0, .ref b)]) hx hb dL_law_7 rfl hl (by decide) rfl (fun ls hl => ?_)
  -- the model
  refine w_new (C := RX5) (T := TX5) (N := 28) (ci := 8) E ly_X5 tyX5 tyX5_ok kl_L_104 is_X5 in_X5 rfl hS2 (fs := mfp (fun _ => 0) 0) (by decide +kernel) (Nat.le_of_ble_eq_true rfl) (Nat.le_of_ble_eq_true rfl) dL_law_8 (fun H3 hz3 z3 o3 hS3 => ?_)
  refine lv_dup hx hb dL_law_11 rfl ?_
  refine ct_IF (F1 := fun q => q < H2.size) (fun q h => by have h : q < s.heap.size := h; show q < H2.size; omega) E hS3 (c_X5_init l g (fun q => q < H2.size) H2.size (Nat.lt_irrefl _)) ok_X5_init lk_L_106 ⟨hz3, fun q hq => by have hq : q < H2.size := hq; omega⟩ rfl hl ⟨rfl, rfl⟩ rfl ⟨Nat.le_of_ble_eq_true rfl, Nat.le_of_ble_eq_true rfl⟩ dL_law_12 rfl (fun v H4 locs4 hv hS4 hz4 hfr4 => ?_)
  obtain ⟨rfl, ad, hPM4⟩ := hv
  refine lv_astore_n (lv' := [(2, .ref H2.size), (1, .ref s.heap.size), (0, .ref b)]) hx hb dL_law_15 rfl hl (by decide) rfl (fun ls hl => ?_)
  -- the places for answers
  refine lv_iconst (v := nI 1) hx hb dL_law_16 rfl ?_
  refine va_newaK (atype := .long) hx hb (hts_g hts _ ac_long) rfl dL_law_17 rfl (nI_pos (by decide)) (nI_clamp (by decide)) (Nat.le_of_ble_eq_true rfl) (Nat.le_of_ble_eq_true rfl) (Nat.le_of_ble_eq_true rfl) rfl fun H5 cA5 e5 z5 o5 hAr5 hNm5 => ?_
  have hc5 : cA5 = g.2.1 4 := Option.some.inj (hNm5.symm.trans (hG.1.2 4 _ rfl).2)
  subst hc5
  have hS5 : va_S (nF (F0k s.heap.size)) s.heap H5 locs4 := ⟨Nat.le_trans hS4.1 (by omega), fun x h1 h2 => (o5 x (Nat.lt_of_lt_of_le h1 hS4.1)).trans (hS4.2.1 x h1 h2), hS4.2.2⟩
  have hao5 : va_at g.1 vwCl (aL g H4.size (fun _ => 0)) H5 := by
    show H5[H4.size]? = some (vp_cell _ _)
    rw [vp_cell_l, e5]; rfl
  refine lv_astore_n (lv' := [(3, .ref H4.size), (2, .ref H2.size), (1, .ref s.heap.size), (0, .ref b)]) hx hb dL_law_19 rfl hl (by decide) rfl (fun ls hl => ?_)
  refine lv_iconst (v := nI 1) hx hb dL_law_20 rfl ?_
  refine va_newaK (atype := .double) hx hb (hts_g hts _ ac_double) rfl dL_law_21 rfl (nI_pos (by decide)) (nI_clamp (by decide)) (Nat.le_of_ble_eq_true rfl) (Nat.le_of_ble_eq_true rfl) (Nat.le_of_ble_eq_true rfl) rfl fun H6 cA6 e6 z6 o6 hAr6 hNm6 => ?_
  have hc6 : cA6 = g.2.1 5 := Option.some.inj (hNm6.symm.trans (hG.1.2 5 _ rfl).2)
  subst hc6
  have hS6 : va_S (nF (F0k s.heap.size)) s.heap H6 locs4 := ⟨Nat.le_trans hS5.1 (by omega), fun x h1 h2 => (o6 x (Nat.lt_of_lt_of_le h1 hS5.1)).trans (hS5.2.1 x h1 h2), hS5.2.2⟩
  have hd6 : va_at g.1 vwCl (aD g H5.size (fun _ => 0)) H6 := by
    show H6[H5.size]? = some (vp_cell _ _)
    rw [vp_cell_d, e6]; rfl
  refine lv_astore (lv' := [(4, .ref H5.size), (3, .ref H4.size), (2, .ref H2.size), (1, .ref s.heap.size), (0, .ref b)]) hx hb dL_law_23 hl (by decide) rfl (fun ls hl => ?_)
  refine lv_iconst (v := nI (4 * 0)) hx hb dL_law_25 rfl ?_
  refine lv_istore (lv' := [(5, .int (nI (4 * 0))), (4, .ref H5.size), (3, .ref H4.size), (2, .ref H2.size), (1, .ref s.heap.size), (0, .ref b)]) hx hb dL_law_26 hl (by decide) rfl (fun ls hl => ?_)
  have hH1 : H1.size = s.heap.size + 1 := z1
  have hH3 : H3.size = H2.size + 1 := z3
  have hH5 : H5.size = H4.size + 1 := z5
  have hH6 : H6.size = H5.size + 1 := z6
  have hom : H2.size < H4.size := by omega
  have hadk : ∀ k, mA k = true → H2.size ≤ ad k ∧ ad k ≠ H2.size ∧ ad k < H4.size := fun k hk => ⟨Nat.le_of_not_lt (hPM4.1.2 k hk).1, (hPM4.1.2 k hk).2.1, hPM4.lta hk⟩
  have hc : LCn s.heap.size H2.size H4.size H5.size ad := ⟨by omega, fun k hk => by
    obtain ⟨a1, a2, a3⟩ := hadk k hk
    exact ⟨by omega, by omega, by omega⟩, by omega, by omega, by omega, by omega, by omega⟩
  have k46 : ∀ q, q < H4.size → H6[q]? = H4[q]? := fun q hq => (o6 q (by omega)).trans (o5 q hq)
  have k26 : ∀ q, q < H2.size → H6[q]? = H2[q]? := fun q hq => (k46 q (by omega)).trans ((hfr4 q (by omega) hq).trans (o3 q hq))
  have hPM6 : PM g (FMd H2.size ad) H2.size ad (mIni 10) H6 := by
    have h1 := hPM4.keep (k46 _ hom) (fun k hk => k46 _ (hadk k hk).2.2)
    exact ⟨⟨fun z => z.1 rfl, fun k hk => ⟨fun z => z.2 k hk rfl, (h1.1.2 k hk).2⟩⟩, h1.2⟩
  have hPD6 : PD g (fW (FBk s.heap.size H2.size ad H5.size) H4.size) A 0 0 0 0 [] (tIni 10) H6 := by
    refine hPD2.reF (fun q hq => Or.inl (Or.inl hq)) (fun q hq => ?_) (fun q hq => ?_) k26
    · rcases hq with (hq | (hq | ⟨k, hk, hq⟩) | hq) | hq
      · exact Or.inl hq
      · exact Or.inr (by omega)
      · exact Or.inr (by have := hadk k hk; omega)
      · exact Or.inr (by omega)
      · exact Or.inr (by omega)
    · rcases hq with (hq | (hq | ⟨k, hk, hq⟩) | hq) | hq
      · omega
      · omega
      · have := hadk k hk; omega
      · omega
      · omega
  have hloop := law_loop (e := e) (below := below) (x := s.heap.size) E hl9 hc hX hbl hL hr hlocks (L + 1) 0 (by omega) (Nat.zero_le _)
  exact W.widen (Nat.le_of_ble_eq_true rfl) (Nat.le_of_ble_eq_true rfl) (hloop A 0 0 0 0 [] (tIni 10) (mIni 10) (fun _ => 0) (fun _ => 0) H6 locs4 ls hA hPD6 hPM6 (hao5.kept (o6 _ (by show H4.size < H5.size; omega))) hd6 RR.ini hS6 (lv_sub hl [0, 5, 4, 3, 2, 1] rfl))
