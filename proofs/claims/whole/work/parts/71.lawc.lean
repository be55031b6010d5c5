section LC9
variable {p : Program} {l : Launch} {e : Env} {s : State} {m : MethodId} {args : Array Value} {below : List Frame} {meth : Method} {c : Code} {Q : State → Prop}
variable {g : cG} {bs L x om ao d9 j : Nat} {xs : Nat → Int32} {ad : Nat → Nat}
set_option maxHeartbeats 4000000 in
set_option maxRecDepth 100000 in
theorem law_14 (E : EN p s m c cL_law 9 args RL g (F0k s.heap.size)) (hl9 : l.stackTraces = false) (hc : LCn s.heap.size om ao d9 ad) (hX : va_X bs L xs s s.heap) (hbl : bs < s.heap.size) (hjL : 4 * j + 4 ≤ L) (hL : L ≤ 2048) (hn : LAt p l e s m args below meth c Q g bs x om ao d9 ad 28 (j + 1)) : LAt p l e s m args below meth c Q g bs x om ao d9 ad 1024 j := by
  intro A nb nl nr ne pr t M f f2 H locs ls hA hPD hPM hao hd9 hRR hS hl
  have hx := E.1
  have hb := E.2.1
  have hj : j < 512 := by omega
  have hN := hRR.2.1
  have h8 := hRR.b8
  have hl : lv_has ls 9 (LBs j bs x om ao d9) := hl

  subst hA
  refine lv_aload_n hx hb dL_law_1024 rfl (lv_at hl 2 rfl) ?_
  refine l_arg hx hb hX hbl hS hl 1 0 rfl rfl (i := 1) rfl (by omega) hL dL_law_1025 dL_law_1026 dL_law_1028 dL_law_1029 dL_law_1030 ?_
  refine lv_aload_n hx hb dL_law_1031 rfl (lv_at hl 4 rfl) ?_
  refine l_wrap E hS (w_callOff l g (FBk s.heap.size om ad d9) A nb nl nr ne pr t hl9 ao (by exact FB_ao hc) (xs (4 * j + 1))) okw_callOff lk_L_159 hPD hao hd9 hPM rfl hl ⟨rfl, rfl⟩ rfl ⟨room_cj (k := 4) hj (by omega), room_sj (k := 24) hj (by omega)⟩ dL_law_1032 rfl (fun v H locs hv hS hPM hd9 => ?_)
  obtain ⟨rfl, hok, hbad⟩ := hv
  obtain ⟨o1, o2, o3⟩ := op_callOff hRR (xs (4 * j + 1))
  have hmid : ∃ (A2 : Nat → Nat → Nat) (nb2 nl2 nr2 ne2 : Nat) (pr2 : List Nat) (t2 : TT) (f9 : Nat → Int64), A2 0 0 = A 0 0 ∧ PD g (fW (FBk s.heap.size om ad d9) ao) A2 nb2 nl2 nr2 ne2 pr2 t2 H ∧ va_at g.1 vwCl (aL g ao f9) H ∧ RR nb2 nl2 nr2 ne2 pr2 t2 (mCallOff M nr nl (xs (4 * j + 1))).2 ∧ ((if dcN (xs (4 * j + 1)) nl = 0 then (if t 20 (xs (4 * j + 1)).toNatClampNeg = 115 then (if t 60 0 = -1 then 0 else 2) else 2) else 1) = 0 → f9 0 = ((mCallOff M nr nl (xs (4 * j + 1))).1).toInt64) := by
    by_cases hk : (if dcN (xs (4 * j + 1)) nl = 0 then (if t 20 (xs (4 * j + 1)).toNatClampNeg = 115 then (if t 60 0 = -1 then 0 else 2) else 2) else 1) = 0
    · obtain ⟨h1, f9, h2, h3⟩ := hok hk
      obtain ⟨o4, o5⟩ := o2 hk
      exact ⟨A, _, _, _, _, _, _, f9, rfl, h1, h3, o5, fun _ => by rw [h2, o4]⟩
    · obtain ⟨h1, f9, h2⟩ := hbad hk
      exact ⟨A, _, _, _, _, _, _, f9, rfl, h1, h2, o3 hk, fun z => absurd z hk⟩
  obtain ⟨A2, nb2, nl2, nr2, ne2, pr2, t2, f9, hA2, hPD2, hao2, hRR2, hans⟩ := hmid
  have hk10 : (if dcN (xs (4 * j + 1)) nl = 0 then (if t 20 (xs (4 * j + 1)).toNatClampNeg = 115 then (if t 60 0 = -1 then 0 else 2) else 2) else 1) < 10 := by (repeat' split) <;> decide
  obtain ⟨kc, hkc⟩ : ∃ kc, kc = (if dcN (xs (4 * j + 1)) nl = 0 then (if t 20 (xs (4 * j + 1)).toNatClampNeg = 115 then (if t 60 0 = -1 then 0 else 2) else 2) else 1) := ⟨_, rfl⟩
  refine lv_istore (lv' := (6, .int (nI (if dcN (xs (4 * j + 1)) nl = 0 then (if t 20 (xs (4 * j + 1)).toNatClampNeg = 115 then (if t 60 0 = -1 then 0 else 2) else 2) else 1))) :: LBs j bs (A 0 0) om ao d9) hx hb dL_law_1035 hl (by decide) rfl (fun ls hl => ?_)
  rw [← hkc] at hl o1 hans hk10
  refine lv_aload_n hx hb dL_law_1037 rfl (lv_at hl 4 rfl) ?_
  refine l_arg hx hb hX hbl hS hl 2 1 rfl rfl (i := 1) rfl (by omega) hL dL_law_1038 dL_law_1039 dL_law_1041 dL_law_1042 dL_law_1043 ?_
  refine l_model E hc hS (c_X5_callOff l g (FMd om ad) om ad M nr nl (xs (4 * j + 1)) hN.2.1 h8.2.2 hN.2.2.1 h8.2.1) ok_X5_callOff lk_L_161 rfl hPM rfl hl ⟨rfl, rfl⟩ rfl ⟨room_cj (k := 4) hj (by omega), room_sj (k := 24) hj (by omega)⟩ dL_law_1044 rfl hPD2 hao2 hd9 (fun v H locs hv hS hPD2 hao2 hd9 => ?_)
  obtain ⟨rfl, hPM⟩ := hv
  refine lv_istore (lv' := (7, .int (mCallOff M nr nl (xs (4 * j + 1))).1) :: (6, .int (nI kc)) :: LBs j bs (A 0 0) om ao d9) hx hb dL_law_1047 hl (by decide) rfl (fun ls hl => ?_)
  exact l_tail E hc lk_L_113 hn (kc := kc) (ans := (mCallOff M nr nl (xs (4 * j + 1))).1) o1 hk10 hans hA2 hPD2 hPM hao2 hd9 hRR2 hS hl hj (by omega) (by omega) 1049 (by decide) dL_law_1049 dL_law_1050 dL_law_1053 dL_law_1055 dL_law_1060 dL_law_1062 dL_law_1065 dL_law_1066 dL_law_1067 dL_law_1068 dL_law_1070 dL_law_1071 dL_law_1072 dL_law_1077
set_option maxHeartbeats 4000000 in
set_option maxRecDepth 100000 in
theorem law_15 (E : EN p s m c cL_law 9 args RL g (F0k s.heap.size)) (hl9 : l.stackTraces = false) (hc : LCn s.heap.size om ao d9 ad) (hX : va_X bs L xs s s.heap) (hbl : bs < s.heap.size) (hjL : 4 * j + 4 ≤ L) (hL : L ≤ 2048) (hn : LAt p l e s m args below meth c Q g bs x om ao d9 ad 28 (j + 1)) : LAt p l e s m args below meth c Q g bs x om ao d9 ad 1080 j := by
  intro A nb nl nr ne pr t M f f2 H locs ls hA hPD hPM hao hd9 hRR hS hl
  have hx := E.1
  have hb := E.2.1
  have hj : j < 512 := by omega
  have hN := hRR.2.1
  have h8 := hRR.b8
  have hl : lv_has ls 9 (LBs j bs x om ao d9) := hl

  have hC20 : ∀ r, r < nl → narrow .char (.int (M 20 r)) = .int (M 20 r) := by rw [← hRR.1.r 20]; exact hPD.di.2.2.2.2.2.1
  subst hA
  refine lv_aload_n hx hb dL_law_1080 rfl (lv_at hl 2 rfl) ?_
  refine l_arg hx hb hX hbl hS hl 1 0 rfl rfl (i := 1) rfl (by omega) hL dL_law_1081 dL_law_1082 dL_law_1084 dL_law_1085 dL_law_1086 ?_
  refine lv_aload_n hx hb dL_law_1087 rfl (lv_at hl 4 rfl) ?_
  refine l_wrap E hS (w_service l g (FBk s.heap.size om ad d9) A nb nl nr ne pr t hl9 ao (by exact FB_ao hc) (xs (4 * j + 1))) okw_service lk_L_162 hPD hao hd9 hPM rfl hl ⟨rfl, rfl⟩ rfl ⟨room_cj (k := 4) hj (by omega), room_sj (k := 24) hj (by omega)⟩ dL_law_1088 rfl (fun v H locs hv hS hPM hd9 => ?_)
  obtain ⟨rfl, hok, hbad⟩ := hv
  obtain ⟨o1, o2, o3⟩ := op_service hRR (xs (4 * j + 1))
  have hmid : ∃ (A2 : Nat → Nat → Nat) (nb2 nl2 nr2 ne2 : Nat) (pr2 : List Nat) (t2 : TT) (f9 : Nat → Int64), A2 0 0 = A 0 0 ∧ PD g (fW (FBk s.heap.size om ad d9) ao) A2 nb2 nl2 nr2 ne2 pr2 t2 H ∧ va_at g.1 vwCl (aL g ao f9) H ∧ RR nb2 nl2 nr2 ne2 pr2 t2 (mNoLift M nl (xs (4 * j + 1))) ∧ ((if dcN (xs (4 * j + 1)) nl = 0 then 0 else 1) = 0 → f9 0 = ((mLiftGet M nl 20 (xs (4 * j + 1)))).toInt64) := by
    by_cases hk : (if dcN (xs (4 * j + 1)) nl = 0 then 0 else 1) = 0
    · obtain ⟨h1, f9, h2, h3⟩ := hok hk
      obtain ⟨o4, o5⟩ := o2 hk
      exact ⟨A, _, _, _, _, _, _, f9, rfl, h1, h3, o5, fun _ => by rw [h2, o4]⟩
    · obtain ⟨h1, f9, h2⟩ := hbad hk
      exact ⟨A, _, _, _, _, _, _, f9, rfl, h1, h2, o3 hk, fun z => absurd z hk⟩
  obtain ⟨A2, nb2, nl2, nr2, ne2, pr2, t2, f9, hA2, hPD2, hao2, hRR2, hans⟩ := hmid
  have hk10 : (if dcN (xs (4 * j + 1)) nl = 0 then 0 else 1) < 10 := by (repeat' split) <;> decide
  obtain ⟨kc, hkc⟩ : ∃ kc, kc = (if dcN (xs (4 * j + 1)) nl = 0 then 0 else 1) := ⟨_, rfl⟩
  refine lv_istore (lv' := (6, .int (nI (if dcN (xs (4 * j + 1)) nl = 0 then 0 else 1))) :: LBs j bs (A 0 0) om ao d9) hx hb dL_law_1091 hl (by decide) rfl (fun ls hl => ?_)
  rw [← hkc] at hl o1 hans hk10
  refine lv_aload_n hx hb dL_law_1093 rfl (lv_at hl 4 rfl) ?_
  refine l_arg hx hb hX hbl hS hl 2 1 rfl rfl (i := 1) rfl (by omega) hL dL_law_1094 dL_law_1095 dL_law_1097 dL_law_1098 dL_law_1099 ?_
  refine l_model E hc hS (c_X5_service l g (FMd om ad) om ad M nl (xs (4 * j + 1)) hN.2.2.1 h8.2.1 hC20) ok_X5_service lk_L_164 rfl hPM rfl hl ⟨rfl, rfl⟩ rfl ⟨room_cj (k := 4) hj (by omega), room_sj (k := 24) hj (by omega)⟩ dL_law_1100 rfl hPD2 hao2 hd9 (fun v H locs hv hS hPD2 hao2 hd9 => ?_)
  obtain ⟨rfl, hPM⟩ := hv
  refine lv_istore (lv' := (7, .int (mLiftGet M nl 20 (xs (4 * j + 1)))) :: (6, .int (nI kc)) :: LBs j bs (A 0 0) om ao d9) hx hb dL_law_1103 hl (by decide) rfl (fun ls hl => ?_)
  exact l_tail E hc lk_L_113 hn (kc := kc) (ans := (mLiftGet M nl 20 (xs (4 * j + 1)))) o1 hk10 hans hA2 hPD2 hPM hao2 hd9 hRR2 hS hl hj (by omega) (by omega) 1105 (by decide) dL_law_1105 dL_law_1106 dL_law_1109 dL_law_1111 dL_law_1116 dL_law_1118 dL_law_1121 dL_law_1122 dL_law_1123 dL_law_1124 dL_law_1126 dL_law_1127 dL_law_1128 dL_law_1133
set_option maxHeartbeats 4000000 in
set_option maxRecDepth 100000 in
theorem law_16 (E : EN p s m c cL_law 9 args RL g (F0k s.heap.size)) (hl9 : l.stackTraces = false) (hc : LCn s.heap.size om ao d9 ad) (hX : va_X bs L xs s s.heap) (hbl : bs < s.heap.size) (hjL : 4 * j + 4 ≤ L) (hL : L ≤ 2048) (hn : LAt p l e s m args below meth c Q g bs x om ao d9 ad 28 (j + 1)) : LAt p l e s m args below meth c Q g bs x om ao d9 ad 1136 j := by
  intro A nb nl nr ne pr t M f f2 H locs ls hA hPD hPM hao hd9 hRR hS hl
  have hx := E.1
  have hb := E.2.1
  have hj : j < 512 := by omega
  have hN := hRR.2.1
  have h8 := hRR.b8
  have hl : lv_has ls 9 (LBs j bs x om ao d9) := hl

  subst hA
  refine lv_aload_n hx hb dL_law_1136 rfl (lv_at hl 2 rfl) ?_
  refine l_arg hx hb hX hbl hS hl 1 0 rfl rfl (i := 1) rfl (by omega) hL dL_law_1137 dL_law_1138 dL_law_1140 dL_law_1141 dL_law_1142 ?_
  refine lv_aload_n hx hb dL_law_1143 rfl (lv_at hl 4 rfl) ?_
  refine l_wrap E hS (w_floorOfLift l g (FBk s.heap.size om ad d9) A nb nl nr ne pr t hl9 ao (by exact FB_ao hc) (xs (4 * j + 1))) okw_floorOfLift lk_L_165 hPD hao hd9 hPM rfl hl ⟨rfl, rfl⟩ rfl ⟨room_cj (k := 4) hj (by omega), room_sj (k := 24) hj (by omega)⟩ dL_law_1144 rfl (fun v H locs hv hS hPM hd9 => ?_)
  obtain ⟨rfl, hok, hbad⟩ := hv
  obtain ⟨o1, o2, o3⟩ := op_floorOfLift hRR (xs (4 * j + 1))
  have hmid : ∃ (A2 : Nat → Nat → Nat) (nb2 nl2 nr2 ne2 : Nat) (pr2 : List Nat) (t2 : TT) (f9 : Nat → Int64), A2 0 0 = A 0 0 ∧ PD g (fW (FBk s.heap.size om ad d9) ao) A2 nb2 nl2 nr2 ne2 pr2 t2 H ∧ va_at g.1 vwCl (aL g ao f9) H ∧ RR nb2 nl2 nr2 ne2 pr2 t2 (mNoLift M nl (xs (4 * j + 1))) ∧ ((if dcN (xs (4 * j + 1)) nl = 0 then 0 else 1) = 0 → f9 0 = ((mLiftGet M nl 18 (xs (4 * j + 1)))).toInt64) := by
    by_cases hk : (if dcN (xs (4 * j + 1)) nl = 0 then 0 else 1) = 0
    · obtain ⟨h1, f9, h2, h3⟩ := hok hk
      obtain ⟨o4, o5⟩ := o2 hk
      exact ⟨A, _, _, _, _, _, _, f9, rfl, h1, h3, o5, fun _ => by rw [h2, o4]⟩
    · obtain ⟨h1, f9, h2⟩ := hbad hk
      exact ⟨A, _, _, _, _, _, _, f9, rfl, h1, h2, o3 hk, fun z => absurd z hk⟩
  obtain ⟨A2, nb2, nl2, nr2, ne2, pr2, t2, f9, hA2, hPD2, hao2, hRR2, hans⟩ := hmid
  have hk10 : (if dcN (xs (4 * j + 1)) nl = 0 then 0 else 1) < 10 := by (repeat' split) <;> decide
  obtain ⟨kc, hkc⟩ : ∃ kc, kc = (if dcN (xs (4 * j + 1)) nl = 0 then 0 else 1) := ⟨_, rfl⟩
  refine lv_istore (lv' := (6, .int (nI (if dcN (xs (4 * j + 1)) nl = 0 then 0 else 1))) :: LBs j bs (A 0 0) om ao d9) hx hb dL_law_1147 hl (by decide) rfl (fun ls hl => ?_)
  rw [← hkc] at hl o1 hans hk10
  refine lv_aload_n hx hb dL_law_1149 rfl (lv_at hl 4 rfl) ?_
  refine l_arg hx hb hX hbl hS hl 2 1 rfl rfl (i := 1) rfl (by omega) hL dL_law_1150 dL_law_1151 dL_law_1153 dL_law_1154 dL_law_1155 ?_
  refine l_model E hc hS (c_X5_floorOfLift l g (FMd om ad) om ad M nl (xs (4 * j + 1)) hN.2.2.1 h8.2.1) ok_X5_floorOfLift lk_L_167 rfl hPM rfl hl ⟨rfl, rfl⟩ rfl ⟨room_cj (k := 4) hj (by omega), room_sj (k := 24) hj (by omega)⟩ dL_law_1156 rfl hPD2 hao2 hd9 (fun v H locs hv hS hPD2 hao2 hd9 => ?_)
  obtain ⟨rfl, hPM⟩ := hv
  refine lv_istore (lv' := (7, .int (mLiftGet M nl 18 (xs (4 * j + 1)))) :: (6, .int (nI kc)) :: LBs j bs (A 0 0) om ao d9) hx hb dL_law_1159 hl (by decide) rfl (fun ls hl => ?_)
  exact l_tail E hc lk_L_113 hn (kc := kc) (ans := (mLiftGet M nl 18 (xs (4 * j + 1)))) o1 hk10 hans hA2 hPD2 hPM hao2 hd9 hRR2 hS hl hj (by omega) (by omega) 1161 (by decide) dL_law_1161 dL_law_1162 dL_law_1165 dL_law_1167 dL_law_1172 dL_law_1174 dL_law_1177 dL_law_1178 dL_law_1179 dL_law_1180 dL_law_1182 dL_law_1183 dL_law_1184 dL_law_1189
set_option maxHeartbeats 4000000 in
set_option maxRecDepth 100000 in
theorem law_17 (E : EN p s m c cL_law 9 args RL g (F0k s.heap.size)) (hl9 : l.stackTraces = false) (hc : LCn s.heap.size om ao d9 ad) (hX : va_X bs L xs s s.heap) (hbl : bs < s.heap.size) (hjL : 4 * j + 4 ≤ L) (hL : L ≤ 2048) (hn : LAt p l e s m args below meth c Q g bs x om ao d9 ad 28 (j + 1)) : LAt p l e s m args below meth c Q g bs x om ao d9 ad 1192 j := by
  intro A nb nl nr ne pr t M f f2 H locs ls hA hPD hPM hao hd9 hRR hS hl
  have hx := E.1
  have hb := E.2.1
  have hj : j < 512 := by omega
  have hN := hRR.2.1
  have h8 := hRR.b8
  have hl : lv_has ls 9 (LBs j bs x om ao d9) := hl

  subst hA
  refine lv_aload_n hx hb dL_law_1192 rfl (lv_at hl 2 rfl) ?_
  refine l_arg hx hb hX hbl hS hl 1 0 rfl rfl (i := 1) rfl (by omega) hL dL_law_1193 dL_law_1194 dL_law_1196 dL_law_1197 dL_law_1198 ?_
  refine lv_aload_n hx hb dL_law_1199 rfl (lv_at hl 4 rfl) ?_
  refine l_wrap E hS (w_isUp l g (FBk s.heap.size om ad d9) A nb nl nr ne pr t hl9 ao (by exact FB_ao hc) (xs (4 * j + 1))) okw_isUp lk_L_168 hPD hao hd9 hPM rfl hl ⟨rfl, rfl⟩ rfl ⟨room_cj (k := 4) hj (by omega), room_sj (k := 24) hj (by omega)⟩ dL_law_1200 rfl (fun v H locs hv hS hPM hd9 => ?_)
  obtain ⟨rfl, hok, hbad⟩ := hv
  obtain ⟨o1, o2, o3⟩ := op_isUp hRR (xs (4 * j + 1))
  have hmid : ∃ (A2 : Nat → Nat → Nat) (nb2 nl2 nr2 ne2 : Nat) (pr2 : List Nat) (t2 : TT) (f9 : Nat → Int64), A2 0 0 = A 0 0 ∧ PD g (fW (FBk s.heap.size om ad d9) ao) A2 nb2 nl2 nr2 ne2 pr2 t2 H ∧ va_at g.1 vwCl (aL g ao f9) H ∧ RR nb2 nl2 nr2 ne2 pr2 t2 (mNoLift M nl (xs (4 * j + 1))) ∧ ((if dcN (xs (4 * j + 1)) nl = 0 then 0 else 1) = 0 → f9 0 = (if (mIsUp M nl (xs (4 * j + 1))) = 0 then 0 else 1 : Int64)) := by
    by_cases hk : (if dcN (xs (4 * j + 1)) nl = 0 then 0 else 1) = 0
    · obtain ⟨h1, f9, h2, h3⟩ := hok hk
      obtain ⟨o4, o5⟩ := o2 hk
      refine ⟨A, nb, nl, nr, ne, pr, t, f9, rfl, h1, h3, o5, fun _ => ?_⟩
      rw [h2, ← o4]
      by_cases z : t 21 ((xs (4 * j + 1))).toNatClampNeg = 0
      · rw [if_pos z, if_pos z]; rfl
      · rw [if_neg z, if_neg z]; rfl
    · obtain ⟨h1, f9, h2⟩ := hbad hk
      exact ⟨A, _, _, _, _, _, _, f9, rfl, h1, h2, o3 hk, fun z => absurd z hk⟩
  obtain ⟨A2, nb2, nl2, nr2, ne2, pr2, t2, f9, hA2, hPD2, hao2, hRR2, hans⟩ := hmid
  have hk10 : (if dcN (xs (4 * j + 1)) nl = 0 then 0 else 1) < 10 := by (repeat' split) <;> decide
  obtain ⟨kc, hkc⟩ : ∃ kc, kc = (if dcN (xs (4 * j + 1)) nl = 0 then 0 else 1) := ⟨_, rfl⟩
  refine lv_istore (lv' := (6, .int (nI (if dcN (xs (4 * j + 1)) nl = 0 then 0 else 1))) :: LBs j bs (A 0 0) om ao d9) hx hb dL_law_1203 hl (by decide) rfl (fun ls hl => ?_)
  rw [← hkc] at hl o1 hans hk10
  refine lv_aload_n hx hb dL_law_1205 rfl (lv_at hl 4 rfl) ?_
  refine l_arg hx hb hX hbl hS hl 2 1 rfl rfl (i := 1) rfl (by omega) hL dL_law_1206 dL_law_1207 dL_law_1209 dL_law_1210 dL_law_1211 ?_
  refine l_model E hc hS (c_X5_isUp l g (FMd om ad) om ad M nl (xs (4 * j + 1)) hN.2.2.1 h8.2.1) ok_X5_isUp lk_L_170 rfl hPM rfl hl ⟨rfl, rfl⟩ rfl ⟨room_cj (k := 4) hj (by omega), room_sj (k := 24) hj (by omega)⟩ dL_law_1212 rfl hPD2 hao2 hd9 (fun v H locs hv hS hPD2 hao2 hd9 => ?_)
  obtain ⟨rfl, hPM⟩ := hv
  refine lv_istore (lv' := (7, .int (mIsUp M nl (xs (4 * j + 1)))) :: (6, .int (nI kc)) :: LBs j bs (A 0 0) om ao d9) hx hb dL_law_1215 hl (by decide) rfl (fun ls hl => ?_)
  exact l_tailB E hc lk_L_113 hn (kc := kc) (ans := (mIsUp M nl (xs (4 * j + 1)))) o1 hk10 hans hA2 hPD2 hPM hao2 hd9 hRR2 hS hl hj (by omega) (by omega) 1217 (by decide) dL_law_1217 dL_law_1218 dL_law_1221 dL_law_1223 dL_law_1228 dL_law_1230 dL_law_1233 dL_law_1234 dL_law_1235 dL_law_1236 dL_law_1238 dL_law_1241 dL_law_1242 dL_law_1245 dL_law_1246 dL_law_1247 dL_law_1252
set_option maxHeartbeats 4000000 in
set_option maxRecDepth 100000 in
theorem law_18 (E : EN p s m c cL_law 9 args RL g (F0k s.heap.size)) (hl9 : l.stackTraces = false) (hc : LCn s.heap.size om ao d9 ad) (hX : va_X bs L xs s s.heap) (hbl : bs < s.heap.size) (hjL : 4 * j + 4 ≤ L) (hL : L ≤ 2048) (hn : LAt p l e s m args below meth c Q g bs x om ao d9 ad 28 (j + 1)) : LAt p l e s m args below meth c Q g bs x om ao d9 ad 1255 j := by
  intro A nb nl nr ne pr t M f f2 H locs ls hA hPD hPM hao hd9 hRR hS hl
  have hx := E.1
  have hb := E.2.1
  have hj : j < 512 := by omega
  have hN := hRR.2.1
  have h8 := hRR.b8
  have hl : lv_has ls 9 (LBs j bs x om ao d9) := hl

  subst hA
  refine lv_aload_n hx hb dL_law_1255 rfl (lv_at hl 2 rfl) ?_
  refine l_arg hx hb hX hbl hS hl 1 0 rfl rfl (i := 1) rfl (by omega) hL dL_law_1256 dL_law_1257 dL_law_1259 dL_law_1260 dL_law_1261 ?_
  refine lv_aload_n hx hb dL_law_1262 rfl (lv_at hl 4 rfl) ?_
  refine l_wrap E hS (w_aboard l g (FBk s.heap.size om ad d9) A nb nl nr ne pr t hl9 ao (by exact FB_ao hc) (xs (4 * j + 1))) okw_aboard lk_L_171 hPD hao hd9 hPM rfl hl ⟨rfl, rfl⟩ rfl ⟨room_cj (k := 4) hj (by omega), room_sj (k := 24) hj (by omega)⟩ dL_law_1263 rfl (fun v H locs hv hS hPM hd9 => ?_)
  obtain ⟨rfl, hok, hbad⟩ := hv
  obtain ⟨o1, o2, o3⟩ := op_aboard hRR (xs (4 * j + 1))
  have hmid : ∃ (A2 : Nat → Nat → Nat) (nb2 nl2 nr2 ne2 : Nat) (pr2 : List Nat) (t2 : TT) (f9 : Nat → Int64), A2 0 0 = A 0 0 ∧ PD g (fW (FBk s.heap.size om ad d9) ao) A2 nb2 nl2 nr2 ne2 pr2 t2 H ∧ va_at g.1 vwCl (aL g ao f9) H ∧ RR nb2 nl2 nr2 ne2 pr2 t2 (mNoLift M nl (xs (4 * j + 1))) ∧ ((if dcN (xs (4 * j + 1)) nl = 0 then 0 else 1) = 0 → f9 0 = ((mAboard M nr nl (xs (4 * j + 1)))).toInt64) := by
    by_cases hk : (if dcN (xs (4 * j + 1)) nl = 0 then 0 else 1) = 0
    · obtain ⟨h1, f9, h2, h3⟩ := hok hk
      obtain ⟨o4, o5⟩ := o2 hk
      exact ⟨A, _, _, _, _, _, _, f9, rfl, h1, h3, o5, fun _ => by rw [h2, o4]⟩
    · obtain ⟨h1, f9, h2⟩ := hbad hk
      exact ⟨A, _, _, _, _, _, _, f9, rfl, h1, h2, o3 hk, fun z => absurd z hk⟩
  obtain ⟨A2, nb2, nl2, nr2, ne2, pr2, t2, f9, hA2, hPD2, hao2, hRR2, hans⟩ := hmid
  have hk10 : (if dcN (xs (4 * j + 1)) nl = 0 then 0 else 1) < 10 := by (repeat' split) <;> decide
  obtain ⟨kc, hkc⟩ : ∃ kc, kc = (if dcN (xs (4 * j + 1)) nl = 0 then 0 else 1) := ⟨_, rfl⟩
  refine lv_istore (lv' := (6, .int (nI (if dcN (xs (4 * j + 1)) nl = 0 then 0 else 1))) :: LBs j bs (A 0 0) om ao d9) hx hb dL_law_1266 hl (by decide) rfl (fun ls hl => ?_)
  rw [← hkc] at hl o1 hans hk10
  refine lv_aload_n hx hb dL_law_1268 rfl (lv_at hl 4 rfl) ?_
  refine l_arg hx hb hX hbl hS hl 2 1 rfl rfl (i := 1) rfl (by omega) hL dL_law_1269 dL_law_1270 dL_law_1272 dL_law_1273 dL_law_1274 ?_
  refine l_model E hc hS (c_X5_aboard l g (FMd om ad) om ad M nr nl (xs (4 * j + 1)) hN.2.2.1 h8.2.1 hN.2.1 h8.2.2) ok_X5_aboard lk_L_173 rfl hPM rfl hl ⟨rfl, rfl⟩ rfl ⟨room_cj (k := 4) hj (by omega), room_sj (k := 24) hj (by omega)⟩ dL_law_1275 rfl hPD2 hao2 hd9 (fun v H locs hv hS hPD2 hao2 hd9 => ?_)
  obtain ⟨rfl, hPM⟩ := hv
  refine lv_istore (lv' := (7, .int (mAboard M nr nl (xs (4 * j + 1)))) :: (6, .int (nI kc)) :: LBs j bs (A 0 0) om ao d9) hx hb dL_law_1278 hl (by decide) rfl (fun ls hl => ?_)
  exact l_tail E hc lk_L_113 hn (kc := kc) (ans := (mAboard M nr nl (xs (4 * j + 1)))) o1 hk10 hans hA2 hPD2 hPM hao2 hd9 hRR2 hS hl hj (by omega) (by omega) 1280 (by decide) dL_law_1280 dL_law_1281 dL_law_1284 dL_law_1286 dL_law_1291 dL_law_1293 dL_law_1296 dL_law_1297 dL_law_1298 dL_law_1299 dL_law_1301 dL_law_1302 dL_law_1303 dL_law_1308
set_option maxHeartbeats 4000000 in
set_option maxRecDepth 100000 in
theorem law_19 (E : EN p s m c cL_law 9 args RL g (F0k s.heap.size)) (hl9 : l.stackTraces = false) (hc : LCn s.heap.size om ao d9 ad) (hX : va_X bs L xs s s.heap) (hbl : bs < s.heap.size) (hjL : 4 * j + 4 ≤ L) (hL : L ≤ 2048) (hn : LAt p l e s m args below meth c Q g bs x om ao d9 ad 28 (j + 1)) : LAt p l e s m args below meth c Q g bs x om ao d9 ad 1311 j := by
  intro A nb nl nr ne pr t M f f2 H locs ls hA hPD hPM hao hd9 hRR hS hl
  have hx := E.1
  have hb := E.2.1
  have hj : j < 512 := by omega
  have hN := hRR.2.1
  have h8 := hRR.b8
  have hl : lv_has ls 9 (LBs j bs x om ao d9) := hl

  subst hA
  refine lv_aload_n hx hb dL_law_1311 rfl (lv_at hl 2 rfl) ?_
  refine l_arg hx hb hX hbl hS hl 1 0 rfl rfl (i := 1) rfl (by omega) hL dL_law_1312 dL_law_1313 dL_law_1315 dL_law_1316 dL_law_1317 ?_
  refine l_arg hx hb hX hbl hS hl 1 0 rfl rfl (i := 2) rfl (by omega) hL dL_law_1318 dL_law_1319 dL_law_1321 dL_law_1322 dL_law_1323 ?_
  refine lv_aload_n hx hb dL_law_1324 rfl (lv_at hl 4 rfl) ?_
  refine l_wrap E hS (w_score l g (FBk s.heap.size om ad d9) A nb nl nr ne pr t hl9 ao (by exact FB_ao hc) (xs (4 * j + 1)) (xs (4 * j + 2))) okw_score lk_L_174 hPD hao hd9 hPM rfl hl ⟨rfl, rfl⟩ rfl ⟨room_cj (k := 4) hj (by omega), room_sj (k := 24) hj (by omega)⟩ dL_law_1325 rfl (fun v H locs hv hS hPM hd9 => ?_)
  obtain ⟨rfl, hok, hbad⟩ := hv
  obtain ⟨o1, o2, o3⟩ := op_score hRR (xs (4 * j + 1)) (xs (4 * j + 2))
  have hmid : ∃ (A2 : Nat → Nat → Nat) (nb2 nl2 nr2 ne2 : Nat) (pr2 : List Nat) (t2 : TT) (f9 : Nat → Int64), A2 0 0 = A 0 0 ∧ PD g (fW (FBk s.heap.size om ad d9) ao) A2 nb2 nl2 nr2 ne2 pr2 t2 H ∧ va_at g.1 vwCl (aL g ao f9) H ∧ RR nb2 nl2 nr2 ne2 pr2 t2 (mScoreA M nr nl (xs (4 * j + 1)) (xs (4 * j + 2))).2 ∧ ((if dcN (xs (4 * j + 1)) nl = 0 then (if dcF (xs (4 * j + 2)) = 0 then 0 else 1) else 1) = 0 → f9 0 = ((mScoreA M nr nl (xs (4 * j + 1)) (xs (4 * j + 2))).1).toInt64) := by
    by_cases hk : (if dcN (xs (4 * j + 1)) nl = 0 then (if dcF (xs (4 * j + 2)) = 0 then 0 else 1) else 1) = 0
    · obtain ⟨h1, f9, h2, h3⟩ := hok hk
      obtain ⟨o4, o5⟩ := o2 hk
      exact ⟨A, _, _, _, _, _, _, f9, rfl, h1, h3, o5, fun _ => by rw [h2, o4]⟩
    · obtain ⟨h1, f9, h2⟩ := hbad hk
      exact ⟨A, _, _, _, _, _, _, f9, rfl, h1, h2, o3 hk, fun z => absurd z hk⟩
  obtain ⟨A2, nb2, nl2, nr2, ne2, pr2, t2, f9, hA2, hPD2, hao2, hRR2, hans⟩ := hmid
  have hk10 : (if dcN (xs (4 * j + 1)) nl = 0 then (if dcF (xs (4 * j + 2)) = 0 then 0 else 1) else 1) < 10 := by (repeat' split) <;> decide
  obtain ⟨kc, hkc⟩ : ∃ kc, kc = (if dcN (xs (4 * j + 1)) nl = 0 then (if dcF (xs (4 * j + 2)) = 0 then 0 else 1) else 1) := ⟨_, rfl⟩
  refine lv_istore (lv' := (6, .int (nI (if dcN (xs (4 * j + 1)) nl = 0 then (if dcF (xs (4 * j + 2)) = 0 then 0 else 1) else 1))) :: LBs j bs (A 0 0) om ao d9) hx hb dL_law_1328 hl (by decide) rfl (fun ls hl => ?_)
  rw [← hkc] at hl o1 hans hk10
  refine lv_aload_n hx hb dL_law_1330 rfl (lv_at hl 4 rfl) ?_
  refine l_arg hx hb hX hbl hS hl 2 1 rfl rfl (i := 1) rfl (by omega) hL dL_law_1331 dL_law_1332 dL_law_1334 dL_law_1335 dL_law_1336 ?_
  refine l_arg hx hb hX hbl hS hl 2 1 rfl rfl (i := 2) rfl (by omega) hL dL_law_1337 dL_law_1338 dL_law_1340 dL_law_1341 dL_law_1342 ?_
  refine l_model E hc hS (c_X5_score l g (FMd om ad) om ad M nr nl (xs (4 * j + 1)) (xs (4 * j + 2)) hN.2.1 h8.2.2 hN.2.2.1 h8.2.1) ok_X5_score lk_L_176 rfl hPM rfl hl ⟨rfl, rfl⟩ rfl ⟨room_cj (k := 4) hj (by omega), room_sj (k := 24) hj (by omega)⟩ dL_law_1343 rfl hPD2 hao2 hd9 (fun v H locs hv hS hPD2 hao2 hd9 => ?_)
  obtain ⟨rfl, hPM⟩ := hv
  refine lv_istore (lv' := (7, .int (mScoreA M nr nl (xs (4 * j + 1)) (xs (4 * j + 2))).1) :: (6, .int (nI kc)) :: LBs j bs (A 0 0) om ao d9) hx hb dL_law_1346 hl (by decide) rfl (fun ls hl => ?_)
  exact l_tail E hc lk_L_113 hn (kc := kc) (ans := (mScoreA M nr nl (xs (4 * j + 1)) (xs (4 * j + 2))).1) o1 hk10 hans hA2 hPD2 hPM hao2 hd9 hRR2 hS hl hj (by omega) (by omega) 1348 (by decide) dL_law_1348 dL_law_1349 dL_law_1352 dL_law_1354 dL_law_1359 dL_law_1361 dL_law_1364 dL_law_1365 dL_law_1366 dL_law_1367 dL_law_1369 dL_law_1370 dL_law_1371 dL_law_1376
set_option maxHeartbeats 4000000 in
set_option maxRecDepth 100000 in
theorem law_20 (E : EN p s m c cL_law 9 args RL g (F0k s.heap.size)) (hl9 : l.stackTraces = false) (hc : LCn s.heap.size om ao d9 ad) (hX : va_X bs L xs s s.heap) (hbl : bs < s.heap.size) (hjL : 4 * j + 4 ≤ L) (hL : L ≤ 2048) (hn : LAt p l e s m args below meth c Q g bs x om ao d9 ad 28 (j + 1)) : LAt p l e s m args below meth c Q g bs x om ao d9 ad 1379 j := by
  intro A nb nl nr ne pr t M f f2 H locs ls hA hPD hPM hao hd9 hRR hS hl
  have hx := E.1
  have hb := E.2.1
  have hj : j < 512 := by omega
  have hN := hRR.2.1
  have h8 := hRR.b8
  have hl : lv_has ls 9 (LBs j bs x om ao d9) := hl

  have hph : ne + dPh (t 13) pr ≤ 95 := by have := hRR.nePh; omega
  obtain ⟨s2, hs2⟩ : ∃ s2, s2 = dTicks nl (t, pr, ne) (xs (4 * j + 1)).toNatClampNeg := ⟨_, rfl⟩
  have hs90 : s2.2.2 ≤ 90 := by have h1 := (dTicks_ok (nl := nl) (s := (t, pr, ne)) (xs (4 * j + 1)).toNatClampNeg).2.1; rw [← hs2] at h1; have h2 : s2.2.2 + dPh (s2.1 13) s2.2.1 ≤ ne + dPh (t 13) pr := h1; have := hRR.nePh; omega
  have hBd : ∀ r, r < nr → ∃ q, q < 8 ∧ M 7 r = nI q := fun r hr => by obtain ⟨b, b1, b2⟩ := (hRR.2.2.2.2.1 r hr).2.1; rw [hRR.1.r 7] at b2; exact ⟨b, by omega, b2⟩
  have hWh : mWh M nl := fun q hq => by obtain ⟨w, w1, w2⟩ := (hRR.2.2.2.2.2.1 q hq).1; rw [hRR.1.r 18] at w2; exact ⟨w, w1, w2⟩
  subst hA
  refine lv_aload_n hx hb dL_law_1379 rfl (lv_at hl 2 rfl) ?_
  refine l_arg hx hb hX hbl hS hl 1 0 rfl rfl (i := 1) rfl (by omega) hL dL_law_1380 dL_law_1381 dL_law_1383 dL_law_1384 dL_law_1385 ?_
  refine lv_aload_n hx hb dL_law_1386 rfl (lv_at hl 4 rfl) ?_
  refine l_wrap E hS (w_pass l g (FBk s.heap.size om ad d9) A nb nl nr ne pr t hl9 ao (by exact FB_ao hc) (xs (4 * j + 1)) s2 hs2 hph) okw_pass lk_L_177 hPD hao hd9 hPM rfl hl ⟨rfl, rfl⟩ rfl ⟨room_cj (k := 2 * (s2.2.2 - ne) + 1) hj (by omega), room_sj (k := 153 * (s2.2.2 - ne) + 6) hj (by omega)⟩ dL_law_1387 rfl (fun v H locs hv hS hPM hd9 => ?_)
  obtain ⟨rfl, hok, hbad⟩ := hv
  obtain ⟨o1, o2, o3⟩ := op_pass hRR (xs (4 * j + 1)) hs2
  have hmid : ∃ (A2 : Nat → Nat → Nat) (nb2 nl2 nr2 ne2 : Nat) (pr2 : List Nat) (t2 : TT) (f9 : Nat → Int64), A2 0 0 = A 0 0 ∧ PD g (fW (FBk s.heap.size om ad d9) ao) A2 nb2 nl2 nr2 ne2 pr2 t2 H ∧ va_at g.1 vwCl (aL g ao f9) H ∧ RR nb2 nl2 nr2 ne2 pr2 t2 (mPass M nr nl (xs (4 * j + 1))).2 ∧ ((if (xs (4 * j + 1)) < 1 then 1 else if (xs (4 * j + 1)) ≤ 100 then 0 else 1) = 0 → f9 0 = ((mPass M nr nl (xs (4 * j + 1))).1).toInt64) := by
    by_cases hk : (if (xs (4 * j + 1)) < 1 then 1 else if (xs (4 * j + 1)) ≤ 100 then 0 else 1) = 0
    · obtain ⟨h1, f9, h2, h3⟩ := hok hk
      obtain ⟨o4, o5⟩ := o2 hk
      exact ⟨A, _, _, _, _, _, _, f9, rfl, h1, h3, o5, fun _ => by rw [h2, o4]⟩
    · obtain ⟨h1, f9, h2⟩ := hbad hk
      exact ⟨A, _, _, _, _, _, _, f9, rfl, h1, h2, o3 hk, fun z => absurd z hk⟩
  obtain ⟨A2, nb2, nl2, nr2, ne2, pr2, t2, f9, hA2, hPD2, hao2, hRR2, hans⟩ := hmid
  have hk10 : (if (xs (4 * j + 1)) < 1 then 1 else if (xs (4 * j + 1)) ≤ 100 then 0 else 1) < 10 := by (repeat' split) <;> decide
  obtain ⟨kc, hkc⟩ : ∃ kc, kc = (if (xs (4 * j + 1)) < 1 then 1 else if (xs (4 * j + 1)) ≤ 100 then 0 else 1) := ⟨_, rfl⟩
  refine lv_istore (lv' := (6, .int (nI (if (xs (4 * j + 1)) < 1 then 1 else if (xs (4 * j + 1)) ≤ 100 then 0 else 1))) :: LBs j bs (A 0 0) om ao d9) hx hb dL_law_1390 hl (by decide) rfl (fun ls hl => ?_)
  rw [← hkc] at hl o1 hans hk10
  refine lv_aload_n hx hb dL_law_1392 rfl (lv_at hl 4 rfl) ?_
  refine l_arg hx hb hX hbl hS hl 2 1 rfl rfl (i := 1) rfl (by omega) hL dL_law_1393 dL_law_1394 dL_law_1396 dL_law_1397 dL_law_1398 ?_
  refine l_model E hc hS (c_X5_pass l g (FMd om ad) om ad M nr nl (xs (4 * j + 1)) hN.2.1 h8.2.2 hN.2.2.1 h8.2.1 hBd hWh) ok_X5_pass lk_L_179 rfl hPM rfl hl ⟨rfl, rfl⟩ rfl ⟨room_cj (k := 2 * (s2.2.2 - ne) + 1) hj (by omega), room_sj (k := 153 * (s2.2.2 - ne) + 6) hj (by omega)⟩ dL_law_1399 rfl hPD2 hao2 hd9 (fun v H locs hv hS hPD2 hao2 hd9 => ?_)
  obtain ⟨rfl, hPM⟩ := hv
  refine lv_istore (lv' := (7, .int (mPass M nr nl (xs (4 * j + 1))).1) :: (6, .int (nI kc)) :: LBs j bs (A 0 0) om ao d9) hx hb dL_law_1402 hl (by decide) rfl (fun ls hl => ?_)
  exact l_tail E hc lk_L_113 hn (kc := kc) (ans := (mPass M nr nl (xs (4 * j + 1))).1) o1 hk10 hans hA2 hPD2 hPM hao2 hd9 hRR2 hS hl hj (by omega) (by omega) 1404 (by decide) dL_law_1404 dL_law_1405 dL_law_1408 dL_law_1410 dL_law_1415 dL_law_1417 dL_law_1420 dL_law_1421 dL_law_1422 dL_law_1423 dL_law_1425 dL_law_1426 dL_law_1427 dL_law_1432
set_option maxHeartbeats 4000000 in
set_option maxRecDepth 100000 in
theorem law_21 (E : EN p s m c cL_law 9 args RL g (F0k s.heap.size)) (hl9 : l.stackTraces = false) (hc : LCn s.heap.size om ao d9 ad) (hX : va_X bs L xs s s.heap) (hbl : bs < s.heap.size) (hjL : 4 * j + 4 ≤ L) (hL : L ≤ 2048) (hn : LAt p l e s m args below meth c Q g bs x om ao d9 ad 28 (j + 1)) : LAt p l e s m args below meth c Q g bs x om ao d9 ad 1435 j := by
  intro A nb nl nr ne pr t M f f2 H locs ls hA hPD hPM hao hd9 hRR hS hl
  have hx := E.1
  have hb := E.2.1
  have hj : j < 512 := by omega
  have hN := hRR.2.1
  have h8 := hRR.b8
  have hl : lv_has ls 9 (LBs j bs x om ao d9) := hl

  subst hA
  refine lv_aload_n hx hb dL_law_1435 rfl (lv_at hl 2 rfl) ?_
  refine l_desk E hS (c_X4_time l g (fW (FBk s.heap.size om ad d9) ao) A nb nl nr ne pr t) ok_X4_time lk_L_180 rfl hPD hao hd9 hPM hl ⟨rfl, rfl⟩ rfl ⟨room_cj (k := 0) hj (by decide), room_sj (k := 0) hj (by decide)⟩ dL_law_1436 (fun v H locs hv hS hPM hao hd9 => ?_)
  obtain ⟨rfl, hPD⟩ := hv
  refine lv_aload_n hx hb dL_law_1439 rfl (lv_at hl 3 rfl) ?_
  refine l_model E hc hS (c_X5_time l g (FMd om ad) om ad M) ok_X5_time lk_L_183 rfl hPM rfl hl ⟨rfl, rfl⟩ rfl ⟨room_cj (k := 0) hj (by decide), room_sj (k := 0) hj (by decide)⟩ dL_law_1440 rfl hPD hao hd9 (fun v H locs hv hS hPD hao hd9 => ?_)
  obtain ⟨rfl, hPM⟩ := hv
  exact lv_icmp_eq (tgt := 1718) hx hb dL_law_1443 (by decide) (fun _ => l_end hx hb hn rfl hPD hPM hao hd9 (hRR.m0 0) hS hl (by omega) (by omega)) (fun h => absurd (hRR.1.2.1) h)
set_option maxHeartbeats 4000000 in
set_option maxRecDepth 100000 in
theorem law_22 (E : EN p s m c cL_law 9 args RL g (F0k s.heap.size)) (hl9 : l.stackTraces = false) (hc : LCn s.heap.size om ao d9 ad) (hX : va_X bs L xs s s.heap) (hbl : bs < s.heap.size) (hjL : 4 * j + 4 ≤ L) (hL : L ≤ 2048) (hn : LAt p l e s m args below meth c Q g bs x om ao d9 ad 28 (j + 1)) : LAt p l e s m args below meth c Q g bs x om ao d9 ad 1448 j := by
  intro A nb nl nr ne pr t M f f2 H locs ls hA hPD hPM hao hd9 hRR hS hl
  have hx := E.1
  have hb := E.2.1
  have hj : j < 512 := by omega
  have hN := hRR.2.1
  have h8 := hRR.b8
  have hl : lv_has ls 9 (LBs j bs x om ao d9) := hl

  have hph : ne + dPh (t 13) pr ≤ 95 := by have := hRR.nePh; omega
  obtain ⟨s2, hs2⟩ : ∃ s2, s2 = dSe pr.length (tu t 60 0 (xs (4 * j + 1)), pr, ne) := ⟨_, rfl⟩
  have hs90 : s2.2.2 ≤ 90 := by have h1 := (dSe_ok pr.length (tu t 60 0 (xs (4 * j + 1)), pr, ne) (Nat.le_refl _)).2.1; rw [← hs2] at h1; have h2 : s2.2.2 + dPh (s2.1 13) s2.2.1 ≤ ne + dPh (t 13) pr := h1; have := hRR.nePh; omega
  subst hA
  refine lv_aload_n hx hb dL_law_1448 rfl (lv_at hl 2 rfl) ?_
  refine l_arg hx hb hX hbl hS hl 1 0 rfl rfl (i := 1) rfl (by omega) hL dL_law_1449 dL_law_1450 dL_law_1452 dL_law_1453 dL_law_1454 ?_
  refine lv_aload_n hx hb dL_law_1455 rfl (lv_at hl 4 rfl) ?_
  refine l_wrap E hS (w_alarm l g (FBk s.heap.size om ad d9) A nb nl nr ne pr t hl9 ao (by exact FB_ao hc) (xs (4 * j + 1)) s2 hs2 hph) okw_alarm lk_L_184 hPD hao hd9 hPM rfl hl ⟨rfl, rfl⟩ rfl ⟨room_cj (k := 2 * (s2.2.2 - ne) + 2) hj (by omega), room_sj (k := 153 * (s2.2.2 - ne) + 12) hj (by omega)⟩ dL_law_1456 rfl (fun v H locs hv hS hPM hd9 => ?_)
  obtain ⟨rfl, hok, hbad⟩ := hv
  obtain ⟨o1, o2, o3⟩ := op_alarm hRR (xs (4 * j + 1)) hs2
  have hmid : ∃ (A2 : Nat → Nat → Nat) (nb2 nl2 nr2 ne2 : Nat) (pr2 : List Nat) (t2 : TT) (f9 : Nat → Int64), A2 0 0 = A 0 0 ∧ PD g (fW (FBk s.heap.size om ad d9) ao) A2 nb2 nl2 nr2 ne2 pr2 t2 H ∧ va_at g.1 vwCl (aL g ao f9) H ∧ RR nb2 nl2 nr2 ne2 pr2 t2 (mAlarm M nr (xs (4 * j + 1))).2 ∧ ((if dcF (xs (4 * j + 1)) = 0 then (if t 60 0 = -1 then (if nI pr.length = 0 then 2 else 0) else 2) else 1) = 0 → f9 0 = ((mAlarm M nr (xs (4 * j + 1))).1).toInt64) := by
    by_cases hk : (if dcF (xs (4 * j + 1)) = 0 then (if t 60 0 = -1 then (if nI pr.length = 0 then 2 else 0) else 2) else 1) = 0
    · obtain ⟨h1, f9, h2, h3⟩ := hok hk
      obtain ⟨o4, o5⟩ := o2 hk
      exact ⟨A, _, _, _, _, _, _, f9, rfl, h1, h3, o5, fun _ => by rw [h2, o4]⟩
    · obtain ⟨h1, f9, h2⟩ := hbad hk
      exact ⟨A, _, _, _, _, _, _, f9, rfl, h1, h2, o3 hk, fun z => absurd z hk⟩
  obtain ⟨A2, nb2, nl2, nr2, ne2, pr2, t2, f9, hA2, hPD2, hao2, hRR2, hans⟩ := hmid
  have hk10 : (if dcF (xs (4 * j + 1)) = 0 then (if t 60 0 = -1 then (if nI pr.length = 0 then 2 else 0) else 2) else 1) < 10 := by (repeat' split) <;> decide
  obtain ⟨kc, hkc⟩ : ∃ kc, kc = (if dcF (xs (4 * j + 1)) = 0 then (if t 60 0 = -1 then (if nI pr.length = 0 then 2 else 0) else 2) else 1) := ⟨_, rfl⟩
  refine lv_istore (lv' := (6, .int (nI (if dcF (xs (4 * j + 1)) = 0 then (if t 60 0 = -1 then (if nI pr.length = 0 then 2 else 0) else 2) else 1))) :: LBs j bs (A 0 0) om ao d9) hx hb dL_law_1459 hl (by decide) rfl (fun ls hl => ?_)
  rw [← hkc] at hl o1 hans hk10
  refine lv_aload_n hx hb dL_law_1461 rfl (lv_at hl 4 rfl) ?_
  refine l_arg hx hb hX hbl hS hl 2 1 rfl rfl (i := 1) rfl (by omega) hL dL_law_1462 dL_law_1463 dL_law_1465 dL_law_1466 dL_law_1467 ?_
  refine l_model E hc hS (c_X5_alarm l g (FMd om ad) om ad M nr (xs (4 * j + 1)) hN.2.1 h8.2.2) ok_X5_alarm lk_L_186 rfl hPM rfl hl ⟨rfl, rfl⟩ rfl ⟨room_cj (k := 2 * (s2.2.2 - ne) + 2) hj (by omega), room_sj (k := 153 * (s2.2.2 - ne) + 12) hj (by omega)⟩ dL_law_1468 rfl hPD2 hao2 hd9 (fun v H locs hv hS hPD2 hao2 hd9 => ?_)
  obtain ⟨rfl, hPM⟩ := hv
  refine lv_istore (lv' := (7, .int (mAlarm M nr (xs (4 * j + 1))).1) :: (6, .int (nI kc)) :: LBs j bs (A 0 0) om ao d9) hx hb dL_law_1471 hl (by decide) rfl (fun ls hl => ?_)
  exact l_tail E hc lk_L_113 hn (kc := kc) (ans := (mAlarm M nr (xs (4 * j + 1))).1) o1 hk10 hans hA2 hPD2 hPM hao2 hd9 hRR2 hS hl hj (by omega) (by omega) 1473 (by decide) dL_law_1473 dL_law_1474 dL_law_1477 dL_law_1479 dL_law_1484 dL_law_1486 dL_law_1489 dL_law_1490 dL_law_1491 dL_law_1492 dL_law_1494 dL_law_1495 dL_law_1496 dL_law_1501
set_option maxHeartbeats 4000000 in
set_option maxRecDepth 100000 in
theorem law_23 (E : EN p s m c cL_law 9 args RL g (F0k s.heap.size)) (hl9 : l.stackTraces = false) (hc : LCn s.heap.size om ao d9 ad) (hX : va_X bs L xs s s.heap) (hbl : bs < s.heap.size) (hjL : 4 * j + 4 ≤ L) (hL : L ≤ 2048) (hn : LAt p l e s m args below meth c Q g bs x om ao d9 ad 28 (j + 1)) : LAt p l e s m args below meth c Q g bs x om ao d9 ad 1504 j := by
  intro A nb nl nr ne pr t M f f2 H locs ls hA hPD hPM hao hd9 hRR hS hl
  have hx := E.1
  have hb := E.2.1
  have hj : j < 512 := by omega
  have hN := hRR.2.1
  have h8 := hRR.b8
  have hl : lv_has ls 9 (LBs j bs x om ao d9) := hl

  subst hA
  refine lv_aload_n hx hb dL_law_1504 rfl (lv_at hl 2 rfl) ?_
  refine l_desk E hS (c_X4_isAlarm l g (fW (FBk s.heap.size om ad d9) ao) A nb nl nr ne pr t) ok_X4_isAlarm lk_L_187 rfl hPD hao hd9 hPM hl ⟨rfl, rfl⟩ rfl ⟨room_cj (k := 0) hj (by decide), room_sj (k := 0) hj (by decide)⟩ dL_law_1505 (fun v H locs hv hS hPM hao hd9 => ?_)
  obtain ⟨rfl, hPD⟩ := hv
  refine lv_aload_n hx hb dL_law_1508 rfl (lv_at hl 3 rfl) ?_
  refine l_model E hc hS (c_X5_isAlarm l g (FMd om ad) om ad M (by rcases hRR.2.2.2.2.2.2.2.1 with ⟨-, z⟩ | ⟨-, -, -, z, -⟩ <;> rw [z] <;> rfl)) ok_X5_isAlarm lk_L_191 rfl hPM rfl hl ⟨rfl, rfl⟩ rfl ⟨room_cj (k := 0) hj (by decide), room_sj (k := 0) hj (by decide)⟩ dL_law_1509 rfl hPD hao hd9 (fun v H locs hv hS hPD hao hd9 => ?_)
  obtain ⟨rfl, hPM⟩ := hv
  exact lv_icmp_eq (tgt := 1718) hx hb dL_law_1512 (by decide) (fun _ => l_end hx hb hn rfl hPD hPM hao hd9 (hRR.m0 0) hS hl (by omega) (by omega)) (fun h => absurd (op_isAlarm hRR) h)
set_option maxHeartbeats 4000000 in
set_option maxRecDepth 100000 in
theorem law_24 (E : EN p s m c cL_law 9 args RL g (F0k s.heap.size)) (hl9 : l.stackTraces = false) (hc : LCn s.heap.size om ao d9 ad) (hX : va_X bs L xs s s.heap) (hbl : bs < s.heap.size) (hjL : 4 * j + 4 ≤ L) (hL : L ≤ 2048) (hn : LAt p l e s m args below meth c Q g bs x om ao d9 ad 28 (j + 1)) : LAt p l e s m args below meth c Q g bs x om ao d9 ad 1517 j := by
  intro A nb nl nr ne pr t M f f2 H locs ls hA hPD hPM hao hd9 hRR hS hl
  have hx := E.1
  have hb := E.2.1
  have hj : j < 512 := by omega
  have hN := hRR.2.1
  have h8 := hRR.b8
  have hl : lv_has ls 9 (LBs j bs x om ao d9) := hl

  subst hA
  refine lv_aload_n hx hb dL_law_1517 rfl (lv_at hl 2 rfl) ?_
  refine lv_aload_n hx hb dL_law_1518 rfl (lv_at hl 4 rfl) ?_
  refine l_wrap E hS (w_turn l g (FBk s.heap.size om ad d9) A nb nl nr ne pr t hl9 ao (by exact FB_ao hc) ) okw_turn lk_L_192 hPD hao hd9 hPM rfl hl ⟨rfl, rfl⟩ rfl ⟨room_cj (k := 4) hj (by omega), room_sj (k := 24) hj (by omega)⟩ dL_law_1519 rfl (fun v H locs hv hS hPM hd9 => ?_)
  obtain ⟨rfl, hok, hbad⟩ := hv
  obtain ⟨o1, o2, o3⟩ := op_turn hRR
  have hmid : ∃ (A2 : Nat → Nat → Nat) (nb2 nl2 nr2 ne2 : Nat) (pr2 : List Nat) (t2 : TT) (f9 : Nat → Int64), A2 0 0 = A 0 0 ∧ PD g (fW (FBk s.heap.size om ad d9) ao) A2 nb2 nl2 nr2 ne2 pr2 t2 H ∧ va_at g.1 vwCl (aL g ao f9) H ∧ RR nb2 nl2 nr2 ne2 pr2 t2 (mTurn M nr).2 ∧ ((if dTurn t pr = -1 then 1 else 0) = 0 → f9 0 = ((mTurn M nr).1).toInt64) := by
    by_cases hk : (if dTurn t pr = -1 then 1 else 0) = 0
    · obtain ⟨h1, f9, h2, h3⟩ := hok hk
      obtain ⟨o4, o5⟩ := o2 hk
      exact ⟨A, _, _, _, _, _, _, f9, rfl, h1, h3, o5, fun _ => by rw [h2, o4]⟩
    · obtain ⟨h1, f9, h2⟩ := hbad hk
      exact ⟨A, _, _, _, _, _, _, f9, rfl, h1, h2, o3 hk, fun z => absurd z hk⟩
  obtain ⟨A2, nb2, nl2, nr2, ne2, pr2, t2, f9, hA2, hPD2, hao2, hRR2, hans⟩ := hmid
  have hk10 : (if dTurn t pr = -1 then 1 else 0) < 10 := by (repeat' split) <;> decide
  obtain ⟨kc, hkc⟩ : ∃ kc, kc = (if dTurn t pr = -1 then 1 else 0) := ⟨_, rfl⟩
  refine lv_istore (lv' := (6, .int (nI (if dTurn t pr = -1 then 1 else 0))) :: LBs j bs (A 0 0) om ao d9) hx hb dL_law_1522 hl (by decide) rfl (fun ls hl => ?_)
  rw [← hkc] at hl o1 hans hk10
  refine lv_aload_n hx hb dL_law_1524 rfl (lv_at hl 4 rfl) ?_
  refine l_model E hc hS (c_X5_turn l g (FMd om ad) om ad M nr hN.2.1 h8.2.2) ok_X5_turn lk_L_195 rfl hPM rfl hl ⟨rfl, rfl⟩ rfl ⟨room_cj (k := 4) hj (by omega), room_sj (k := 24) hj (by omega)⟩ dL_law_1525 rfl hPD2 hao2 hd9 (fun v H locs hv hS hPD2 hao2 hd9 => ?_)
  obtain ⟨rfl, hPM⟩ := hv
  refine lv_istore (lv' := (7, .int (mTurn M nr).1) :: (6, .int (nI kc)) :: LBs j bs (A 0 0) om ao d9) hx hb dL_law_1528 hl (by decide) rfl (fun ls hl => ?_)
  exact l_tail E hc lk_L_113 hn (kc := kc) (ans := (mTurn M nr).1) o1 hk10 hans hA2 hPD2 hPM hao2 hd9 hRR2 hS hl hj (by omega) (by omega) 1530 (by decide) dL_law_1530 dL_law_1531 dL_law_1534 dL_law_1536 dL_law_1541 dL_law_1543 dL_law_1546 dL_law_1547 dL_law_1548 dL_law_1549 dL_law_1551 dL_law_1552 dL_law_1553 dL_law_1558
set_option maxHeartbeats 4000000 in
set_option maxRecDepth 100000 in
theorem law_25 (E : EN p s m c cL_law 9 args RL g (F0k s.heap.size)) (hl9 : l.stackTraces = false) (hc : LCn s.heap.size om ao d9 ad) (hX : va_X bs L xs s s.heap) (hbl : bs < s.heap.size) (hjL : 4 * j + 4 ≤ L) (hL : L ≤ 2048) (hn : LAt p l e s m args below meth c Q g bs x om ao d9 ad 28 (j + 1)) : LAt p l e s m args below meth c Q g bs x om ao d9 ad 1561 j := by
  intro A nb nl nr ne pr t M f f2 H locs ls hA hPD hPM hao hd9 hRR hS hl
  have hx := E.1
  have hb := E.2.1
  have hj : j < 512 := by omega
  have hN := hRR.2.1
  have h8 := hRR.b8
  have hl : lv_has ls 9 (LBs j bs x om ao d9) := hl

  subst hA
  refine lv_aload_n hx hb dL_law_1561 rfl (lv_at hl 2 rfl) ?_
  refine l_desk E hS (c_X4_opened l g (fW (FBk s.heap.size om ad d9) ao) A nb nl nr ne pr t) ok_X4_opened lk_L_196 rfl hPD hao hd9 hPM hl ⟨rfl, rfl⟩ rfl ⟨room_cj (k := 0) hj (by decide), room_sj (k := 0) hj (by decide)⟩ dL_law_1562 (fun v H locs hv hS hPM hao hd9 => ?_)
  obtain ⟨rfl, hPD⟩ := hv
  refine lv_aload_n hx hb dL_law_1565 rfl (lv_at hl 3 rfl) ?_
  refine l_model E hc hS (c_X5_opened l g (FMd om ad) om ad M) ok_X5_opened lk_L_199 rfl hPM rfl hl ⟨rfl, rfl⟩ rfl ⟨room_cj (k := 0) hj (by decide), room_sj (k := 0) hj (by decide)⟩ dL_law_1566 rfl hPD hao hd9 (fun v H locs hv hS hPD hao hd9 => ?_)
  obtain ⟨rfl, hPM⟩ := hv
  exact lv_icmp_eq (tgt := 1718) hx hb dL_law_1569 (by decide) (fun _ => l_end hx hb hn rfl hPD hPM hao hd9 (hRR.m0 0) hS hl (by omega) (by omega)) (fun h => absurd (hRR.1.2.2.1) h)
set_option maxHeartbeats 4000000 in
set_option maxRecDepth 100000 in
theorem law_26 (E : EN p s m c cL_law 9 args RL g (F0k s.heap.size)) (hl9 : l.stackTraces = false) (hc : LCn s.heap.size om ao d9 ad) (hX : va_X bs L xs s s.heap) (hbl : bs < s.heap.size) (hjL : 4 * j + 4 ≤ L) (hL : L ≤ 2048) (hn : LAt p l e s m args below meth c Q g bs x om ao d9 ad 28 (j + 1)) : LAt p l e s m args below meth c Q g bs x om ao d9 ad 1574 j := by
  intro A nb nl nr ne pr t M f f2 H locs ls hA hPD hPM hao hd9 hRR hS hl
  have hx := E.1
  have hb := E.2.1
  have hj : j < 512 := by omega
  have hN := hRR.2.1
  have h8 := hRR.b8
  have hl : lv_has ls 9 (LBs j bs x om ao d9) := hl

  subst hA
  refine lv_aload_n hx hb dL_law_1574 rfl (lv_at hl 2 rfl) ?_
  refine l_desk E hS (c_X4_refused l g (fW (FBk s.heap.size om ad d9) ao) A nb nl nr ne pr t) ok_X4_refused lk_L_200 rfl hPD hao hd9 hPM hl ⟨rfl, rfl⟩ rfl ⟨room_cj (k := 0) hj (by decide), room_sj (k := 0) hj (by decide)⟩ dL_law_1575 (fun v H locs hv hS hPM hao hd9 => ?_)
  obtain ⟨rfl, hPD⟩ := hv
  refine lv_aload_n hx hb dL_law_1578 rfl (lv_at hl 3 rfl) ?_
  refine l_model E hc hS (c_X5_refused l g (FMd om ad) om ad M) ok_X5_refused lk_L_203 rfl hPM rfl hl ⟨rfl, rfl⟩ rfl ⟨room_cj (k := 0) hj (by decide), room_sj (k := 0) hj (by decide)⟩ dL_law_1579 rfl hPD hao hd9 (fun v H locs hv hS hPD hao hd9 => ?_)
  obtain ⟨rfl, hPM⟩ := hv
  exact lv_icmp_eq (tgt := 1718) hx hb dL_law_1582 (by decide) (fun _ => l_end hx hb hn rfl hPD hPM hao hd9 (hRR.m0 0) hS hl (by omega) (by omega)) (fun h => absurd (hRR.1.2.2.2) h)
end LC9
