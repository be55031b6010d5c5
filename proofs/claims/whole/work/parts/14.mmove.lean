set_option maxHeartbeats 4000000 in
set_option maxRecDepth 100000 in
theorem c_X5_opens (l : Launch) (g : cG) (F : Nat → Prop) (o : Nat) (ad : Nat → Nat) (M : TT) (nR lf w : Nat) (hR : M 14 0 = nI nR) (hR30 : nR ≤ 30) (hf3 : lf < 3) (hw : M 18 lf = nI w) (hw10 : w < 10) (hBd : ∀ r, r < nR → ∃ q, q < 8 ∧ M 7 r = nI q) : CT l yX5_opens cX5_opens 4 (some .boolean) 2 44 0 0 g F [.ref o, .int (nI lf)] (PM g F o ad M) (fun v9 H9 => v9 = some (.int ((mOpens M nR lf).2)) ∧ PM g F o ad ((mOpens M nR lf).1) H9) := by
  refine CT.of (by decide) rfl ?_
  intro p e s m args below meth c E hr hk hnm hP ls hl
  have hS : va_S (nF F) s.heap s.heap [] := va_S.rf
  have hx := E.1
  have hb := E.2.1
  have hE_ml := E.2.2.1
  have hown := E.2.2.2.1
  have hts := E.2.2.2.2.1
  have hG := E.2.2.2.2.2
  have hl : lv_has ls 4 [(0, .ref o), (1, .int (nI lf))] := hl
  refine lv_iconst (v := 0) hx hb dX5_opens_0 (by decide) ?_
  refine lv_istore_n (lv' := [(2, .int 0), (0, .ref o), (1, .int (nI lf))]) hx hb dX5_opens_1 rfl hl (by decide) rfl (fun ls hl => ?_)
  refine lv_iconst (v := 0) hx hb dX5_opens_2 (by decide) ?_
  refine lv_istore_n (lv' := [(3, .int 0), (2, .int 0), (0, .ref o), (1, .int (nI lf))]) hx hb dX5_opens_3 rfl hl (by decide) rfl (fun ls hl => ?_)
  have LA : ∀ (n9 i : Nat) (Mi : TT) (a9 : Int32), i ≤ nR → nR < i + n9 → (Mi = (mO1 M lf i).1) → (a9 = (mO1 M lf i).2) → (∀ k, mOk k = true → Mi k = M k) → (a9 = 0 ∨ a9 = 1) → ∀ (H : Heap) (locs : List Loc), va_S (nF F) s.heap H locs → PM g F o ad Mi H → ∀ (ls : Array Slot), lv_has ls 4 [(0, .ref o), (1, .int (nI lf)), (2, .int a9), (3, .int (nI i))] → W p l e { frames := 2, cells := 0, slots := 0, locals := 44 } s m args below meth c H locs 0 0 (MQ below (Qg F (fun v9 H9 => v9 = some (.int ((mOpens M nR lf).2)) ∧ PM g F o ad ((mOpens M nR lf).1) H9)) args s 0 0 (nF F)) (F0 m 4 ls []) := by
    intro n9
    induction n9 with
    | zero => intro i Mi a9 hi9 hn9; exact absurd hn9 (by omega)
    | succ n9 ihLA =>
      intro i Mi a9 hi_LA hn_LA hMi ha hq h01 H locs hS hP ls hl
      refine lv_iload_n hx hb dX5_opens_4 rfl (lv_at hl 3 rfl) ?_
      refine lv_aload_n hx hb dX5_opens_5 rfl (lv_at hl 0 rfl) ?_
      refine mg E hP 14 (v := (nI nR)) dX5_opens_6 ((congrFun (hq 14 rfl) _).trans hR) (kk := ?_)
      refine lv_icmp_ge (tgt := 111) hx hb dX5_opens_9 (by decide) (fun c_1 => ?_) (fun c_1 => ?_)
      · have n_c_1 : nR ≤ i := (nI_leI (by omega) (by omega)).mp c_1
        refine lv_iconst (v := 0) hx hb dX5_opens_111 (by decide) ?_
        refine lv_istore_n (lv' := [(3, .int 0), (0, .ref o), (1, .int (nI lf)), (2, .int a9)]) hx hb dX5_opens_112 rfl hl (by decide) rfl (fun ls hl => ?_)
        have e_i : i = nR := by omega
        by_cases hs : M 20 lf = 115
        · have LB : ∀ (n9 j : Nat) (Mj : TT) (a8 : Int32), j ≤ nR → nR < j + n9 → (Mj = (mO2 Mi a9 nR lf j).1) → (a8 = (mO2 Mi a9 nR lf j).2) → (∀ k, mOk k = true → Mj k = M k) → (a8 = 0 ∨ a8 = 1) → ∀ (H : Heap) (locs : List Loc), va_S (nF F) s.heap H locs → PM g F o ad Mj H → ∀ (ls : Array Slot), lv_has ls 4 [(0, .ref o), (1, .int (nI lf)), (2, .int a8), (3, .int (nI j))] → W p l e { frames := 2, cells := 0, slots := 0, locals := 44 } s m args below meth c H locs 0 0 (MQ below (Qg F (fun v9 H9 => v9 = some (.int ((mOpens M nR lf).2)) ∧ PM g F o ad ((mOpens M nR lf).1) H9)) args s 0 0 (nF F)) (F0 m 113 ls []) := by
            intro n9
            induction n9 with
            | zero => intro j Mj a8 hi9 hn9; exact absurd hn9 (by omega)
            | succ n9 ihLB =>
              intro j Mj a8 hi_LB hn_LB hMj ha2 hq2 h02 H locs hS hP ls hl
              have hwj : Mj 18 lf = nI w := (congrFun (hq2 18 rfl) _).trans hw
              have hsj : Mj 20 lf = 115 := (congrFun (hq2 20 rfl) _).trans hs
              refine lv_iload_n hx hb dX5_opens_113 rfl (lv_at hl 3 rfl) ?_
              refine lv_aload_n hx hb dX5_opens_114 rfl (lv_at hl 0 rfl) ?_
              refine mg E hP 14 (v := (nI nR)) dX5_opens_115 ((congrFun (hq2 14 rfl) _).trans hR) (kk := ?_)
              refine lv_icmp_ge (tgt := 221) hx hb dX5_opens_118 (by decide) (fun c_2 => ?_) (fun c_2 => ?_)
              · have n_c_2 : nR ≤ j := (nI_leI (by omega) (by omega)).mp c_2
                refine lv_iload_n hx hb dX5_opens_221 rfl (lv_at hl 2 rfl) ?_
                have e1 : ((mOpens M nR lf).2) = a8 := by simp only [mOpens, if_pos hs]; rw [← e_i, ← hMi, ← ha, e_i]; exact (show j = nR by omega) ▸ ha2.symm
                have e2 : ((mOpens M nR lf).1) = Mj := by simp only [mOpens, if_pos hs]; rw [← e_i, ← hMi, ← ha, e_i]; exact (show j = nR by omega) ▸ hMj.symm
                exact ct_zret E hr (by rcases h02 with h9 | h9 <;> rw [h9] <;> rfl) hk hS ⟨(by rw [e1]), (by rw [e2]; exact hP)⟩ dX5_opens_222
              · have n_c_2 : j < nR := Nat.lt_of_not_le (fun h9 => c_2 (nI_le h9 (by omega)))
                refine lv_aload_n hx hb dX5_opens_121 rfl (lv_at hl 0 rfl) ?_
                refine mga E hP 20 dX5_opens_122 (kk := ?_)
                refine lv_iload_n hx hb dX5_opens_125 rfl (lv_at hl 1 rfl) ?_
                refine mlc E hP 20 lf (v := 115) dX5_opens_126 rfl (show lf < 3 by omega) hsj (kk := ?_)
                refine lv_bipush (v := 115) hx hb dX5_opens_127 (by decide) ?_
                refine lv_icmp_ne (tgt := 221) hx hb dX5_opens_129 (by decide) (fun c_3 => ?_) (fun c_3 => ?_)
                · exact absurd (by decide : (115 : Int32) = (115)) c_3
                · refine lv_aload_n hx hb dX5_opens_132 rfl (lv_at hl 0 rfl) ?_
                  refine mga E hP 13 dX5_opens_133 (kk := ?_)
                  refine lv_iload_n hx hb dX5_opens_136 rfl (lv_at hl 3 rfl) ?_
                  refine mlc E hP 13 j (v := Mj 13 j) dX5_opens_137 rfl (show j < 30 by omega) rfl (kk := ?_)
                  refine lv_bipush (v := 119) hx hb dX5_opens_138 (by decide) ?_
                  refine lv_icmp_ne (tgt := 215) hx hb dX5_opens_140 (by decide) (fun c_4 => ?_) (fun c_4 => ?_)
                  · refine lv_iinc (v := (nI (j + 1))) (lv' := [(3, .int (nI (j + 1))), (0, .ref o), (1, .int (nI lf)), (2, .int a8)]) hx hb dX5_opens_215 hl (k := 3) rfl (by rw [nI_succ]; rfl) (by decide) rfl (fun ls hl => ?_)
                    refine lv_goto (tgt := 113) hx hb dX5_opens_218 (by decide) ?_
                    exact ihLB (j + 1) Mj a8 (by omega) (by omega) (by simp only [mO2, mO2s, ← hMj, ← ha2, hwj, eq_true c_1, eq_true hs, eq_false c_2, eq_true c_3, eq_false c_4, if_true, if_false, reduceIte, true_and, and_true, false_and, and_false, true_or, or_true, false_or, or_false, not_true_eq_false, not_false_eq_true, decide_true, decide_false, Bool.true_and, Bool.and_true, Bool.false_and, Bool.and_false, Bool.not_true, Bool.not_false, Bool.or_false, Bool.false_or, Bool.or_true, Bool.true_or]) (by simp only [mO2, mO2s, ← hMj, ← ha2, hwj, eq_true c_1, eq_true hs, eq_false c_2, eq_true c_3, eq_false c_4, if_true, if_false, reduceIte, true_and, and_true, false_and, and_false, true_or, or_true, false_or, or_false, not_true_eq_false, not_false_eq_true, decide_true, decide_false, Bool.true_and, Bool.and_true, Bool.false_and, Bool.and_false, Bool.not_true, Bool.not_false, Bool.or_false, Bool.false_or, Bool.or_true, Bool.true_or]) hq2 h02 H locs hS hP ls (lv_sub hl [1, 2, 3, 0] rfl)
                  · refine lv_aload_n hx hb dX5_opens_143 rfl (lv_at hl 0 rfl) ?_
                    refine mga E hP 10 dX5_opens_144 (kk := ?_)
                    refine lv_iload_n hx hb dX5_opens_147 rfl (lv_at hl 3 rfl) ?_
                    refine mli E hP 10 j (v := Mj 10 j) dX5_opens_148 rfl (show j < 30 by omega) rfl (kk := ?_)
                    refine lv_iload_n hx hb dX5_opens_149 rfl (lv_at hl 1 rfl) ?_
                    refine lv_icmp_ne (tgt := 215) hx hb dX5_opens_150 (by decide) (fun c_5 => ?_) (fun c_5 => ?_)
                    · refine lv_iinc (v := (nI (j + 1))) (lv' := [(3, .int (nI (j + 1))), (0, .ref o), (1, .int (nI lf)), (2, .int a8)]) hx hb dX5_opens_215 hl (k := 3) rfl (by rw [nI_succ]; rfl) (by decide) rfl (fun ls hl => ?_)
                      refine lv_goto (tgt := 113) hx hb dX5_opens_218 (by decide) ?_
                      exact ihLB (j + 1) Mj a8 (by omega) (by omega) (by simp only [mO2, mO2s, ← hMj, ← ha2, hwj, eq_true c_1, eq_true hs, eq_false c_2, eq_true c_3, eq_true c_4, eq_false c_5, if_true, if_false, reduceIte, true_and, and_true, false_and, and_false, true_or, or_true, false_or, or_false, not_true_eq_false, not_false_eq_true, decide_true, decide_false, Bool.true_and, Bool.and_true, Bool.false_and, Bool.and_false, Bool.not_true, Bool.not_false, Bool.or_false, Bool.false_or, Bool.or_true, Bool.true_or]) (by simp only [mO2, mO2s, ← hMj, ← ha2, hwj, eq_true c_1, eq_true hs, eq_false c_2, eq_true c_3, eq_true c_4, eq_false c_5, if_true, if_false, reduceIte, true_and, and_true, false_and, and_false, true_or, or_true, false_or, or_false, not_true_eq_false, not_false_eq_true, decide_true, decide_false, Bool.true_and, Bool.and_true, Bool.false_and, Bool.and_false, Bool.not_true, Bool.not_false, Bool.or_false, Bool.false_or, Bool.or_true, Bool.true_or]) hq2 h02 H locs hS hP ls (lv_sub hl [1, 2, 3, 0] rfl)
                    · refine lv_aload_n hx hb dX5_opens_153 rfl (lv_at hl 0 rfl) ?_
                      refine mga E hP 8 dX5_opens_154 (kk := ?_)
                      refine lv_iload_n hx hb dX5_opens_157 rfl (lv_at hl 3 rfl) ?_
                      refine mli E hP 8 j (v := Mj 8 j) dX5_opens_158 rfl (show j < 30 by omega) rfl (kk := ?_)
                      refine lv_aload_n hx hb dX5_opens_159 rfl (lv_at hl 0 rfl) ?_
                      refine mga E hP 18 dX5_opens_160 (kk := ?_)
                      refine lv_iload_n hx hb dX5_opens_163 rfl (lv_at hl 1 rfl) ?_
                      refine mli E hP 18 lf (v := (nI w)) dX5_opens_164 rfl (show lf < 3 by omega) ((congrFun (hq2 18 rfl) _).trans hw) (kk := ?_)
                      refine lv_icmp_ne (tgt := 215) hx hb dX5_opens_165 (by decide) (fun c_6 => ?_) (fun c_6 => ?_)
                      · refine lv_iinc (v := (nI (j + 1))) (lv' := [(3, .int (nI (j + 1))), (0, .ref o), (1, .int (nI lf)), (2, .int a8)]) hx hb dX5_opens_215 hl (k := 3) rfl (by rw [nI_succ]; rfl) (by decide) rfl (fun ls hl => ?_)
                        refine lv_goto (tgt := 113) hx hb dX5_opens_218 (by decide) ?_
                        exact ihLB (j + 1) Mj a8 (by omega) (by omega) (by simp only [mO2, mO2s, ← hMj, ← ha2, hwj, eq_true c_1, eq_true hs, eq_false c_2, eq_true c_3, eq_true c_4, eq_true c_5, eq_false c_6, if_true, if_false, reduceIte, true_and, and_true, false_and, and_false, true_or, or_true, false_or, or_false, not_true_eq_false, not_false_eq_true, decide_true, decide_false, Bool.true_and, Bool.and_true, Bool.false_and, Bool.and_false, Bool.not_true, Bool.not_false, Bool.or_false, Bool.false_or, Bool.or_true, Bool.true_or]) (by simp only [mO2, mO2s, ← hMj, ← ha2, hwj, eq_true c_1, eq_true hs, eq_false c_2, eq_true c_3, eq_true c_4, eq_true c_5, eq_false c_6, if_true, if_false, reduceIte, true_and, and_true, false_and, and_false, true_or, or_true, false_or, or_false, not_true_eq_false, not_false_eq_true, decide_true, decide_false, Bool.true_and, Bool.and_true, Bool.false_and, Bool.and_false, Bool.not_true, Bool.not_false, Bool.or_false, Bool.false_or, Bool.or_true, Bool.true_or]) hq2 h02 H locs hS hP ls (lv_sub hl [1, 2, 3, 0] rfl)
                      · refine lv_aload_n hx hb dX5_opens_168 rfl (lv_at hl 0 rfl) ?_
                        refine lv_iload_n hx hb dX5_opens_169 rfl (lv_at hl 1 rfl) ?_
                        refine ct_V E hS (c_X5_aboardMany l g F o ad Mj nR lf ((congrFun (hq2 14 rfl) _).trans hR) hR30) ok_X5_aboardMany lk_X5_148 hP (PM.recv hG hP) rfl hl ⟨rfl, rfl⟩ rfl ⟨Nat.le_refl _, Nat.le_refl _⟩ dX5_opens_170 rfl (fun v9 H locs hv9 hS hz9 => ?_)
                        obtain ⟨rfl, hP⟩ := hv9
                        refine lv_aload_n hx hb dX5_opens_173 rfl (lv_at hl 0 rfl) ?_
                        refine mga E hP 17 dX5_opens_174 (kk := ?_)
                        refine lv_iload_n hx hb dX5_opens_177 rfl (lv_at hl 1 rfl) ?_
                        refine mli E hP 17 lf (v := Mj 17 lf) dX5_opens_178 rfl (show lf < 3 by omega) rfl (kk := ?_)
                        refine lv_icmp_ne (tgt := 185) hx hb dX5_opens_179 (by decide) (fun c_7 => ?_) (fun c_7 => ?_)
                        · refine lv_aload_n hx hb dX5_opens_185 rfl (lv_at hl 0 rfl) ?_
                          refine mga E hP 13 dX5_opens_186 (kk := ?_)
                          refine lv_iload_n hx hb dX5_opens_189 rfl (lv_at hl 3 rfl) ?_
                          refine lv_bipush (v := 97) hx hb dX5_opens_190 (by decide) ?_
                          refine msc E hS hP 13 j dX5_opens_192 rfl (show j < 30 by omega) (by decide) (kk := fun H locs hS hP => ?_)
                          refine lv_aload_n hx hb dX5_opens_193 rfl (lv_at hl 0 rfl) ?_
                          refine mga E hP 12 dX5_opens_194 (kk := ?_)
                          refine lv_iload_n hx hb dX5_opens_197 rfl (lv_at hl 3 rfl) ?_
                          refine lv_aload_n hx hb dX5_opens_198 rfl (lv_at hl 0 rfl) ?_
                          refine mg E hP 23 (v := Mj 23 0) dX5_opens_199 (by simp [tu]) (kk := ?_)
                          refine msi E hS hP 12 j dX5_opens_202 rfl (show j < 30 by omega) (kk := fun H locs hS hP => ?_)
                          refine lv_aload_n hx hb dX5_opens_203 rfl (lv_at hl 0 rfl) ?_
                          refine lv_dup hx hb dX5_opens_204 rfl ?_
                          refine mg E hP 15 (v := Mj 15 0) dX5_opens_205 (by simp [tu]) (kk := ?_)
                          refine lv_iconst (v := 1) hx hb dX5_opens_208 (by decide) ?_
                          refine lv_iadd hx hb dX5_opens_209 ?_
                          refine mp E hS hP 15 dX5_opens_210 rfl (kk := fun H locs hS hP => ?_)
                          refine lv_iconst (v := 1) hx hb dX5_opens_213 (by decide) ?_
                          refine lv_istore_n (lv' := [(2, .int 1), (0, .ref o), (1, .int (nI lf)), (3, .int (nI j))]) hx hb dX5_opens_214 rfl hl (by decide) rfl (fun ls hl => ?_)
                          refine lv_iinc (v := (nI (j + 1))) (lv' := [(3, .int (nI (j + 1))), (2, .int 1), (0, .ref o), (1, .int (nI lf))]) hx hb dX5_opens_215 hl (k := 3) rfl (by rw [nI_succ]; rfl) (by decide) rfl (fun ls hl => ?_)
                          refine lv_goto (tgt := 113) hx hb dX5_opens_218 (by decide) ?_
                          exact ihLB (j + 1) (tu (tu (tu Mj 13 j 97) 12 j (Mj 23 0)) 15 0 ((Mj 15 0) + 1)) 1 (by omega) (by omega) (by simp only [mO2, mO2s, ← hMj, ← ha2, hwj, eq_true c_1, eq_true hs, eq_false c_2, eq_true c_3, eq_true c_4, eq_true c_5, eq_true c_6, eq_false c_7, if_true, if_false, reduceIte, true_and, and_true, false_and, and_false, true_or, or_true, false_or, or_false, not_true_eq_false, not_false_eq_true, decide_true, decide_false, Bool.true_and, Bool.and_true, Bool.false_and, Bool.and_false, Bool.not_true, Bool.not_false, Bool.or_false, Bool.false_or, Bool.or_true, Bool.true_or]) (by simp only [mO2, mO2s, ← hMj, ← ha2, hwj, eq_true c_1, eq_true hs, eq_false c_2, eq_true c_3, eq_true c_4, eq_true c_5, eq_true c_6, eq_false c_7, if_true, if_false, reduceIte, true_and, and_true, false_and, and_false, true_or, or_true, false_or, or_false, not_true_eq_false, not_false_eq_true, decide_true, decide_false, Bool.true_and, Bool.and_true, Bool.false_and, Bool.and_false, Bool.not_true, Bool.not_false, Bool.or_false, Bool.false_or, Bool.or_true, Bool.true_or]) (fun k hk9 => by rw [tu_r (by rintro rfl; cases hk9), tu_r (by rintro rfl; cases hk9), tu_r (by rintro rfl; cases hk9)]; exact hq2 k hk9) (Or.inr rfl) H locs hS hP ls (lv_sub hl [2, 3, 1, 0] rfl)
                        · refine lv_goto (tgt := 215) hx hb dX5_opens_182 (by decide) ?_
                          refine lv_iinc (v := (nI (j + 1))) (lv' := [(3, .int (nI (j + 1))), (0, .ref o), (1, .int (nI lf)), (2, .int a8)]) hx hb dX5_opens_215 hl (k := 3) rfl (by rw [nI_succ]; rfl) (by decide) rfl (fun ls hl => ?_)
                          refine lv_goto (tgt := 113) hx hb dX5_opens_218 (by decide) ?_
                          exact ihLB (j + 1) Mj a8 (by omega) (by omega) (by simp only [mO2, mO2s, ← hMj, ← ha2, hwj, eq_true c_1, eq_true hs, eq_false c_2, eq_true c_3, eq_true c_4, eq_true c_5, eq_true c_6, eq_true c_7, if_true, if_false, reduceIte, true_and, and_true, false_and, and_false, true_or, or_true, false_or, or_false, not_true_eq_false, not_false_eq_true, decide_true, decide_false, Bool.true_and, Bool.and_true, Bool.false_and, Bool.and_false, Bool.not_true, Bool.not_false, Bool.or_false, Bool.false_or, Bool.or_true, Bool.true_or]) (by simp only [mO2, mO2s, ← hMj, ← ha2, hwj, eq_true c_1, eq_true hs, eq_false c_2, eq_true c_3, eq_true c_4, eq_true c_5, eq_true c_6, eq_true c_7, if_true, if_false, reduceIte, true_and, and_true, false_and, and_false, true_or, or_true, false_or, or_false, not_true_eq_false, not_false_eq_true, decide_true, decide_false, Bool.true_and, Bool.and_true, Bool.false_and, Bool.and_false, Bool.not_true, Bool.not_false, Bool.or_false, Bool.false_or, Bool.or_true, Bool.true_or]) hq2 h02 H locs hS hP ls (lv_sub hl [1, 2, 3, 0] rfl)
          exact LB (nR + 1) 0 Mi a9 (Nat.zero_le _) (by omega) rfl rfl hq h01 _ _ hS hP ls (lv_sub hl [1, 2, 3, 0] rfl)
        · have hsi : ¬ Mi 20 lf = 115 := fun h9 => hs ((congrFun (hq 20 rfl) _).symm.trans h9)
          refine lv_iload_n hx hb dX5_opens_113 rfl (lv_at hl 0 rfl) ?_
          refine lv_aload_n hx hb dX5_opens_114 rfl (lv_at hl 1 rfl) ?_
          refine mg E hP 14 (v := (nI nR)) dX5_opens_115 ((congrFun (hq 14 rfl) _).trans hR) (kk := ?_)
          refine lv_icmp_ge (tgt := 221) hx hb dX5_opens_118 (by decide) (fun c_8 => ?_) (fun c_8 => ?_)
          · refine lv_iload_n hx hb dX5_opens_221 rfl (lv_at hl 3 rfl) ?_
            have e1 : ((mOpens M nR lf).2) = a9 := by simp only [mOpens, if_neg hs]; rw [← e_i]; exact ha.symm
            have e2 : ((mOpens M nR lf).1) = Mi := by simp only [mOpens, if_neg hs]; rw [← e_i]; exact hMi.symm
            exact ct_zret E hr (by rcases h01 with h9 | h9 <;> rw [h9] <;> rfl) hk hS ⟨(by rw [e1]), (by rw [e2]; exact hP)⟩ dX5_opens_222
          · refine lv_aload_n hx hb dX5_opens_121 rfl (lv_at hl 1 rfl) ?_
            refine mga E hP 20 dX5_opens_122 (kk := ?_)
            refine lv_iload_n hx hb dX5_opens_125 rfl (lv_at hl 2 rfl) ?_
            refine mlc E hP 20 lf (v := Mi 20 lf) dX5_opens_126 rfl (show lf < 3 by omega) rfl (kk := ?_)
            refine lv_bipush (v := 115) hx hb dX5_opens_127 (by decide) ?_
            refine lv_icmp_ne (tgt := 221) hx hb dX5_opens_129 (by decide) (fun c_9 => ?_) (fun c_9 => ?_)
            · refine lv_iload_n hx hb dX5_opens_221 rfl (lv_at hl 3 rfl) ?_
              have e1 : ((mOpens M nR lf).2) = a9 := by simp only [mOpens, if_neg hs]; rw [← e_i]; exact ha.symm
              have e2 : ((mOpens M nR lf).1) = Mi := by simp only [mOpens, if_neg hs]; rw [← e_i]; exact hMi.symm
              exact ct_zret E hr (by rcases h01 with h9 | h9 <;> rw [h9] <;> rfl) hk hS ⟨(by rw [e1]), (by rw [e2]; exact hP)⟩ dX5_opens_222
            · exact absurd c_9 hsi
      · have n_c_1 : i < nR := Nat.lt_of_not_le (fun h9 => c_1 (nI_le h9 (by omega)))
        obtain ⟨b9, hb9, hbb⟩ := hBd i n_c_1
        have hbi : Mi 7 i = nI b9 := (congrFun (hq 7 rfl) _).trans hbb
        have hwi : Mi 18 lf = nI w := (congrFun (hq 18 rfl) _).trans hw
        have b9_cl : (nI b9).toNatClampNeg = b9 := nI_clamp (by omega)
        have w_cl : (nI w).toNatClampNeg = w := nI_clamp (by omega)
        refine lv_aload_n hx hb dX5_opens_12 rfl (lv_at hl 0 rfl) ?_
        refine mga E hP 13 dX5_opens_13 (kk := ?_)
        refine lv_iload_n hx hb dX5_opens_16 rfl (lv_at hl 3 rfl) ?_
        refine mlc E hP 13 i (v := Mi 13 i) dX5_opens_17 rfl (show i < 30 by omega) rfl (kk := ?_)
        refine lv_bipush (v := 97) hx hb dX5_opens_18 (by decide) ?_
        refine lv_icmp_ne (tgt := 105) hx hb dX5_opens_20 (by decide) (fun c_10 => ?_) (fun c_10 => ?_)
        · refine lv_iinc (v := (nI (i + 1))) (lv' := [(3, .int (nI (i + 1))), (0, .ref o), (1, .int (nI lf)), (2, .int a9)]) hx hb dX5_opens_105 hl (k := 3) rfl (by rw [nI_succ]; rfl) (by decide) rfl (fun ls hl => ?_)
          refine lv_goto (tgt := 4) hx hb dX5_opens_108 (by decide) ?_
          exact ihLA (i + 1) Mi a9 (by omega) (by omega) (by simp only [mO1, mO1s, ← hMi, ← ha, hbi, hwi, b9_cl, w_cl, eq_false c_1, eq_false c_10, if_true, if_false, reduceIte, true_and, and_true, false_and, and_false, true_or, or_true, false_or, or_false, not_true_eq_false, not_false_eq_true, decide_true, decide_false, Bool.true_and, Bool.and_true, Bool.false_and, Bool.and_false, Bool.not_true, Bool.not_false, Bool.or_false, Bool.false_or, Bool.or_true, Bool.true_or]) (by simp only [mO1, mO1s, ← hMi, ← ha, hbi, hwi, b9_cl, w_cl, eq_false c_1, eq_false c_10, if_true, if_false, reduceIte, true_and, and_true, false_and, and_false, true_or, or_true, false_or, or_false, not_true_eq_false, not_false_eq_true, decide_true, decide_false, Bool.true_and, Bool.and_true, Bool.false_and, Bool.and_false, Bool.not_true, Bool.not_false, Bool.or_false, Bool.false_or, Bool.or_true, Bool.true_or]) hq h01 H locs hS hP ls (lv_sub hl [1, 2, 3, 0] rfl)
        · refine lv_aload_n hx hb dX5_opens_23 rfl (lv_at hl 0 rfl) ?_
          refine mga E hP 10 dX5_opens_24 (kk := ?_)
          refine lv_iload_n hx hb dX5_opens_27 rfl (lv_at hl 3 rfl) ?_
          refine mli E hP 10 i (v := Mi 10 i) dX5_opens_28 rfl (show i < 30 by omega) rfl (kk := ?_)
          refine lv_iload_n hx hb dX5_opens_29 rfl (lv_at hl 1 rfl) ?_
          refine lv_icmp_ne (tgt := 105) hx hb dX5_opens_30 (by decide) (fun c_11 => ?_) (fun c_11 => ?_)
          · refine lv_iinc (v := (nI (i + 1))) (lv' := [(3, .int (nI (i + 1))), (0, .ref o), (1, .int (nI lf)), (2, .int a9)]) hx hb dX5_opens_105 hl (k := 3) rfl (by rw [nI_succ]; rfl) (by decide) rfl (fun ls hl => ?_)
            refine lv_goto (tgt := 4) hx hb dX5_opens_108 (by decide) ?_
            exact ihLA (i + 1) Mi a9 (by omega) (by omega) (by simp only [mO1, mO1s, ← hMi, ← ha, hbi, hwi, b9_cl, w_cl, eq_false c_1, eq_true c_10, eq_false c_11, if_true, if_false, reduceIte, true_and, and_true, false_and, and_false, true_or, or_true, false_or, or_false, not_true_eq_false, not_false_eq_true, decide_true, decide_false, Bool.true_and, Bool.and_true, Bool.false_and, Bool.and_false, Bool.not_true, Bool.not_false, Bool.or_false, Bool.false_or, Bool.or_true, Bool.true_or]) (by simp only [mO1, mO1s, ← hMi, ← ha, hbi, hwi, b9_cl, w_cl, eq_false c_1, eq_true c_10, eq_false c_11, if_true, if_false, reduceIte, true_and, and_true, false_and, and_false, true_or, or_true, false_or, or_false, not_true_eq_false, not_false_eq_true, decide_true, decide_false, Bool.true_and, Bool.and_true, Bool.false_and, Bool.and_false, Bool.not_true, Bool.not_false, Bool.or_false, Bool.false_or, Bool.or_true, Bool.true_or]) hq h01 H locs hS hP ls (lv_sub hl [1, 2, 3, 0] rfl)
          · refine lv_aload_n hx hb dX5_opens_33 rfl (lv_at hl 0 rfl) ?_
            refine mga E hP 9 dX5_opens_34 (kk := ?_)
            refine lv_iload_n hx hb dX5_opens_37 rfl (lv_at hl 3 rfl) ?_
            refine mli E hP 9 i (v := Mi 9 i) dX5_opens_38 rfl (show i < 30 by omega) rfl (kk := ?_)
            refine lv_aload_n hx hb dX5_opens_39 rfl (lv_at hl 0 rfl) ?_
            refine mga E hP 18 dX5_opens_40 (kk := ?_)
            refine lv_iload_n hx hb dX5_opens_43 rfl (lv_at hl 1 rfl) ?_
            refine mli E hP 18 lf (v := (nI w)) dX5_opens_44 rfl (show lf < 3 by omega) ((congrFun (hq 18 rfl) _).trans hw) (kk := ?_)
            refine lv_icmp_eq (tgt := 51) hx hb dX5_opens_45 (by decide) (fun c_12 => ?_) (fun c_12 => ?_)
            · refine lv_aload_n hx hb dX5_opens_51 rfl (lv_at hl 0 rfl) ?_
              refine lv_aload_n hx hb dX5_opens_52 rfl (lv_at hl 0 rfl) ?_
              refine mga E hP 7 dX5_opens_53 (kk := ?_)
              refine lv_iload_n hx hb dX5_opens_56 rfl (lv_at hl 3 rfl) ?_
              refine mli E hP 7 i (v := (nI b9)) dX5_opens_57 rfl (show i < 30 by omega) hbi (kk := ?_)
              refine lv_aload_n hx hb dX5_opens_58 rfl (lv_at hl 0 rfl) ?_
              refine mga E hP 18 dX5_opens_59 (kk := ?_)
              refine lv_iload_n hx hb dX5_opens_62 rfl (lv_at hl 1 rfl) ?_
              refine mli E hP 18 lf (v := (nI w)) dX5_opens_63 rfl (show lf < 3 by omega) ((congrFun (hq 18 rfl) _).trans hw) (kk := ?_)
              refine ct_V E hS (c_X5_why l g F o ad Mi b9 w (by omega) (by omega)) ok_X5_why lk_X5_97 hP (PM.recv hG hP) rfl hl ⟨rfl, rfl⟩ rfl ⟨Nat.le_refl _, Nat.le_refl _⟩ dX5_opens_64 rfl (fun v9 H locs hv9 hS hz9 => ?_)
              obtain ⟨rfl, hP⟩ := hv9
              refine lv_bipush (v := 110) hx hb dX5_opens_67 (by decide) ?_
              refine lv_icmp_ne (tgt := 88) hx hb dX5_opens_69 (by decide) (fun c_13 => ?_) (fun c_13 => ?_)
              · refine lv_aload_n hx hb dX5_opens_88 rfl (lv_at hl 0 rfl) ?_
                refine mga E hP 9 dX5_opens_89 (kk := ?_)
                refine lv_iload_n hx hb dX5_opens_92 rfl (lv_at hl 3 rfl) ?_
                refine lv_iconst (v := 0) hx hb dX5_opens_93 (by decide) ?_
                refine msi E hS hP 9 i dX5_opens_94 rfl (show i < 30 by omega) (kk := fun H locs hS hP => ?_)
                refine lv_aload_n hx hb dX5_opens_95 rfl (lv_at hl 0 rfl) ?_
                refine lv_dup hx hb dX5_opens_96 rfl ?_
                refine mg E hP 25 (v := Mi 25 0) dX5_opens_97 (by simp [tu]) (kk := ?_)
                refine lv_iconst (v := 1) hx hb dX5_opens_100 (by decide) ?_
                refine lv_iadd hx hb dX5_opens_101 ?_
                refine mp E hS hP 25 dX5_opens_102 rfl (kk := fun H locs hS hP => ?_)
                refine lv_iinc (v := (nI (i + 1))) (lv' := [(3, .int (nI (i + 1))), (0, .ref o), (1, .int (nI lf)), (2, .int a9)]) hx hb dX5_opens_105 hl (k := 3) rfl (by rw [nI_succ]; rfl) (by decide) rfl (fun ls hl => ?_)
                refine lv_goto (tgt := 4) hx hb dX5_opens_108 (by decide) ?_
                exact ihLA (i + 1) (tu (tu Mi 9 i 0) 25 0 ((Mi 25 0) + 1)) a9 (by omega) (by omega) (by simp only [mO1, mO1s, ← hMi, ← ha, hbi, hwi, b9_cl, w_cl, eq_false c_1, eq_true c_10, eq_true c_11, eq_true c_12, eq_false c_13, if_true, if_false, reduceIte, true_and, and_true, false_and, and_false, true_or, or_true, false_or, or_false, not_true_eq_false, not_false_eq_true, decide_true, decide_false, Bool.true_and, Bool.and_true, Bool.false_and, Bool.and_false, Bool.not_true, Bool.not_false, Bool.or_false, Bool.false_or, Bool.or_true, Bool.true_or]) (by simp only [mO1, mO1s, ← hMi, ← ha, hbi, hwi, b9_cl, w_cl, eq_false c_1, eq_true c_10, eq_true c_11, eq_true c_12, eq_false c_13, if_true, if_false, reduceIte, true_and, and_true, false_and, and_false, true_or, or_true, false_or, or_false, not_true_eq_false, not_false_eq_true, decide_true, decide_false, Bool.true_and, Bool.and_true, Bool.false_and, Bool.and_false, Bool.not_true, Bool.not_false, Bool.or_false, Bool.false_or, Bool.or_true, Bool.true_or]) (fun k hk9 => by rw [tu_r (by rintro rfl; cases hk9), tu_r (by rintro rfl; cases hk9)]; exact hq k hk9) h01 H locs hS hP ls (lv_sub hl [1, 2, 3, 0] rfl)
              · refine lv_aload_n hx hb dX5_opens_72 rfl (lv_at hl 0 rfl) ?_
                refine lv_iload_n hx hb dX5_opens_73 rfl (lv_at hl 3 rfl) ?_
                refine lv_aload_n hx hb dX5_opens_74 rfl (lv_at hl 0 rfl) ?_
                refine mga E hP 18 dX5_opens_75 (kk := ?_)
                refine lv_iload_n hx hb dX5_opens_78 rfl (lv_at hl 1 rfl) ?_
                refine mli E hP 18 lf (v := (nI w)) dX5_opens_79 rfl (show lf < 3 by omega) ((congrFun (hq 18 rfl) _).trans hw) (kk := ?_)
                refine ct_V E hS (c_X5_ends l g F o ad Mi i (nI w) (by omega)) ok_X5_ends lk_X5_151 hP (PM.recv hG hP) rfl hl ⟨rfl, rfl⟩ rfl ⟨Nat.le_refl _, Nat.le_refl _⟩ dX5_opens_80 rfl (fun v9 H locs hv9 hS hz9 => ?_)
                obtain ⟨rfl, hP⟩ := hv9
                refine lv_iconst (v := 1) hx hb dX5_opens_83 (by decide) ?_
                refine lv_istore_n (lv' := [(2, .int 1), (0, .ref o), (1, .int (nI lf)), (3, .int (nI i))]) hx hb dX5_opens_84 rfl hl (by decide) rfl (fun ls hl => ?_)
                refine lv_goto (tgt := 105) hx hb dX5_opens_85 (by decide) ?_
                refine lv_iinc (v := (nI (i + 1))) (lv' := [(3, .int (nI (i + 1))), (2, .int 1), (0, .ref o), (1, .int (nI lf))]) hx hb dX5_opens_105 hl (k := 3) rfl (by rw [nI_succ]; rfl) (by decide) rfl (fun ls hl => ?_)
                refine lv_goto (tgt := 4) hx hb dX5_opens_108 (by decide) ?_
                exact ihLA (i + 1) (mEnds Mi i (nI w)) 1 (by omega) (by omega) (by simp only [mO1, mO1s, ← hMi, ← ha, hbi, hwi, b9_cl, w_cl, eq_false c_1, eq_true c_10, eq_true c_11, eq_true c_12, eq_true c_13, if_true, if_false, reduceIte, true_and, and_true, false_and, and_false, true_or, or_true, false_or, or_false, not_true_eq_false, not_false_eq_true, decide_true, decide_false, Bool.true_and, Bool.and_true, Bool.false_and, Bool.and_false, Bool.not_true, Bool.not_false, Bool.or_false, Bool.false_or, Bool.or_true, Bool.true_or]) (by simp only [mO1, mO1s, ← hMi, ← ha, hbi, hwi, b9_cl, w_cl, eq_false c_1, eq_true c_10, eq_true c_11, eq_true c_12, eq_true c_13, if_true, if_false, reduceIte, true_and, and_true, false_and, and_false, true_or, or_true, false_or, or_false, not_true_eq_false, not_false_eq_true, decide_true, decide_false, Bool.true_and, Bool.and_true, Bool.false_and, Bool.and_false, Bool.not_true, Bool.not_false, Bool.or_false, Bool.false_or, Bool.or_true, Bool.true_or]) (fun k hk9 => (mEnds_k hk9).trans (hq k hk9)) (Or.inr rfl) H locs hS hP ls (lv_sub hl [2, 3, 1, 0] rfl)
            · refine lv_goto (tgt := 105) hx hb dX5_opens_48 (by decide) ?_
              refine lv_iinc (v := (nI (i + 1))) (lv' := [(3, .int (nI (i + 1))), (0, .ref o), (1, .int (nI lf)), (2, .int a9)]) hx hb dX5_opens_105 hl (k := 3) rfl (by rw [nI_succ]; rfl) (by decide) rfl (fun ls hl => ?_)
              refine lv_goto (tgt := 4) hx hb dX5_opens_108 (by decide) ?_
              exact ihLA (i + 1) Mi a9 (by omega) (by omega) (by simp only [mO1, mO1s, ← hMi, ← ha, hbi, hwi, b9_cl, w_cl, eq_false c_1, eq_true c_10, eq_true c_11, eq_false c_12, if_true, if_false, reduceIte, true_and, and_true, false_and, and_false, true_or, or_true, false_or, or_false, not_true_eq_false, not_false_eq_true, decide_true, decide_false, Bool.true_and, Bool.and_true, Bool.false_and, Bool.and_false, Bool.not_true, Bool.not_false, Bool.or_false, Bool.false_or, Bool.or_true, Bool.true_or]) (by simp only [mO1, mO1s, ← hMi, ← ha, hbi, hwi, b9_cl, w_cl, eq_false c_1, eq_true c_10, eq_true c_11, eq_false c_12, if_true, if_false, reduceIte, true_and, and_true, false_and, and_false, true_or, or_true, false_or, or_false, not_true_eq_false, not_false_eq_true, decide_true, decide_false, Bool.true_and, Bool.and_true, Bool.false_and, Bool.and_false, Bool.not_true, Bool.not_false, Bool.or_false, Bool.false_or, Bool.or_true, Bool.true_or]) hq h01 H locs hS hP ls (lv_sub hl [1, 2, 3, 0] rfl)
  exact LA (nR + 1) 0 M 0 (Nat.zero_le _) (by omega) rfl rfl (fun k _ => rfl) (Or.inl rfl) _ _ hS hP ls (lv_sub hl [2, 3, 1, 0] rfl)

set_option maxHeartbeats 4000000 in
set_option maxRecDepth 100000 in
theorem c_X5_isAim (l : Launch) (g : cG) (F : Nat → Prop) (o : Nat) (ad : Nat → Nat) (M : TT) (nR lf r : Nat) (f : Int32) (hR : M 14 0 = nI nR) (hR30 : nR ≤ 30) (hf3 : lf < 3) (hr30 : r < 30) : CT l yX5_isAim cX5_isAim 4 (some .boolean) 1 23 0 0 g F [.ref o, .int (nI lf), .int (nI r), .int f] (PM g F o ad M) (fun v9 H9 => v9 = some (.int (b2i (mIsAim M nR lf r f = true))) ∧ PM g F o ad M H9) := by
  refine CT.of (by decide) rfl ?_
  intro p e s m args below meth c E hr hk hnm hP ls hl
  have hS : va_S (nF F) s.heap s.heap [] := va_S.rf
  have hx := E.1
  have hb := E.2.1
  have hE_ml := E.2.2.1
  have hown := E.2.2.2.1
  have hts := E.2.2.2.2.1
  have hG := E.2.2.2.2.2
  have hl : lv_has ls 4 [(0, .ref o), (1, .int (nI lf)), (2, .int (nI r)), (3, .int f)] := hl
  refine lv_aload_n hx hb dX5_isAim_0 rfl (lv_at hl 0 rfl) ?_
  refine mga E hP 10 dX5_isAim_1 (kk := ?_)
  refine lv_iload_n hx hb dX5_isAim_4 rfl (lv_at hl 2 rfl) ?_
  refine mli E hP 10 r (v := M 10 r) dX5_isAim_5 rfl (show r < 30 by omega) rfl (kk := ?_)
  refine lv_iload_n hx hb dX5_isAim_6 rfl (lv_at hl 1 rfl) ?_
  refine lv_icmp_ne (tgt := 21) hx hb dX5_isAim_7 (by decide) (fun c_1 => ?_) (fun c_1 => ?_)
  · refine lv_iconst (v := 0) hx hb dX5_isAim_21 (by decide) ?_
    have e1 : (b2i (mIsAim M nR lf r f = true)) = 0 := by simp only [b2i, mIsAim, eq_false c_1, Bool.false_eq_true, if_true, if_false, reduceIte, true_and, and_true, false_and, and_false, true_or, or_true, false_or, or_false, not_true_eq_false, not_false_eq_true, decide_true, decide_false, Bool.true_and, Bool.and_true, Bool.false_and, Bool.and_false, Bool.not_true, Bool.not_false, Bool.or_false, Bool.false_or, Bool.or_true, Bool.true_or]
    exact ct_zret E hr (by decide) hk hS ⟨(by rw [e1]), hP⟩ dX5_isAim_22
  · refine lv_aload_n hx hb dX5_isAim_10 rfl (lv_at hl 0 rfl) ?_
    refine mga E hP 13 dX5_isAim_11 (kk := ?_)
    refine lv_iload_n hx hb dX5_isAim_14 rfl (lv_at hl 2 rfl) ?_
    refine mlc E hP 13 r (v := M 13 r) dX5_isAim_15 rfl (show r < 30 by omega) rfl (kk := ?_)
    refine lv_bipush (v := 100) hx hb dX5_isAim_16 (by decide) ?_
    refine lv_icmp_ne (tgt := 23) hx hb dX5_isAim_18 (by decide) (fun c_2 => ?_) (fun c_2 => ?_)
    · refine lv_aload_n hx hb dX5_isAim_23 rfl (lv_at hl 0 rfl) ?_
      refine mga E hP 13 dX5_isAim_24 (kk := ?_)
      refine lv_iload_n hx hb dX5_isAim_27 rfl (lv_at hl 2 rfl) ?_
      refine mlc E hP 13 r (v := M 13 r) dX5_isAim_28 rfl (show r < 30 by omega) rfl (kk := ?_)
      refine lv_bipush (v := 97) hx hb dX5_isAim_29 (by decide) ?_
      refine lv_icmp_ne (tgt := 50) hx hb dX5_isAim_31 (by decide) (fun c_3 => ?_) (fun c_3 => ?_)
      · refine lv_aload_n hx hb dX5_isAim_50 rfl (lv_at hl 0 rfl) ?_
        refine mga E hP 8 dX5_isAim_51 (kk := ?_)
        refine lv_iload_n hx hb dX5_isAim_54 rfl (lv_at hl 2 rfl) ?_
        refine mli E hP 8 r (v := M 8 r) dX5_isAim_55 rfl (show r < 30 by omega) rfl (kk := ?_)
        refine lv_iload_n hx hb dX5_isAim_56 rfl (lv_at hl 3 rfl) ?_
        refine lv_icmp_ne (tgt := 89) hx hb dX5_isAim_57 (by decide) (fun c_4 => ?_) (fun c_4 => ?_)
        · refine lv_iconst (v := 0) hx hb dX5_isAim_89 (by decide) ?_
          have e1 : (b2i (mIsAim M nR lf r f = true)) = 0 := by simp only [b2i, mIsAim, eq_true c_1, eq_false c_2, eq_false c_3, eq_false c_4, Bool.false_eq_true, if_true, if_false, reduceIte, true_and, and_true, false_and, and_false, true_or, or_true, false_or, or_false, not_true_eq_false, not_false_eq_true, decide_true, decide_false, Bool.true_and, Bool.and_true, Bool.false_and, Bool.and_false, Bool.not_true, Bool.not_false, Bool.or_false, Bool.false_or, Bool.or_true, Bool.true_or]
          exact ct_zret E hr (by decide) hk hS ⟨(by rw [e1]), hP⟩ dX5_isAim_90
        · refine lv_aload_n hx hb dX5_isAim_60 rfl (lv_at hl 0 rfl) ?_
          refine mga E hP 20 dX5_isAim_61 (kk := ?_)
          refine lv_iload_n hx hb dX5_isAim_64 rfl (lv_at hl 1 rfl) ?_
          refine mlc E hP 20 lf (v := M 20 lf) dX5_isAim_65 rfl (show lf < 3 by omega) rfl (kk := ?_)
          refine lv_bipush (v := 115) hx hb dX5_isAim_66 (by decide) ?_
          refine lv_icmp_ne (tgt := 89) hx hb dX5_isAim_68 (by decide) (fun c_5 => ?_) (fun c_5 => ?_)
          · refine lv_iconst (v := 0) hx hb dX5_isAim_89 (by decide) ?_
            have e1 : (b2i (mIsAim M nR lf r f = true)) = 0 := by simp only [b2i, mIsAim, eq_true c_1, eq_false c_2, eq_false c_3, eq_true c_4, eq_false c_5, Bool.false_eq_true, if_true, if_false, reduceIte, true_and, and_true, false_and, and_false, true_or, or_true, false_or, or_false, not_true_eq_false, not_false_eq_true, decide_true, decide_false, Bool.true_and, Bool.and_true, Bool.false_and, Bool.and_false, Bool.not_true, Bool.not_false, Bool.or_false, Bool.false_or, Bool.or_true, Bool.true_or]
            exact ct_zret E hr (by decide) hk hS ⟨(by rw [e1]), hP⟩ dX5_isAim_90
          · refine lv_aload_n hx hb dX5_isAim_71 rfl (lv_at hl 0 rfl) ?_
            refine lv_iload_n hx hb dX5_isAim_72 rfl (lv_at hl 1 rfl) ?_
            refine ct_V E hS (c_X5_aboardMany l g F o ad M nR lf hR hR30) ok_X5_aboardMany lk_X5_148 hP (PM.recv hG hP) rfl hl ⟨rfl, rfl⟩ rfl ⟨Nat.le_refl _, Nat.le_refl _⟩ dX5_isAim_73 rfl (fun v9 H locs hv9 hS hz9 => ?_)
            obtain ⟨rfl, hP⟩ := hv9
            refine lv_aload_n hx hb dX5_isAim_76 rfl (lv_at hl 0 rfl) ?_
            refine mga E hP 17 dX5_isAim_77 (kk := ?_)
            refine lv_iload_n hx hb dX5_isAim_80 rfl (lv_at hl 1 rfl) ?_
            refine mli E hP 17 lf (v := M 17 lf) dX5_isAim_81 rfl (show lf < 3 by omega) rfl (kk := ?_)
            refine lv_icmp_ge (tgt := 89) hx hb dX5_isAim_82 (by decide) (fun c_6 => ?_) (fun c_6 => ?_)
            · refine lv_iconst (v := 0) hx hb dX5_isAim_89 (by decide) ?_
              have e1 : (b2i (mIsAim M nR lf r f = true)) = 0 := by simp only [b2i, mIsAim, eq_true c_1, eq_false c_2, eq_false c_3, eq_true c_4, eq_true c_5, eq_true c_6, Bool.false_eq_true, if_true, if_false, reduceIte, true_and, and_true, false_and, and_false, true_or, or_true, false_or, or_false, not_true_eq_false, not_false_eq_true, decide_true, decide_false, Bool.true_and, Bool.and_true, Bool.false_and, Bool.and_false, Bool.not_true, Bool.not_false, Bool.or_false, Bool.false_or, Bool.or_true, Bool.true_or]
              exact ct_zret E hr (by decide) hk hS ⟨(by rw [e1]), hP⟩ dX5_isAim_90
            · refine lv_iconst (v := 1) hx hb dX5_isAim_85 (by decide) ?_
              refine lv_goto (tgt := 90) hx hb dX5_isAim_86 (by decide) ?_
              have e1 : (b2i (mIsAim M nR lf r f = true)) = 1 := by simp only [b2i, mIsAim, eq_true c_1, eq_false c_2, eq_false c_3, eq_true c_4, eq_true c_5, eq_false c_6, Bool.false_eq_true, if_true, if_false, reduceIte, true_and, and_true, false_and, and_false, true_or, or_true, false_or, or_false, not_true_eq_false, not_false_eq_true, decide_true, decide_false, Bool.true_and, Bool.and_true, Bool.false_and, Bool.and_false, Bool.not_true, Bool.not_false, Bool.or_false, Bool.false_or, Bool.or_true, Bool.true_or]
              exact ct_zret E hr (by decide) hk hS ⟨(by rw [e1]), hP⟩ dX5_isAim_90
      · refine lv_aload_n hx hb dX5_isAim_34 rfl (lv_at hl 0 rfl) ?_
        refine mga E hP 9 dX5_isAim_35 (kk := ?_)
        refine lv_iload_n hx hb dX5_isAim_38 rfl (lv_at hl 2 rfl) ?_
        refine mli E hP 9 r (v := M 9 r) dX5_isAim_39 rfl (show r < 30 by omega) rfl (kk := ?_)
        refine lv_iload_n hx hb dX5_isAim_40 rfl (lv_at hl 3 rfl) ?_
        refine lv_icmp_ne (tgt := 48) hx hb dX5_isAim_41 (by decide) (fun c_7 => ?_) (fun c_7 => ?_)
        · refine lv_iconst (v := 0) hx hb dX5_isAim_48 (by decide) ?_
          have e1 : (b2i (mIsAim M nR lf r f = true)) = 0 := by simp only [b2i, mIsAim, eq_true c_1, eq_false c_2, eq_true c_3, eq_false c_7, Bool.false_eq_true, if_true, if_false, reduceIte, true_and, and_true, false_and, and_false, true_or, or_true, false_or, or_false, not_true_eq_false, not_false_eq_true, decide_true, decide_false, Bool.true_and, Bool.and_true, Bool.false_and, Bool.and_false, Bool.not_true, Bool.not_false, Bool.or_false, Bool.false_or, Bool.or_true, Bool.true_or]
          exact ct_zret E hr (by decide) hk hS ⟨(by rw [e1]), hP⟩ dX5_isAim_49
        · refine lv_iconst (v := 1) hx hb dX5_isAim_44 (by decide) ?_
          refine lv_goto (tgt := 49) hx hb dX5_isAim_45 (by decide) ?_
          have e1 : (b2i (mIsAim M nR lf r f = true)) = 1 := by simp only [b2i, mIsAim, eq_true c_1, eq_false c_2, eq_true c_3, eq_true c_7, Bool.false_eq_true, if_true, if_false, reduceIte, true_and, and_true, false_and, and_false, true_or, or_true, false_or, or_false, not_true_eq_false, not_false_eq_true, decide_true, decide_false, Bool.true_and, Bool.and_true, Bool.false_and, Bool.and_false, Bool.not_true, Bool.not_false, Bool.or_false, Bool.false_or, Bool.or_true, Bool.true_or]
          exact ct_zret E hr (by decide) hk hS ⟨(by rw [e1]), hP⟩ dX5_isAim_49
    · refine lv_iconst (v := 0) hx hb dX5_isAim_21 (by decide) ?_
      have e1 : (b2i (mIsAim M nR lf r f = true)) = 0 := by simp only [b2i, mIsAim, eq_true c_1, eq_true c_2, Bool.false_eq_true, if_true, if_false, reduceIte, true_and, and_true, false_and, and_false, true_or, or_true, false_or, or_false, not_true_eq_false, not_false_eq_true, decide_true, decide_false, Bool.true_and, Bool.and_true, Bool.false_and, Bool.and_false, Bool.not_true, Bool.not_false, Bool.or_false, Bool.false_or, Bool.or_true, Bool.true_or]
      exact ct_zret E hr (by decide) hk hS ⟨(by rw [e1]), hP⟩ dX5_isAim_22

set_option maxHeartbeats 4000000 in
set_option maxRecDepth 100000 in
theorem c_X5_hasAim (l : Launch) (g : cG) (F : Nat → Prop) (o : Nat) (ad : Nat → Nat) (M : TT) (nR lf fa fb : Nat) (hi : Int32) (hR : M 14 0 = nI nR) (hR30 : nR ≤ 30) (hf3 : lf < 3) (hfa : fa < 20) (hfb : fb < 20) (hh : hi = nI fb - 1) : CT l yX5_hasAim cX5_hasAim 6 (some .boolean) 2 46 0 0 g F [.ref o, .int (nI lf), .int (nI fa), .int hi] (PM g F o ad M) (fun v9 H9 => v9 = some (.int (b2i (mHasAim M nR lf fa fb = true))) ∧ PM g F o ad M H9) := by
  refine CT.of (by decide) rfl ?_
  intro p e s m args below meth c E hr hk hnm hP ls hl
  have hS : va_S (nF F) s.heap s.heap [] := va_S.rf
  have hx := E.1
  have hb := E.2.1
  have hE_ml := E.2.2.1
  have hown := E.2.2.2.1
  have hts := E.2.2.2.2.1
  have hG := E.2.2.2.2.2
  have hl : lv_has ls 6 [(0, .ref o), (1, .int (nI lf)), (2, .int (nI fa)), (3, .int hi)] := hl
  refine lv_iload_n hx hb dX5_hasAim_0 rfl (lv_at hl 2 rfl) ?_
  refine lv_istore (lv' := [(4, .int (nI fa)), (0, .ref o), (1, .int (nI lf)), (2, .int (nI fa)), (3, .int hi)]) hx hb dX5_hasAim_1 hl (by decide) rfl (fun ls hl => ?_)
  have LA : ∀ (n9 j : Nat) , j ≤ (fb - fa) → (fb - fa) < j + n9 → (exB (fun j => exB (fun r => mIsAim M nR lf r (nI (fa + j))) nR) j = false) → ∀ (H : Heap) (locs : List Loc), va_S (nF F) s.heap H locs → PM g F o ad M H → ∀ (ls : Array Slot), lv_has ls 6 [(0, .ref o), (1, .int (nI lf)), (2, .int (nI fa)), (3, .int hi), (4, .int (nI (fa + j)))] → W p l e { frames := 2, cells := 0, slots := 0, locals := 46 } s m args below meth c H locs 0 0 (MQ below (Qg F (fun v9 H9 => v9 = some (.int (b2i (mHasAim M nR lf fa fb = true))) ∧ PM g F o ad M H9)) args s 0 0 (nF F)) (F0 m 3 ls []) := by
    intro n9
    induction n9 with
    | zero => intro j  hi9 hn9; exact absurd hn9 (by omega)
    | succ n9 ihLA =>
      intro j  hi_LA hn_LA hno H locs hS hP ls hl
      refine lv_iload hx hb dX5_hasAim_3 (lv_at hl 4 rfl) ?_
      refine lv_iload_n hx hb dX5_hasAim_5 rfl (lv_at hl 3 rfl) ?_
      refine lv_icmp_gt (tgt := 47) hx hb dX5_hasAim_6 (by decide) (fun c_1 => ?_) (fun c_1 => ?_)
      · have hj : fb ≤ fa + j := Nat.le_of_not_lt (fun h9 => absurd ((le_pred (by omega) (by omega)).mpr h9) (by rw [← hh]; exact Int32.not_le.mpr c_1))
        refine lv_iconst (v := 0) hx hb dX5_hasAim_47 (by decide) ?_
        have e1 : (b2i (mHasAim M nR lf fa fb = true)) = 0 := by exact b2i_f (by rw [mHasAim, show fb - fa = j by omega, hno]; decide)
        exact ct_zret E hr (by decide) hk hS ⟨(by rw [e1]), hP⟩ dX5_hasAim_48
      · have hj : fa + j < fb := (le_pred (by omega) (by omega)).mp (by rw [← hh]; exact Int32.not_lt.mp c_1)
        refine lv_iconst (v := 0) hx hb dX5_hasAim_9 (by decide) ?_
        refine lv_istore (lv' := [(5, .int 0), (0, .ref o), (1, .int (nI lf)), (2, .int (nI fa)), (3, .int hi), (4, .int (nI (fa + j)))]) hx hb dX5_hasAim_10 hl (by decide) rfl (fun ls hl => ?_)
        have LB : ∀ (n9 i : Nat) , i ≤ nR → nR < i + n9 → (exB (fun r => mIsAim M nR lf r (nI (fa + j))) i = false) → ∀ (H : Heap) (locs : List Loc), va_S (nF F) s.heap H locs → PM g F o ad M H → ∀ (ls : Array Slot), lv_has ls 6 [(0, .ref o), (1, .int (nI lf)), (2, .int (nI fa)), (3, .int hi), (4, .int (nI (fa + j))), (5, .int (nI i))] → W p l e { frames := 2, cells := 0, slots := 0, locals := 46 } s m args below meth c H locs 0 0 (MQ below (Qg F (fun v9 H9 => v9 = some (.int (b2i (mHasAim M nR lf fa fb = true))) ∧ PM g F o ad M H9)) args s 0 0 (nF F)) (F0 m 12 ls []) := by
          intro n9
          induction n9 with
          | zero => intro i  hi9 hn9; exact absurd hn9 (by omega)
          | succ n9 ihLB =>
            intro i  hi_LB hn_LB hno2 H locs hS hP ls hl
            refine lv_iload hx hb dX5_hasAim_12 (lv_at hl 5 rfl) ?_
            refine lv_aload_n hx hb dX5_hasAim_14 rfl (lv_at hl 0 rfl) ?_
            refine mg E hP 14 (v := (nI nR)) dX5_hasAim_15 hR (kk := ?_)
            refine lv_icmp_ge (tgt := 41) hx hb dX5_hasAim_18 (by decide) (fun c_2 => ?_) (fun c_2 => ?_)
            · have n_c_2 : nR ≤ i := (nI_leI (by omega) (by omega)).mp c_2
              refine lv_iinc (v := (nI ((fa + j) + 1))) (lv' := [(4, .int (nI ((fa + j) + 1))), (0, .ref o), (1, .int (nI lf)), (2, .int (nI fa)), (3, .int hi), (5, .int (nI i))]) hx hb dX5_hasAim_41 hl (k := 4) rfl (by rw [nI_succ]; rfl) (by decide) rfl (fun ls hl => ?_)
              refine lv_goto (tgt := 3) hx hb dX5_hasAim_44 (by decide) ?_
              exact ihLA (j + 1) (by omega) (by omega) (by simp only [exB, hno, Bool.false_or]; have e9 : i = nR := (by omega); rw [e9] at hno2; exact hno2) H locs hS hP ls (lv_sub hl [1, 2, 3, 4, 0] rfl)
            · have n_c_2 : i < nR := Nat.lt_of_not_le (fun h9 => c_2 (nI_le h9 (by omega)))
              refine lv_aload_n hx hb dX5_hasAim_21 rfl (lv_at hl 0 rfl) ?_
              refine lv_iload_n hx hb dX5_hasAim_22 rfl (lv_at hl 1 rfl) ?_
              refine lv_iload hx hb dX5_hasAim_23 (lv_at hl 5 rfl) ?_
              refine lv_iload hx hb dX5_hasAim_25 (lv_at hl 4 rfl) ?_
              refine ct_V E hS (c_X5_isAim l g F o ad M nR lf i (nI (fa + j)) hR (by omega) (by omega) (by omega)) ok_X5_isAim lk_X5_158 hP (PM.recv hG hP) rfl hl ⟨rfl, rfl⟩ rfl ⟨Nat.le_refl _, Nat.le_refl _⟩ dX5_hasAim_27 rfl (fun v9 H locs hv9 hS hz9 => ?_)
              obtain ⟨rfl, hP⟩ := hv9
              refine bz_eq (tgt := 35) hx hb dX5_hasAim_30 (by decide) (fun c_3 => ?_) (fun c_3 => ?_)
              · refine lv_iinc (v := (nI (i + 1))) (lv' := [(5, .int (nI (i + 1))), (0, .ref o), (1, .int (nI lf)), (2, .int (nI fa)), (3, .int hi), (4, .int (nI (fa + j)))]) hx hb dX5_hasAim_35 hl (k := 5) rfl (by rw [nI_succ]; rfl) (by decide) rfl (fun ls hl => ?_)
                refine lv_goto (tgt := 12) hx hb dX5_hasAim_38 (by decide) ?_
                exact ihLB (i + 1) (by omega) (by omega) (by simp only [exB, hno2, eq_false_of_ne_true c_3, Bool.false_or]) H locs hS hP ls (lv_sub hl [1, 2, 3, 4, 5, 0] rfl)
              · refine lv_iconst (v := 1) hx hb dX5_hasAim_33 (by decide) ?_
                have e1 : (b2i (mHasAim M nR lf fa fb = true)) = 1 := by exact b2i_t (exB_of (i := j) (by omega) (exB_of (i := i) (by omega) c_3))
                exact ct_zret E hr (by decide) hk hS ⟨(by rw [e1]), hP⟩ dX5_hasAim_34
        exact LB (nR + 1) 0 (Nat.zero_le _) (by omega) rfl _ _ hS hP ls (lv_sub hl [1, 2, 3, 4, 5, 0] rfl)
  exact LA ((fb - fa) + 1) 0 (Nat.zero_le _) (by omega) rfl _ _ hS hP ls (lv_sub hl [1, 2, 3, 4, 0] rfl)

set_option maxHeartbeats 4000000 in
set_option maxRecDepth 100000 in
theorem c_X5_goes (l : Launch) (g : cG) (F : Nat → Prop) (o : Nat) (ad : Nat → Nat) (M : TT) (nR lf w : Nat) (hR : M 14 0 = nI nR) (hR30 : nR ≤ 30) (hf3 : lf < 3) (hw : M 18 lf = nI w) (hw10 : w < 10) : CT l yX5_goes cX5_goes 4 none 3 71 0 0 g F [.ref o, .int (nI lf)] (PM g F o ad M) (fun v9 H9 => v9 = none ∧ PM g F o ad (mGoes M nR lf w) H9) := by
  refine CT.of (by decide) rfl ?_
  intro p e s m args below meth c E hr hk hnm hP ls hl
  have hS : va_S (nF F) s.heap s.heap [] := va_S.rf
  have hx := E.1
  have hb := E.2.1
  have hE_ml := E.2.2.1
  have hown := E.2.2.2.1
  have hts := E.2.2.2.2.1
  have hG := E.2.2.2.2.2
  have hl : lv_has ls 4 [(0, .ref o), (1, .int (nI lf))] := hl
  refine lv_aload_n hx hb dX5_goes_0 rfl (lv_at hl 0 rfl) ?_
  refine lv_iload_n hx hb dX5_goes_1 rfl (lv_at hl 1 rfl) ?_
  refine lv_aload_n hx hb dX5_goes_2 rfl (lv_at hl 0 rfl) ?_
  refine mga E hP 18 dX5_goes_3 (kk := ?_)
  refine lv_iload_n hx hb dX5_goes_6 rfl (lv_at hl 1 rfl) ?_
  refine mli E hP 18 lf (v := (nI w)) dX5_goes_7 rfl (show lf < 3 by omega) hw (kk := ?_)
  refine lv_iconst (v := 1) hx hb dX5_goes_8 (by decide) ?_
  refine lv_iadd hx hb dX5_goes_9 ?_
  refine W.eq (g2 := F0 m 10 ls [.int (nI (w + 1)), .int (nI lf), .ref o]) (by rw [nI_1]) ?_
  refine lv_bipush (v := 9) hx hb dX5_goes_10 (by decide) ?_
  refine ct_V E hS (c_X5_hasAim l g F o ad M nR lf (w + 1) 10 9 hR (by omega) (by omega) (by omega) (by omega) (by decide)) ok_X5_hasAim lk_X5_161 hP (PM.recv hG hP) rfl hl ⟨rfl, rfl⟩ rfl ⟨Nat.le_refl _, Nat.le_refl _⟩ dX5_goes_12 rfl (fun v9 H locs hv9 hS hz9 => ?_)
  obtain ⟨rfl, hP⟩ := hv9
  refine lv_istore_n (lv' := [(2, .int (b2i (mHasAim M nR lf (w + 1) 10 = true))), (0, .ref o), (1, .int (nI lf))]) hx hb dX5_goes_15 rfl hl (by decide) rfl (fun ls hl => ?_)
  refine lv_aload_n hx hb dX5_goes_16 rfl (lv_at hl 1 rfl) ?_
  refine lv_iload_n hx hb dX5_goes_17 rfl (lv_at hl 2 rfl) ?_
  refine lv_iconst (v := 0) hx hb dX5_goes_18 (by decide) ?_
  refine lv_aload_n hx hb dX5_goes_19 rfl (lv_at hl 1 rfl) ?_
  refine mga E hP 18 dX5_goes_20 (kk := ?_)
  refine lv_iload_n hx hb dX5_goes_23 rfl (lv_at hl 2 rfl) ?_
  refine mli E hP 18 lf (v := (nI w)) dX5_goes_24 rfl (show lf < 3 by omega) hw (kk := ?_)
  refine lv_iconst (v := 1) hx hb dX5_goes_25 (by decide) ?_
  refine lv_isub hx hb dX5_goes_26 ?_
  refine ct_V E hS (c_X5_hasAim l g F o ad M nR lf 0 w ((nI w) - 1) hR (by omega) (by omega) (by omega) (by omega) rfl) ok_X5_hasAim lk_X5_161 hP (PM.recv hG hP) rfl hl ⟨rfl, rfl⟩ rfl ⟨Nat.le_refl _, Nat.le_refl _⟩ dX5_goes_27 rfl (fun v9 H locs hv9 hS hz9 => ?_)
  obtain ⟨rfl, hP⟩ := hv9
  refine lv_istore_n (lv' := [(3, .int (b2i (mHasAim M nR lf 0 w = true))), (2, .int (b2i (mHasAim M nR lf (w + 1) 10 = true))), (0, .ref o), (1, .int (nI lf))]) hx hb dX5_goes_30 rfl hl (by decide) rfl (fun ls hl => ?_)
  refine lv_iload_n hx hb dX5_goes_31 rfl (lv_at hl 1 rfl) ?_
  refine bz_ne (tgt := 68) hx hb dX5_goes_32 (by decide) (fun c_1 => ?_) (fun c_1 => ?_)
  · refine lv_aload_n hx hb dX5_goes_68 rfl (lv_at hl 2 rfl) ?_
    refine mga E hP 21 dX5_goes_69 (kk := ?_)
    refine lv_iload_n hx hb dX5_goes_72 rfl (lv_at hl 3 rfl) ?_
    refine lv_aload_n hx hb dX5_goes_73 rfl (lv_at hl 2 rfl) ?_
    refine mga E hP 21 dX5_goes_74 (kk := ?_)
    refine lv_iload_n hx hb dX5_goes_77 rfl (lv_at hl 3 rfl) ?_
    refine mlz E hP 21 lf (v := M 21 lf) dX5_goes_78 rfl (show lf < 3 by omega) rfl (kk := ?_)
    refine lv_if_eq (tgt := 86) hx hb dX5_goes_79 (by decide) (fun c_2 => ?_) (fun c_2 => ?_)
    · refine lv_iload_n hx hb dX5_goes_86 rfl (lv_at hl 0 rfl) ?_
      refine bz_ne (tgt := 94) hx hb dX5_goes_87 (by decide) (fun c_3 => ?_) (fun c_3 => ?_)
      · refine lv_iconst (v := 0) hx hb dX5_goes_94 (by decide) ?_
        refine msz E hS hP 21 lf dX5_goes_95 rfl (show lf < 3 by omega) (by decide) (kk := fun H locs hS hP => ?_)
        refine lv_aload_n hx hb dX5_goes_96 rfl (lv_at hl 2 rfl) ?_
        refine mga E hP 18 dX5_goes_97 (kk := ?_)
        refine lv_iload_n hx hb dX5_goes_100 rfl (lv_at hl 3 rfl) ?_
        refine lv_dup2_11 hx hb dX5_goes_101 rfl rfl ?_
        refine mli E hP 18 lf (v := (nI w)) dX5_goes_102 rfl (show lf < 3 by omega) (by simp [tu, hw]) (kk := ?_)
        refine lv_aload_n hx hb dX5_goes_103 rfl (lv_at hl 2 rfl) ?_
        refine mga E hP 21 dX5_goes_104 (kk := ?_)
        refine lv_iload_n hx hb dX5_goes_107 rfl (lv_at hl 3 rfl) ?_
        refine mlz E hP 21 lf (v := 0) dX5_goes_108 rfl (show lf < 3 by omega) (by simp [tu]) (kk := ?_)
        refine lv_if_eq (tgt := 116) hx hb dX5_goes_109 (by decide) (fun c_4 => ?_) (fun c_4 => ?_)
        · refine lv_iconst (v := (-1)) hx hb dX5_goes_116 (by decide) ?_
          refine lv_iadd hx hb dX5_goes_117 ?_
          refine msi E hS hP 18 lf dX5_goes_118 rfl (show lf < 3 by omega) (kk := fun H locs hS hP => ?_)
          have e2 : (mGoes M nR lf w) = (tu (tu M 21 lf 0) 18 lf ((nI w) + (-1))) := by simp only [mGoes, mGo2, eq_true c_1, eq_true c_2, eq_true c_3, eq_true c_4, if_true, if_false, reduceIte, true_and, and_true, false_and, and_false, true_or, or_true, false_or, or_false, not_true_eq_false, not_false_eq_true, decide_true, decide_false, Bool.true_and, Bool.and_true, Bool.false_and, Bool.and_false, Bool.not_true, Bool.not_false, Bool.or_false, Bool.false_or, Bool.or_true, Bool.true_or]
          exact ct_vret E hr hk hS ⟨rfl, (by rw [e2]; exact hP)⟩ dX5_goes_119
        · exact absurd (by decide : (0 : Int32) = (0)) c_4
      · refine lv_iconst (v := 1) hx hb dX5_goes_90 (by decide) ?_
        refine lv_goto (tgt := 95) hx hb dX5_goes_91 (by decide) ?_
        refine msz E hS hP 21 lf dX5_goes_95 rfl (show lf < 3 by omega) (by decide) (kk := fun H locs hS hP => ?_)
        refine lv_aload_n hx hb dX5_goes_96 rfl (lv_at hl 2 rfl) ?_
        refine mga E hP 18 dX5_goes_97 (kk := ?_)
        refine lv_iload_n hx hb dX5_goes_100 rfl (lv_at hl 3 rfl) ?_
        refine lv_dup2_11 hx hb dX5_goes_101 rfl rfl ?_
        refine mli E hP 18 lf (v := (nI w)) dX5_goes_102 rfl (show lf < 3 by omega) (by simp [tu, hw]) (kk := ?_)
        refine lv_aload_n hx hb dX5_goes_103 rfl (lv_at hl 2 rfl) ?_
        refine mga E hP 21 dX5_goes_104 (kk := ?_)
        refine lv_iload_n hx hb dX5_goes_107 rfl (lv_at hl 3 rfl) ?_
        refine mlz E hP 21 lf (v := 1) dX5_goes_108 rfl (show lf < 3 by omega) (by simp [tu]) (kk := ?_)
        refine lv_if_eq (tgt := 116) hx hb dX5_goes_109 (by decide) (fun c_5 => ?_) (fun c_5 => ?_)
        · exact absurd c_5 (by decide)
        · refine lv_iconst (v := 1) hx hb dX5_goes_112 (by decide) ?_
          refine lv_goto (tgt := 117) hx hb dX5_goes_113 (by decide) ?_
          refine lv_iadd hx hb dX5_goes_117 ?_
          refine msi E hS hP 18 lf dX5_goes_118 rfl (show lf < 3 by omega) (kk := fun H locs hS hP => ?_)
          have e2 : (mGoes M nR lf w) = (tu (tu M 21 lf 1) 18 lf ((nI w) + 1)) := by simp only [mGoes, mGo2, eq_true c_1, eq_true c_2, eq_false c_3, eq_false c_5, if_true, if_false, reduceIte, true_and, and_true, false_and, and_false, true_or, or_true, false_or, or_false, not_true_eq_false, not_false_eq_true, decide_true, decide_false, Bool.true_and, Bool.and_true, Bool.false_and, Bool.and_false, Bool.not_true, Bool.not_false, Bool.or_false, Bool.false_or, Bool.or_true, Bool.true_or]
          exact ct_vret E hr hk hS ⟨rfl, (by rw [e2]; exact hP)⟩ dX5_goes_119
    · refine lv_iload_n hx hb dX5_goes_82 rfl (lv_at hl 1 rfl) ?_
      refine lv_goto (tgt := 95) hx hb dX5_goes_83 (by decide) ?_
      refine msz E hS hP 21 lf dX5_goes_95 rfl (show lf < 3 by omega) b2i_n (kk := fun H locs hS hP => ?_)
      refine lv_aload_n hx hb dX5_goes_96 rfl (lv_at hl 2 rfl) ?_
      refine mga E hP 18 dX5_goes_97 (kk := ?_)
      refine lv_iload_n hx hb dX5_goes_100 rfl (lv_at hl 3 rfl) ?_
      refine lv_dup2_11 hx hb dX5_goes_101 rfl rfl ?_
      refine mli E hP 18 lf (v := (nI w)) dX5_goes_102 rfl (show lf < 3 by omega) (by simp [tu, hw]) (kk := ?_)
      refine lv_aload_n hx hb dX5_goes_103 rfl (lv_at hl 2 rfl) ?_
      refine mga E hP 21 dX5_goes_104 (kk := ?_)
      refine lv_iload_n hx hb dX5_goes_107 rfl (lv_at hl 3 rfl) ?_
      refine mlz E hP 21 lf (v := (b2i (mHasAim M nR lf (w + 1) 10 = true))) dX5_goes_108 rfl (show lf < 3 by omega) (by simp [tu]) (kk := ?_)
      refine bz_eq (tgt := 116) hx hb dX5_goes_109 (by decide) (fun c_6 => ?_) (fun c_6 => ?_)
      · exact absurd c_1 c_6
      · refine lv_iconst (v := 1) hx hb dX5_goes_112 (by decide) ?_
        refine lv_goto (tgt := 117) hx hb dX5_goes_113 (by decide) ?_
        refine lv_iadd hx hb dX5_goes_117 ?_
        refine msi E hS hP 18 lf dX5_goes_118 rfl (show lf < 3 by omega) (kk := fun H locs hS hP => ?_)
        have e2 : (mGoes M nR lf w) = (tu (tu M 21 lf (b2i (mHasAim M nR lf (w + 1) 10 = true))) 18 lf ((nI w) + 1)) := by simp only [mGoes, mGo2, eq_true c_1, eq_false c_2, eq_true c_6, if_true, if_false, reduceIte, true_and, and_true, false_and, and_false, true_or, or_true, false_or, or_false, not_true_eq_false, not_false_eq_true, decide_true, decide_false, Bool.true_and, Bool.and_true, Bool.false_and, Bool.and_false, Bool.not_true, Bool.not_false, Bool.or_false, Bool.false_or, Bool.or_true, Bool.true_or]
        exact ct_vret E hr hk hS ⟨rfl, (by rw [e2]; exact hP)⟩ dX5_goes_119
  · refine lv_iload_n hx hb dX5_goes_35 rfl (lv_at hl 0 rfl) ?_
    refine bz_ne (tgt := 68) hx hb dX5_goes_36 (by decide) (fun c_7 => ?_) (fun c_7 => ?_)
    · refine lv_aload_n hx hb dX5_goes_68 rfl (lv_at hl 2 rfl) ?_
      refine mga E hP 21 dX5_goes_69 (kk := ?_)
      refine lv_iload_n hx hb dX5_goes_72 rfl (lv_at hl 3 rfl) ?_
      refine lv_aload_n hx hb dX5_goes_73 rfl (lv_at hl 2 rfl) ?_
      refine mga E hP 21 dX5_goes_74 (kk := ?_)
      refine lv_iload_n hx hb dX5_goes_77 rfl (lv_at hl 3 rfl) ?_
      refine mlz E hP 21 lf (v := M 21 lf) dX5_goes_78 rfl (show lf < 3 by omega) rfl (kk := ?_)
      refine lv_if_eq (tgt := 86) hx hb dX5_goes_79 (by decide) (fun c_8 => ?_) (fun c_8 => ?_)
      · refine lv_iload_n hx hb dX5_goes_86 rfl (lv_at hl 0 rfl) ?_
        refine bz_ne (tgt := 94) hx hb dX5_goes_87 (by decide) (fun c_9 => ?_) (fun c_9 => ?_)
        · refine lv_iconst (v := 0) hx hb dX5_goes_94 (by decide) ?_
          refine msz E hS hP 21 lf dX5_goes_95 rfl (show lf < 3 by omega) (by decide) (kk := fun H locs hS hP => ?_)
          refine lv_aload_n hx hb dX5_goes_96 rfl (lv_at hl 2 rfl) ?_
          refine mga E hP 18 dX5_goes_97 (kk := ?_)
          refine lv_iload_n hx hb dX5_goes_100 rfl (lv_at hl 3 rfl) ?_
          refine lv_dup2_11 hx hb dX5_goes_101 rfl rfl ?_
          refine mli E hP 18 lf (v := (nI w)) dX5_goes_102 rfl (show lf < 3 by omega) (by simp [tu, hw]) (kk := ?_)
          refine lv_aload_n hx hb dX5_goes_103 rfl (lv_at hl 2 rfl) ?_
          refine mga E hP 21 dX5_goes_104 (kk := ?_)
          refine lv_iload_n hx hb dX5_goes_107 rfl (lv_at hl 3 rfl) ?_
          refine mlz E hP 21 lf (v := 0) dX5_goes_108 rfl (show lf < 3 by omega) (by simp [tu]) (kk := ?_)
          refine lv_if_eq (tgt := 116) hx hb dX5_goes_109 (by decide) (fun c_10 => ?_) (fun c_10 => ?_)
          · refine lv_iconst (v := (-1)) hx hb dX5_goes_116 (by decide) ?_
            refine lv_iadd hx hb dX5_goes_117 ?_
            refine msi E hS hP 18 lf dX5_goes_118 rfl (show lf < 3 by omega) (kk := fun H locs hS hP => ?_)
            have e2 : (mGoes M nR lf w) = (tu (tu M 21 lf 0) 18 lf ((nI w) + (-1))) := by simp only [mGoes, mGo2, eq_false c_1, eq_true c_7, eq_true c_8, eq_true c_9, eq_true c_10, if_true, if_false, reduceIte, true_and, and_true, false_and, and_false, true_or, or_true, false_or, or_false, not_true_eq_false, not_false_eq_true, decide_true, decide_false, Bool.true_and, Bool.and_true, Bool.false_and, Bool.and_false, Bool.not_true, Bool.not_false, Bool.or_false, Bool.false_or, Bool.or_true, Bool.true_or]
            exact ct_vret E hr hk hS ⟨rfl, (by rw [e2]; exact hP)⟩ dX5_goes_119
          · exact absurd (by decide : (0 : Int32) = (0)) c_10
        · exact absurd c_7 c_9
      · refine lv_iload_n hx hb dX5_goes_82 rfl (lv_at hl 1 rfl) ?_
        refine lv_goto (tgt := 95) hx hb dX5_goes_83 (by decide) ?_
        refine msz E hS hP 21 lf dX5_goes_95 rfl (show lf < 3 by omega) b2i_n (kk := fun H locs hS hP => ?_)
        refine lv_aload_n hx hb dX5_goes_96 rfl (lv_at hl 2 rfl) ?_
        refine mga E hP 18 dX5_goes_97 (kk := ?_)
        refine lv_iload_n hx hb dX5_goes_100 rfl (lv_at hl 3 rfl) ?_
        refine lv_dup2_11 hx hb dX5_goes_101 rfl rfl ?_
        refine mli E hP 18 lf (v := (nI w)) dX5_goes_102 rfl (show lf < 3 by omega) (by simp [tu, hw]) (kk := ?_)
        refine lv_aload_n hx hb dX5_goes_103 rfl (lv_at hl 2 rfl) ?_
        refine mga E hP 21 dX5_goes_104 (kk := ?_)
        refine lv_iload_n hx hb dX5_goes_107 rfl (lv_at hl 3 rfl) ?_
        refine mlz E hP 21 lf (v := (b2i (mHasAim M nR lf (w + 1) 10 = true))) dX5_goes_108 rfl (show lf < 3 by omega) (by simp [tu]) (kk := ?_)
        refine bz_eq (tgt := 116) hx hb dX5_goes_109 (by decide) (fun c_11 => ?_) (fun c_11 => ?_)
        · refine lv_iconst (v := (-1)) hx hb dX5_goes_116 (by decide) ?_
          refine lv_iadd hx hb dX5_goes_117 ?_
          refine msi E hS hP 18 lf dX5_goes_118 rfl (show lf < 3 by omega) (kk := fun H locs hS hP => ?_)
          have e2 : (mGoes M nR lf w) = (tu (tu M 21 lf (b2i (mHasAim M nR lf (w + 1) 10 = true))) 18 lf ((nI w) + (-1))) := by simp only [mGoes, mGo2, eq_false c_1, eq_true c_7, eq_false c_8, eq_false c_11, if_true, if_false, reduceIte, true_and, and_true, false_and, and_false, true_or, or_true, false_or, or_false, not_true_eq_false, not_false_eq_true, decide_true, decide_false, Bool.true_and, Bool.and_true, Bool.false_and, Bool.and_false, Bool.not_true, Bool.not_false, Bool.or_false, Bool.false_or, Bool.or_true, Bool.true_or]
          exact ct_vret E hr hk hS ⟨rfl, (by rw [e2]; exact hP)⟩ dX5_goes_119
        · exact absurd c_11 c_1
    · refine lv_aload_n hx hb dX5_goes_39 rfl (lv_at hl 2 rfl) ?_
      refine mga E hP 20 dX5_goes_40 (kk := ?_)
      refine lv_iload_n hx hb dX5_goes_43 rfl (lv_at hl 3 rfl) ?_
      refine mlc E hP 20 lf (v := M 20 lf) dX5_goes_44 rfl (show lf < 3 by omega) rfl (kk := ?_)
      refine lv_bipush (v := 111) hx hb dX5_goes_45 (by decide) ?_
      refine lv_icmp_eq (tgt := 51) hx hb dX5_goes_47 (by decide) (fun c_12 => ?_) (fun c_12 => ?_)
      · refine lv_aload_n hx hb dX5_goes_51 rfl (lv_at hl 2 rfl) ?_
        refine mga E hP 20 dX5_goes_52 (kk := ?_)
        refine lv_iload_n hx hb dX5_goes_55 rfl (lv_at hl 3 rfl) ?_
        refine lv_bipush (v := 99) hx hb dX5_goes_56 (by decide) ?_
        refine msc E hS hP 20 lf dX5_goes_58 rfl (show lf < 3 by omega) (by decide) (kk := fun H locs hS hP => ?_)
        refine lv_aload_n hx hb dX5_goes_59 rfl (lv_at hl 2 rfl) ?_
        refine mga E hP 19 dX5_goes_60 (kk := ?_)
        refine lv_iload_n hx hb dX5_goes_63 rfl (lv_at hl 3 rfl) ?_
        refine lv_bipush (v := 20) hx hb dX5_goes_64 (by decide) ?_
        refine msi E hS hP 19 lf dX5_goes_66 rfl (show lf < 3 by omega) (kk := fun H locs hS hP => ?_)
        have e2 : (mGoes M nR lf w) = (tu (tu M 20 lf 99) 19 lf 20) := by simp only [mGoes, mGo2, eq_false c_1, eq_false c_7, eq_true c_12, if_true, if_false, reduceIte, true_and, and_true, false_and, and_false, true_or, or_true, false_or, or_false, not_true_eq_false, not_false_eq_true, decide_true, decide_false, Bool.true_and, Bool.and_true, Bool.false_and, Bool.and_false, Bool.not_true, Bool.not_false, Bool.or_false, Bool.false_or, Bool.or_true, Bool.true_or]
        exact ct_vret E hr hk hS ⟨rfl, (by rw [e2]; exact hP)⟩ dX5_goes_67
      · have e2 : (mGoes M nR lf w) = M := by simp only [mGoes, mGo2, eq_false c_1, eq_false c_7, eq_false c_12, if_true, if_false, reduceIte, true_and, and_true, false_and, and_false, true_or, or_true, false_or, or_false, not_true_eq_false, not_false_eq_true, decide_true, decide_false, Bool.true_and, Bool.and_true, Bool.false_and, Bool.and_false, Bool.not_true, Bool.not_false, Bool.or_false, Bool.false_or, Bool.or_true, Bool.true_or]
        exact ct_vret E hr hk hS ⟨rfl, (by rw [e2]; exact hP)⟩ dX5_goes_50

set_option maxHeartbeats 4000000 in
set_option maxRecDepth 100000 in
theorem c_X5_works (l : Launch) (g : cG) (F : Nat → Prop) (o : Nat) (ad : Nat → Nat) (M : TT) (nR lf w : Nat) (hR : M 14 0 = nI nR) (hR30 : nR ≤ 30) (hf3 : lf < 3) (hw : M 18 lf = nI w) (hw10 : w < 10) (hBd : ∀ r, r < nR → ∃ q, q < 8 ∧ M 7 r = nI q) : CT l yX5_works cX5_works 2 none 4 94 0 0 g F [.ref o, .int (nI lf)] (PM g F o ad M) (fun v9 H9 => v9 = none ∧ PM g F o ad (mWorks M nR lf) H9) := by
  refine CT.of (by decide) rfl ?_
  intro p e s m args below meth c E hr hk hnm hP ls hl
  have hS : va_S (nF F) s.heap s.heap [] := va_S.rf
  have hx := E.1
  have hb := E.2.1
  have hE_ml := E.2.2.1
  have hown := E.2.2.2.1
  have hts := E.2.2.2.2.1
  have hG := E.2.2.2.2.2
  have hl : lv_has ls 2 [(0, .ref o), (1, .int (nI lf))] := hl
  refine lv_aload_n hx hb dX5_works_0 rfl (lv_at hl 0 rfl) ?_
  refine mga E hP 20 dX5_works_1 (kk := ?_)
  refine lv_iload_n hx hb dX5_works_4 rfl (lv_at hl 1 rfl) ?_
  refine mlc E hP 20 lf (v := M 20 lf) dX5_works_5 rfl (show lf < 3 by omega) rfl (kk := ?_)
  refine lv_bipush (v := 99) hx hb dX5_works_6 (by decide) ?_
  refine lv_icmp_ne (tgt := 41) hx hb dX5_works_8 (by decide) (fun c_1 => ?_) (fun c_1 => ?_)
  · refine lv_aload_n hx hb dX5_works_41 rfl (lv_at hl 0 rfl) ?_
    refine lv_iload_n hx hb dX5_works_42 rfl (lv_at hl 1 rfl) ?_
    refine ct_V E hS (c_X5_opens l g F o ad M nR lf w hR (by omega) (by omega) hw (by omega) (by exact hBd)) ok_X5_opens lk_X5_164 hP (PM.recv hG hP) rfl hl ⟨rfl, rfl⟩ rfl ⟨Nat.le_refl _, Nat.le_refl _⟩ dX5_works_43 rfl (fun v9 H locs hv9 hS hz9 => ?_)
    obtain ⟨rfl, hP⟩ := hv9
    refine lv_if_eq (tgt := 62) hx hb dX5_works_46 (by decide) (fun c_2 => ?_) (fun c_2 => ?_)
    · refine lv_aload_n hx hb dX5_works_62 rfl (lv_at hl 0 rfl) ?_
      refine lv_iload_n hx hb dX5_works_63 rfl (lv_at hl 1 rfl) ?_
      refine ct_V E hS (c_X5_goes l g F o ad ((mOpens M nR lf).1) nR lf w ((congrFun (mOpens_k rfl) _).trans hR) (by omega) (by omega) ((congrFun (mOpens_k rfl) _).trans hw) (by omega)) ok_X5_goes lk_X5_169 hP (PM.recv hG hP) rfl hl ⟨rfl, rfl⟩ rfl ⟨Nat.le_refl _, Nat.le_refl _⟩ dX5_works_64 rfl (fun v9 H locs hv9 hS hz9 => ?_)
      obtain ⟨rfl, hP⟩ := hv9
      have e2 : (mWorks M nR lf) = mGoes ((mOpens M nR lf).1) nR lf w := by simp only [mWorks, hw, nI_clamp (show w < 2 ^ 31 by omega), eq_false c_1, eq_true c_2, if_true, if_false, reduceIte, true_and, and_true, false_and, and_false, true_or, or_true, false_or, or_false, not_true_eq_false, not_false_eq_true, decide_true, decide_false, Bool.true_and, Bool.and_true, Bool.false_and, Bool.and_false, Bool.not_true, Bool.not_false, Bool.or_false, Bool.false_or, Bool.or_true, Bool.true_or]
      exact ct_vret E hr hk hS ⟨rfl, (by rw [e2]; exact hP)⟩ dX5_works_67
    · refine lv_aload_n hx hb dX5_works_49 rfl (lv_at hl 0 rfl) ?_
      refine lv_dup hx hb dX5_works_50 rfl ?_
      refine mg E hP 24 (v := ((mOpens M nR lf).1) 24 0) dX5_works_51 rfl (kk := ?_)
      refine lv_iconst (v := 1) hx hb dX5_works_54 (by decide) ?_
      refine lv_iadd hx hb dX5_works_55 ?_
      refine mp E hS hP 24 dX5_works_56 rfl (kk := fun H locs hS hP => ?_)
      refine lv_goto (tgt := 67) hx hb dX5_works_59 (by decide) ?_
      have e2 : (mWorks M nR lf) = (tu ((mOpens M nR lf).1) 24 0 ((((mOpens M nR lf).1) 24 0) + 1)) := by simp only [mWorks, hw, nI_clamp (show w < 2 ^ 31 by omega), eq_false c_1, eq_false c_2, if_true, if_false, reduceIte, true_and, and_true, false_and, and_false, true_or, or_true, false_or, or_false, not_true_eq_false, not_false_eq_true, decide_true, decide_false, Bool.true_and, Bool.and_true, Bool.false_and, Bool.and_false, Bool.not_true, Bool.not_false, Bool.or_false, Bool.false_or, Bool.or_true, Bool.true_or]
      exact ct_vret E hr hk hS ⟨rfl, (by rw [e2]; exact hP)⟩ dX5_works_67
  · refine lv_aload_n hx hb dX5_works_11 rfl (lv_at hl 0 rfl) ?_
    refine mga E hP 19 dX5_works_12 (kk := ?_)
    refine lv_iload_n hx hb dX5_works_15 rfl (lv_at hl 1 rfl) ?_
    refine lv_dup2_11 hx hb dX5_works_16 rfl rfl ?_
    refine mli E hP 19 lf (v := M 19 lf) dX5_works_17 rfl (show lf < 3 by omega) rfl (kk := ?_)
    refine lv_iconst (v := 1) hx hb dX5_works_18 (by decide) ?_
    refine lv_isub hx hb dX5_works_19 ?_
    refine msi E hS hP 19 lf dX5_works_20 rfl (show lf < 3 by omega) (kk := fun H locs hS hP => ?_)
    refine lv_aload_n hx hb dX5_works_21 rfl (lv_at hl 0 rfl) ?_
    refine mga E hP 19 dX5_works_22 (kk := ?_)
    refine lv_iload_n hx hb dX5_works_25 rfl (lv_at hl 1 rfl) ?_
    refine mli E hP 19 lf (v := (M 19 lf) - 1) dX5_works_26 rfl (show lf < 3 by omega) (by simp [tu]) (kk := ?_)
    refine lv_if_ne (tgt := 67) hx hb dX5_works_27 (by decide) (fun c_3 => ?_) (fun c_3 => ?_)
    · have e2 : (mWorks M nR lf) = (tu M 19 lf ((M 19 lf) - 1)) := by simp only [mWorks, hw, nI_clamp (show w < 2 ^ 31 by omega), eq_true c_1, eq_false c_3, if_true, if_false, reduceIte, true_and, and_true, false_and, and_false, true_or, or_true, false_or, or_false, not_true_eq_false, not_false_eq_true, decide_true, decide_false, Bool.true_and, Bool.and_true, Bool.false_and, Bool.and_false, Bool.not_true, Bool.not_false, Bool.or_false, Bool.false_or, Bool.or_true, Bool.true_or]
      exact ct_vret E hr hk hS ⟨rfl, (by rw [e2]; exact hP)⟩ dX5_works_67
    · refine lv_aload_n hx hb dX5_works_30 rfl (lv_at hl 0 rfl) ?_
      refine mga E hP 20 dX5_works_31 (kk := ?_)
      refine lv_iload_n hx hb dX5_works_34 rfl (lv_at hl 1 rfl) ?_
      refine lv_bipush (v := 115) hx hb dX5_works_35 (by decide) ?_
      refine msc E hS hP 20 lf dX5_works_37 rfl (show lf < 3 by omega) (by decide) (kk := fun H locs hS hP => ?_)
      refine lv_goto (tgt := 67) hx hb dX5_works_38 (by decide) ?_
      have e2 : (mWorks M nR lf) = (tu (tu M 19 lf ((M 19 lf) - 1)) 20 lf 115) := by simp only [mWorks, hw, nI_clamp (show w < 2 ^ 31 by omega), eq_true c_1, eq_true c_3, if_true, if_false, reduceIte, true_and, and_true, false_and, and_false, true_or, or_true, false_or, or_false, not_true_eq_false, not_false_eq_true, decide_true, decide_false, Bool.true_and, Bool.and_true, Bool.false_and, Bool.and_false, Bool.not_true, Bool.not_false, Bool.or_false, Bool.false_or, Bool.or_true, Bool.true_or]
      exact ct_vret E hr hk hS ⟨rfl, (by rw [e2]; exact hP)⟩ dX5_works_67
