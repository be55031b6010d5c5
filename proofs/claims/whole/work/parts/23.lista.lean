set_option maxRecDepth 100000 in
theorem sf_mod : Cond.sameField RJx4a65c "java/util/AbstractList" "modCount" "I" ∈ lw_g := lw_gi 111 rfl rfl
section ALM
variable {p : Program} {l : Launch} {e : Env} {R : Room} {s : State} {m : MethodId} {args : Array Value} {below : List Frame} {meth : Method} {c : Code} {H : Heap} {locs : List Loc} {cells slots : Nat} {Q : State → Prop}
variable {cc : ByteArray} {pc nL : Nat} {ls : Array Slot} {rest : List Value} {own : String} {g : cG} {F : Nat → Prop} {H0 : Heap} {a q n : Nat} {md : Int32}
theorem w_putS (E : EN p s m c cc nL args own g F) {C ref : String} {T : u_T} {N ci index : Nat} (hin : ∀ w ∈ u_ws C T N, w ∈ lw_g) (ty0 : Nat → FieldType) (hty : ∀ k, k < N → parseFieldDescriptor (T k).2.2.1 = some (ty0 k)) (hnm : ∀ a, a < N → ∀ b, b < N → a ≠ b → (T a).2.1 ≠ (T b).2.1) (hS0 : va_S (nF F) H0 H locs) {fs : List Value} (he : va_at g.1 vwCl (a, .inr (ci, fs)) H) (ha : ¬ F a) (hc : vwCl[ci]? = some (C, T, N)) (k : Nat) (hk : k < N) (hsame : ∀ x, s.fieldFound? (T k).1 (T k).2.1 (T k).2.2.1 = some x → s.fieldFound? ref (T k).2.1 (T k).2.2.1 = some x) (hlink : Cond.fieldLink own index ref (T k).2.1 (T k).2.2.1 ∈ lw_g) (hfin : (T k).2.2.2 = false) {v : Value} (hn : narrow (ty0 k) v = v) (hfit : fits (ty0 k) v = true) (hl : k < fs.length)
    (hdg : decode cc pc = .ok (.putfield index, 3)) (kk : ∀ (H1 : Heap) (locs1 : List Loc), va_at g.1 vwCl (a, .inr (ci, fs.set k v)) H1 → H1.size = H.size → (∀ q, q ≠ a → H1[q]? = H[q]?) → va_S (nF F) H0 H1 locs1 → W p l e R s m args below meth c H1 locs1 cells slots Q (F0 m (pc + 3) ls rest)) : W p l e R s m args below meth c H locs cells slots Q (F0 m pc ls (v :: .ref a :: rest)) := by
  obtain ⟨hexec, hb, -, hown, hts, hK, -⟩ := E
  have hap := va_apart (own := own) hts hin ty0 hty hnm hK hc
  obtain ⟨r, h1, cell, q1, q2, q3, q4⟩ := he
  have hr : r = (C, T, N) := Option.some.inj (h1.symm.trans hc)
  subst hr
  obtain ⟨hS, hfc, kC, hkC, hkind⟩ := hK.1 ci _ hc
  obtain ⟨cf, kf, fi, f, hi, hsl⟩ := hS k hk
  have hlay := hts _ (hin _ (u_in_lay hk))
  unfold u_lay at hlay
  rw [if_neg (by rw [hfin]; decide)] at hlay
  have hst := (u_facts hfc hkC (u_lays hts hin hk) hi).1
  have h6 := u_store hfc hkC hkind hlay hi (hty k hk) hn hfit
  refine W.putK hexec hb (f := f) ⟨hown, hts _ hlink, ⟨_, _, _, hsame _ hi⟩, hst⟩ (by rw [q2]; exact h6) q1 q3 (by rw [hsl]; exact k2_hasslot (q4 k hk)) rfl rfl hdg fun H' e1 e2 e3 => ?_
  rw [hsl] at e1 ⊢
  exact kk H' _ ⟨_, hc, t_OB.to (V := updV (vp_V fs) k v) ⟨_, e1, q2, q3, t_set q4 hap hk v⟩ (fun j _ => vp_updV_set hl v j)⟩ e2 e3 (hS0.put e2 e3 ha)
theorem al_mget (E : EN p s m c cc nL args RJx4a65c g F) (h : va_at g.1 vwCl (a, alO md q n) H) (hd : decode cc pc = .ok (.getfield 63, 3))
    (kk : W p l e R s m args below meth c H locs cells slots Q (F0 m (pc + 3) ls (.int md :: rest))) : W p l e R s m args below meth c H locs cells slots Q (F0 m pc ls (.ref a :: rest)) :=
  va_get (ref := RJx4a65c) (C := RJx4a65c) (T := TJx4a65c) (N := 3) (ci := 2) E.1 E.2.1 E.2.2.2.2.1 ly_Jx4a65c E.2.2.2.1 E.2.2.2.2.2.1 (va_P1 h) 0 rfl rfl 0 (by decide) (E.2.2.2.2.1 _ fk_Jx4a65c_63) (u_same (E.2.2.2.2.1 _ sf_mod)) rfl hd kk
theorem al_mput (E : EN p s m c cc nL args RJx4a65c g F) (hS : va_S (nF F) H0 H locs) (h : va_at g.1 vwCl (a, alO md q n) H) (ha : ¬ F a) {v : Int32} (hd : decode cc pc = .ok (.putfield 63, 3))
    (kk : ∀ (H1 : Heap) (locs1 : List Loc), va_at g.1 vwCl (a, alO v q n) H1 → H1.size = H.size → (∀ q, q ≠ a → H1[q]? = H[q]?) → va_S (nF F) H0 H1 locs1 → W p l e R s m args below meth c H1 locs1 cells slots Q (F0 m (pc + 3) ls rest)) : W p l e R s m args below meth c H locs cells slots Q (F0 m pc ls (.int v :: .ref a :: rest)) :=
  w_putS E (C := RJx4a65c) (T := TJx4a65c) (N := 3) (ci := 2) ly_Jx4a65c tyJx4a65c tyJx4a65c_ok nmJx4a65c hS h ha rfl 0 (by decide) (u_same (E.2.2.2.2.1 _ sf_mod)) fk_Jx4a65c_63 rfl rfl rfl (by decide : 0 < 3) hd kk
theorem al_qput (E : EN p s m c cc nL args RJx4a65c g F) (hS : va_S (nF F) H0 H locs) (h : va_at g.1 vwCl (a, alO md q n) H) (ha : ¬ F a) {v : Nat} (hd : decode cc pc = .ok (.putfield 9, 3))
    (kk : ∀ (H1 : Heap) (locs1 : List Loc), va_at g.1 vwCl (a, alO md v n) H1 → H1.size = H.size → (∀ q, q ≠ a → H1[q]? = H[q]?) → va_S (nF F) H0 H1 locs1 → W p l e R s m args below meth c H1 locs1 cells slots Q (F0 m (pc + 3) ls rest)) : W p l e R s m args below meth c H locs cells slots Q (F0 m pc ls (.ref v :: .ref a :: rest)) :=
  w_put E (C := RJx4a65c) (T := TJx4a65c) (N := 3) (ci := 2) ly_Jx4a65c tyJx4a65c tyJx4a65c_ok nmJx4a65c hS h ha rfl 1 (by decide) rfl fk_Jx4a65c_9 rfl rfl rfl (by decide : 1 < 3) hd kk
theorem al_nput (E : EN p s m c cc nL args RJx4a65c g F) (hS : va_S (nF F) H0 H locs) (h : va_at g.1 vwCl (a, alO md q n) H) (ha : ¬ F a) {v : Nat} (hd : decode cc pc = .ok (.putfield 48, 3))
    (kk : ∀ (H1 : Heap) (locs1 : List Loc), va_at g.1 vwCl (a, alO md q v) H1 → H1.size = H.size → (∀ q, q ≠ a → H1[q]? = H[q]?) → va_S (nF F) H0 H1 locs1 → W p l e R s m args below meth c H1 locs1 cells slots Q (F0 m (pc + 3) ls rest)) : W p l e R s m args below meth c H locs cells slots Q (F0 m pc ls (.int (nI v) :: .ref a :: rest)) :=
  w_put E (C := RJx4a65c) (T := TJx4a65c) (N := 3) (ci := 2) ly_Jx4a65c tyJx4a65c tyJx4a65c_ok nmJx4a65c hS h ha rfl 2 (by decide) rfl fk_Jx4a65c_48 rfl rfl rfl (by decide : 2 < 3) hd kk
theorem w_newq (E : EN p s m c cc nL args own g F) {index : Nat} (hclink : Cond.classLink own index "java/lang/Object" ∈ lw_g) (hS : va_S (nF F) H0 H locs) {n : Int32} {N' : Nat} (hn : ¬ n < 0) (hN : n.toNatClampNeg = N') (hbytes : N' * 4 ≤ 536870912) (hcells : cells + 1 ≤ R.cells) (hslots : slots + N' ≤ R.slots) (hdg : decode cc pc = .ok (.anewarray index, 3))
    (kk : ∀ (H1 : Heap), va_at g.1 vwCl (H.size, alA g N' (fun _ => none)) H1 → H1.size = H.size + 1 → (∀ q, q < H.size → H1[q]? = H[q]?) → va_S (nF F) H0 H1 locs →
      W p l e R s m args below meth c H1 locs (cells + 1) (slots + N') Q (F0 m (pc + 3) ls (.ref H.size :: rest))) : W p l e R s m args below meth c H locs cells slots Q (F0 m pc ls (.int n :: rest)) := by
  subst hN
  have hG := E.2.2.2.2.2
  refine W.anew E.1 E.2.1 E.2.2.2.1 (E.2.2.2.2.1 _ hclink) (va_AO.use hG.2.2.2.2.2.2.2.2.2.1) rfl hdg rfl hn hbytes hcells hslots fun cA kA comp f1 f2 f3 f4 => ?_
  generalize hH1 : H.push ({ cls := cA, slots := Array.replicate n.toNatClampNeg .null, vm := .none } : Cell) = H1
  have z1 : H1.size = H.size + 1 := by rw [← hH1, Array.size_push]
  have e1 : H1[H.size]? = some (arrV cA n.toNatClampNeg (fun _ => .null)) := by rw [← hH1, Array.getElem?_push_size, ← arrV_new]
  have o1 : ∀ q : Nat, q < H.size → H1[q]? = H[q]? := fun q hq => by rw [← hH1, Array.getElem?_push, if_neg (Nat.ne_of_lt hq)]
  have hcA : cA = g.2.1 3 := by
    have a2 := va_nmO (hG.1.2 3 _ rfl).2 (nm := "[" ++ (FieldType.object "java/lang/Object").toString) rfl
    exact Option.some.inj (f1.symm.trans a2)
  subst hcA
  refine kk H1 ?_ z1 o1 ⟨Nat.le_trans hS.1 (by omega), fun x h1 h2 => (o1 x (Nat.lt_of_lt_of_le h1 hS.1)).trans (hS.2.1 x h1 h2), hS.2.2⟩
  show H1[H.size]? = some (vp_cell _ _)
  rw [vp_cell_q]
  exact e1
theorem w_new {C : String} {T : u_T} {N ci index : Nat} (E : EN p s m c cc nL args own g F) (hin : ∀ w ∈ u_ws C T N, w ∈ lw_g) (ty : Nat → FieldType) (hty : ∀ k, k < N → parseFieldDescriptor (T k).2.2.1 = some (ty k)) (hcl : Cond.classLink own index C ∈ lw_g) (hinst : Cond.instantiable C N ∈ lw_g) (hini : Cond.initialized C ∈ lw_g) (hc : vwCl[ci]? = some (C, T, N)) (hS : va_S (nF F) H0 H locs) {fs : List Value} (hfs : ∀ j, j < N → defaultValue (ty j) = vp_V fs j) (hcells : cells + 1 ≤ R.cells) (hslots : slots + N ≤ R.slots) (hdg : decode cc pc = .ok (.new index, 3))
    (kk : ∀ (H1 : Heap), va_at g.1 vwCl (H.size, .inr (ci, fs)) H1 → H1.size = H.size + 1 → (∀ q, q < H.size → H1[q]? = H[q]?) → va_S (nF F) H0 H1 locs →
      W p l e R s m args below meth c H1 locs (cells + 1) (slots + N) Q (F0 m (pc + 3) ls (.ref H.size :: rest))) : W p l e R s m args below meth c H locs cells slots Q (F0 m pc ls rest) := by
  have hts := E.2.2.2.2.1
  have hKn := E.2.2.2.2.2.1.1 ci _ hc
  refine W.newcK E.1 E.2.1 E.2.2.2.1 (hts _ hcl) (hts _ hinst) (hts _ hini) rfl hdg hcells hslots hKn.2.1 rfl fun H1 kC hkC e1 z1 o1 => ?_
  exact kk H1 ⟨_, hc, (u_born ty hts hin hKn hkC e1 hty).to hfs⟩ z1 o1 ⟨Nat.le_trans hS.1 (by omega), fun x h1 h2 => (o1 x (Nat.lt_of_lt_of_le h1 hS.1)).trans (hS.2.1 x h1 h2), hS.2.2⟩
end ALM
theorem va_D1 {A : Nat → Prop} {x : Nat} {e : va_E} (h : A x) : va_D A [(x, e)] := ⟨fun i j x y hi hj _ => by
    have a1 := (List.getElem?_eq_some_iff.mp hi).1
    have a2 := (List.getElem?_eq_some_iff.mp hj).1
    simp at a1 a2; omega, fun k x hx9 => by
    have a1 := (List.getElem?_eq_some_iff.mp hx9).1
    simp at a1; subst a1; cases hx9; exact h⟩
set_option maxHeartbeats 4000000 in
set_option maxRecDepth 100000 in
theorem c_AL_growA (l : Launch) (g : cG) (F : Nat → Prop) (a q n sz : Nat) (md : Int32) (f : Nat → Option Nat) (hF : ∀ x, F x → x < sz) (ha : ¬ F a) (hq : ¬ F q) (haq : a ≠ q) (h0 : 0 < n) (hn : n ≤ 100) : CT l yJx4a65c_grow_92f84 cJx4a65c_grow_92f84 4 (some (.array (.object "java/lang/Object"))) 3 105 1 150 g F [.ref a, .int (nI (n + 1))] (fun H => H.size = sz ∧ va_at g.1 vwCl (a, alO md q n) H ∧ va_at g.1 vwCl (q, alA g n f) H ∧ ∀ i, i < n → ∀ y, f i = some y → AO g y H ∧ y ≠ q) (fun v H => ∃ q1 : Nat, v = some (.ref q1) ∧ sz ≤ q1 ∧ va_at g.1 vwCl (a, alO md q1 n) H ∧ va_at g.1 vwCl (q1, alA g (nwl n) (va_cpy f (fun _ => none) 0 0 n)) H) := by
  refine CT.of (by decide) rfl ?_
  intro p e s m args below meth c E hr hk hnm hP ls hl
  have hS : va_S (nF F) s.heap s.heap [] := va_S.rf
  have hx := E.1
  have hb := E.2.1
  have hml := E.2.2.1
  have hown := E.2.2.2.1
  have hts := E.2.2.2.2.1
  have hG := E.2.2.2.2.2
  have hl : lv_has ls 4 [(0, .ref a), (1, .int (nI (n + 1)))] := hl
  have hP0 := hP
  obtain ⟨hsz, h1, h2, h3⟩ := hP
  have hw := nwl_le hn h0
  refine lv_aload_n hx hb dJx4a65c_grow_92f84_0 rfl (lv_at hl 0 rfl) ?_
  refine al_arr E h1 dJx4a65c_grow_92f84_1 ?_
  refine va_alen (ty := .object "java/lang/Object") hx hb hG.1 (va_P1 h2) 0 rfl (t0 := 3) (v := nI n) rfl rfl dJx4a65c_grow_92f84_4 ?_
  refine lv_istore_n (lv' := [(2, .int (nI n)), (0, .ref a), (1, .int (nI (n + 1)))]) hx hb dJx4a65c_grow_92f84_5 rfl hl (by decide) rfl (fun ls hl => ?_)
  refine lv_iload_n hx hb dJx4a65c_grow_92f84_6 rfl (lv_at hl 0 rfl) ?_
  refine lv_if_gt (tgt := 20) hx hb dJx4a65c_grow_92f84_7 (by decide) (fun c1 => ?_) (fun c1 => absurd (show nI 0 < nI n from nI_lt h0 (by omega)) c1)
  refine lv_iload_n hx hb dJx4a65c_grow_92f84_20 rfl (lv_at hl 0 rfl) ?_
  refine lv_iload_n hx hb dJx4a65c_grow_92f84_21 rfl (lv_at hl 2 rfl) ?_
  refine lv_iload_n hx hb dJx4a65c_grow_92f84_22 rfl (lv_at hl 0 rfl) ?_
  refine lv_isub hx hb dJx4a65c_grow_92f84_23 ?_
  refine W.eq (g2 := F0 m 24 ls [.int (nI 1), .int (nI n)]) (by rw [pk_sub (by omega), Nat.add_sub_cancel_left]) ?_
  refine lv_iload_n hx hb dJx4a65c_grow_92f84_24 rfl (lv_at hl 0 rfl) ?_
  refine lv_iconst (v := 1) hx hb dJx4a65c_grow_92f84_25 (by decide) ?_
  refine lv_ishr hx hb dJx4a65c_grow_92f84_26 ?_
  refine W.eq (g2 := F0 m 27 ls [.int (nI (n / 2)), .int (nI 1), .int (nI n)]) (by rw [pk_shrN (n := n) (by omega) ((1 : Int32) &&& 31) 1 (by decide), Nat.pow_one]) ?_
  refine ct_S E hS (c_J8_newLength l g F n (fun H => H.size = sz ∧ va_at g.1 vwCl (a, alO md q n) H ∧ va_at g.1 vwCl (q, alA g n f) H ∧ ∀ i, i < n → ∀ y, f i = some y → AO g y H ∧ y ≠ q) h0 hn) ok_J8_newLength_cabcc lk_Jx4a65c_73 hP0 rfl hl ⟨rfl, rfl⟩ rfl ⟨by decide, by decide⟩ dJx4a65c_grow_92f84_27 rfl (fun v9 H locs hv9 hS hz9 => ?_)
  obtain ⟨rfl, hsz, h1, h2, h3⟩ := hv9
  refine lv_istore_n (lv' := [(3, .int (nI (nwl n))), (2, .int (nI n)), (0, .ref a), (1, .int (nI (n + 1)))]) hx hb dJx4a65c_grow_92f84_30 rfl hl (by decide) rfl (fun ls hl => ?_)
  refine lv_aload_n hx hb dJx4a65c_grow_92f84_31 rfl (lv_at hl 2 rfl) ?_
  refine lv_aload_n hx hb dJx4a65c_grow_92f84_32 rfl (lv_at hl 2 rfl) ?_
  refine al_arr E h1 dJx4a65c_grow_92f84_33 ?_
  refine lv_iload_n hx hb dJx4a65c_grow_92f84_36 rfl (lv_at hl 0 rfl) ?_
  have hF1 : ∀ x, F x → (x < sz ∧ x ≠ q) := fun x h => ⟨hF x h, fun z => hq (z ▸ h)⟩
  refine ct_SF hF1 E hS (c_J7_copyOf2 l g (fun x => x < sz ∧ x ≠ q) q n (nwl n) sz f (fun x => Iff.rfl) (by omega) (by omega)) ok_J7_copyOf_1904c lk_Jx4a65c_66 ⟨hsz, h2, h3⟩ rfl hl ⟨rfl, rfl⟩ rfl ⟨Nat.le_refl _, Nat.le_refl _⟩ dJx4a65c_grow_92f84_37 rfl (fun v9 H1 locs hv9 hS hz9 hfr => ?_)
  obtain ⟨q1, rfl, hq1, h4⟩ := hv9
  have h5 := h1.kept (hfr a h1.lt ⟨hsz ▸ h1.lt, haq⟩)
  have hqa : q1 ≠ a := fun z => by have h9 : a < H.size := h1.lt; omega
  refine lv_dup_x1 hx hb dJx4a65c_grow_92f84_40 rfl rfl ?_
  refine al_qput E hS h5 ha dJx4a65c_grow_92f84_41 (fun H2 locs h6 hz oq hS => ?_)
  exact ct_aret (v := .ref q1) E hr (Or.inr ⟨_, rfl⟩) (Or.inr ⟨_, rfl⟩) hk hS ⟨q1, rfl, hq1, h6, h4.kept (oq _ hqa)⟩ dJx4a65c_grow_92f84_44 (Nat.le_refl _) (Nat.le_refl _)

set_option maxHeartbeats 4000000 in
set_option maxRecDepth 100000 in
theorem c_AL_growB (l : Launch) (g : cG) (F : Nat → Prop) (a sz : Nat) (md : Int32) (hF : ∀ x, F x → x < sz) (ha : ¬ F a) : CT l yJx4a65c_grow_92f84 cJx4a65c_grow_92f84 4 (some (.array (.object "java/lang/Object"))) 3 105 1 150 g F [.ref a, .int (nI 1)] (fun H => H.size = sz ∧ va_at g.1 vwCl (a, alO md g.2.2.1 0) H) (fun v H => ∃ q1 : Nat, v = some (.ref q1) ∧ sz ≤ q1 ∧ va_at g.1 vwCl (a, alO md q1 0) H ∧ va_at g.1 vwCl (q1, alA g 10 (fun _ => none)) H) := by
  refine CT.of (by decide) rfl ?_
  intro p e s m args below meth c E hr hk hnm hP ls hl
  have hS : va_S (nF F) s.heap s.heap [] := va_S.rf
  have hx := E.1
  have hb := E.2.1
  have hml := E.2.2.1
  have hown := E.2.2.2.1
  have hts := E.2.2.2.2.1
  have hG := E.2.2.2.2.2
  have hl : lv_has ls 4 [(0, .ref a), (1, .int (nI 1))] := hl
  obtain ⟨hsz, h1⟩ := hP
  have hZ := hG.2.2.1
  have hT := hG.2.2.2.1
  have hAO := hG.2.2.2.2.2.2.2.2.2.1
  refine lv_aload_n hx hb dJx4a65c_grow_92f84_0 rfl (lv_at hl 0 rfl) ?_
  refine al_arr E h1 dJx4a65c_grow_92f84_1 ?_
  refine va_tlen (v := 0) hx hb hT hS rfl dJx4a65c_grow_92f84_4 ?_
  refine lv_istore_n (lv' := [(2, .int 0), (0, .ref a), (1, .int (nI 1))]) hx hb dJx4a65c_grow_92f84_5 rfl hl (by decide) rfl (fun ls hl => ?_)
  refine lv_iload_n hx hb dJx4a65c_grow_92f84_6 rfl (lv_at hl 0 rfl) ?_
  refine lv_if_gt (tgt := 20) hx hb dJx4a65c_grow_92f84_7 (by decide) (fun c1 => absurd c1 (by decide)) (fun c1 => ?_)
  refine lv_aload_n hx hb dJx4a65c_grow_92f84_10 rfl (lv_at hl 1 rfl) ?_
  refine al_arr E h1 dJx4a65c_grow_92f84_11 ?_
  refine va_gets hx hb hZ hS hown (hts _ fk_Jx4a65c_39) (fun _ h9 => h9) dJx4a65c_grow_92f84_14 ?_
  refine lv_acmp_eq (rx := some g.2.2.1) (ry := some g.2.2.1) (tgt := 45) hx hb dJx4a65c_grow_92f84_17 (by decide) (fun c2 => ?_) (fun c2 => absurd rfl c2)
  refine lv_aload_n hx hb dJx4a65c_grow_92f84_45 rfl (lv_at hl 1 rfl) ?_
  refine lv_bipush (v := 10) hx hb dJx4a65c_grow_92f84_46 (by decide) ?_
  refine lv_iload_n hx hb dJx4a65c_grow_92f84_48 rfl (lv_at hl 2 rfl) ?_
  refine va_mmax hx hb (hml.trans hl.1.symm) hown (hts _ lk_Jx4a65c_79) (hts _ st_max) (hts _ in_J9) (hts _ cd_max) (Nat.le_of_ble_eq_true rfl) (Nat.le_of_ble_eq_true rfl) (Nat.le_of_ble_eq_true rfl) (Nat.le_of_ble_eq_true rfl) dJx4a65c_grow_92f84_49 ?_
  refine W.eq (g2 := F0 m 52 ls [.int (nI 10), .ref a]) (by rw [show (if (10 : Int32) < nI 1 then nI 1 else 10) = nI 10 by decide]) ?_
  refine w_newq (N' := 10) E kl_Jx4a65c_7 hS (by decide) (by decide) (by decide) (Nat.le_of_ble_eq_true rfl) (Nat.le_of_ble_eq_true rfl) dJx4a65c_grow_92f84_52 (fun H1 h2 z1 o1 hS1 => ?_)
  have h3 := h1.kept (o1 a h1.lt)
  have hqa : s.heap.size ≠ a := fun z => by have h9 : a < s.heap.size := h1.lt; omega
  refine lv_dup_x1 hx hb dJx4a65c_grow_92f84_55 rfl rfl ?_
  refine al_qput E hS1 h3 ha dJx4a65c_grow_92f84_56 (fun H2 locs h6 hz oq hS => ?_)
  exact ct_aret (v := .ref s.heap.size) E hr (Or.inr ⟨_, rfl⟩) (Or.inr ⟨_, rfl⟩) hk hS ⟨s.heap.size, rfl, by omega, h6, h2.kept (oq _ hqa)⟩ dJx4a65c_grow_92f84_59 (Nat.le_refl _) (Nat.le_of_ble_eq_true rfl)

set_option maxHeartbeats 4000000 in
set_option maxRecDepth 100000 in
theorem c_AL_grow0A (l : Launch) (g : cG) (F : Nat → Prop) (a q n sz : Nat) (md : Int32) (f : Nat → Option Nat) (hF : ∀ x, F x → x < sz) (ha : ¬ F a) (hq : ¬ F q) (haq : a ≠ q) (h0 : 0 < n) (hn : n ≤ 100) : CT l yJx4a65c_grow_d5877 cJx4a65c_grow_d5877 1 (some (.array (.object "java/lang/Object"))) 4 128 1 150 g F [.ref a] (fun H => H.size = sz ∧ va_at g.1 vwCl (a, alO md q n) H ∧ va_at g.1 vwCl (q, alA g n f) H ∧ ∀ i, i < n → ∀ y, f i = some y → AO g y H ∧ y ≠ q) (fun v H => ∃ q1 : Nat, v = some (.ref q1) ∧ sz ≤ q1 ∧ va_at g.1 vwCl (a, alO md q1 n) H ∧ va_at g.1 vwCl (q1, alA g (nwl n) (va_cpy f (fun _ => none) 0 0 n)) H) := by
  refine CT.of (by decide) rfl ?_
  intro p e s m args below meth c E hr hk hnm hP ls hl
  have hS : va_S (nF F) s.heap s.heap [] := va_S.rf
  have hx := E.1
  have hb := E.2.1
  have hml := E.2.2.1
  have hown := E.2.2.2.1
  have hts := E.2.2.2.2.1
  have hG := E.2.2.2.2.2
  have hl : lv_has ls 1 [(0, .ref a)] := hl
  have hP0 := hP
  obtain ⟨hsz, h1, h2, h3⟩ := hP
  refine lv_aload_n hx hb dJx4a65c_grow_d5877_0 rfl (lv_at hl 0 rfl) ?_
  refine lv_aload_n hx hb dJx4a65c_grow_d5877_1 rfl (lv_at hl 0 rfl) ?_
  refine al_len E h1 dJx4a65c_grow_d5877_2 ?_
  refine lv_iconst (v := 1) hx hb dJx4a65c_grow_d5877_5 (by decide) ?_
  refine lv_iadd hx hb dJx4a65c_grow_d5877_6 ?_
  refine W.eq (g2 := F0 m 7 ls [.int (nI (n + 1)), .ref a]) (by rw [nI_1]) ?_
  refine ct_V E hS (c_AL_growA l g F a q n sz md f hF ha hq haq h0 hn) ok_Jx4a65c_grow_92f84 lk_Jx4a65c_69 hP0 (va_recv (q := (RJx4a65c, TJx4a65c, 3)) (q0 := 0) (ci := 2) hG.1 (va_P1 h1) rfl rfl) rfl hl ⟨rfl, rfl⟩ rfl ⟨Nat.le_refl _, Nat.le_refl _⟩ dJx4a65c_grow_d5877_7 rfl (fun v9 H locs hv9 hS hz9 => ?_)
  obtain ⟨q1, rfl, hv9⟩ := hv9
  exact ct_aret (v := .ref q1) E hr (Or.inr ⟨_, rfl⟩) (Or.inr ⟨_, rfl⟩) hk hS ⟨q1, rfl, hv9⟩ dJx4a65c_grow_d5877_10 (Nat.le_refl _) (Nat.le_refl _)

set_option maxHeartbeats 4000000 in
set_option maxRecDepth 100000 in
theorem c_AL_grow0B (l : Launch) (g : cG) (F : Nat → Prop) (a sz : Nat) (md : Int32) (hF : ∀ x, F x → x < sz) (ha : ¬ F a) : CT l yJx4a65c_grow_d5877 cJx4a65c_grow_d5877 1 (some (.array (.object "java/lang/Object"))) 4 128 1 150 g F [.ref a] (fun H => H.size = sz ∧ va_at g.1 vwCl (a, alO md g.2.2.1 0) H) (fun v H => ∃ q1 : Nat, v = some (.ref q1) ∧ sz ≤ q1 ∧ va_at g.1 vwCl (a, alO md q1 0) H ∧ va_at g.1 vwCl (q1, alA g 10 (fun _ => none)) H) := by
  refine CT.of (by decide) rfl ?_
  intro p e s m args below meth c E hr hk hnm hP ls hl
  have hS : va_S (nF F) s.heap s.heap [] := va_S.rf
  have hx := E.1
  have hb := E.2.1
  have hml := E.2.2.1
  have hown := E.2.2.2.1
  have hts := E.2.2.2.2.1
  have hG := E.2.2.2.2.2
  have hl : lv_has ls 1 [(0, .ref a)] := hl
  have hP0 := hP
  obtain ⟨hsz, h1⟩ := hP
  refine lv_aload_n hx hb dJx4a65c_grow_d5877_0 rfl (lv_at hl 0 rfl) ?_
  refine lv_aload_n hx hb dJx4a65c_grow_d5877_1 rfl (lv_at hl 0 rfl) ?_
  refine al_len E h1 dJx4a65c_grow_d5877_2 ?_
  refine lv_iconst (v := 1) hx hb dJx4a65c_grow_d5877_5 (by decide) ?_
  refine lv_iadd hx hb dJx4a65c_grow_d5877_6 ?_
  refine W.eq (g2 := F0 m 7 ls [.int (nI 1), .ref a]) (by rw [nI_1]) ?_
  refine ct_V E hS (c_AL_growB l g F a sz md hF ha) ok_Jx4a65c_grow_92f84 lk_Jx4a65c_69 hP0 (va_recv (q := (RJx4a65c, TJx4a65c, 3)) (q0 := 0) (ci := 2) hG.1 (va_P1 h1) rfl rfl) rfl hl ⟨rfl, rfl⟩ rfl ⟨Nat.le_refl _, Nat.le_refl _⟩ dJx4a65c_grow_d5877_7 rfl (fun v9 H locs hv9 hS hz9 => ?_)
  obtain ⟨q1, rfl, hv9⟩ := hv9
  exact ct_aret (v := .ref q1) E hr (Or.inr ⟨_, rfl⟩) (Or.inr ⟨_, rfl⟩) hk hS ⟨q1, rfl, hv9⟩ dJx4a65c_grow_d5877_10 (Nat.le_refl _) (Nat.le_refl _)

section ALS
variable {p : Program} {l : Launch} {e : Env} {R : Room} {s : State} {m : MethodId} {args : Array Value} {below : List Frame} {meth : Method} {c : Code} {H : Heap} {locs : List Loc} {cells slots : Nat} {Q : State → Prop}
variable {cc : ByteArray} {pc nL : Nat} {ls : Array Slot} {rest : List Value} {own : String} {g : cG} {F : Nat → Prop} {H0 : Heap} {q cap : Nat} {f : Nat → Option Nat}
theorem w_aast (E : EN p s m c cc nL args own g F) (hS0 : va_S (nF F) H0 H locs) {x : Nat} (he : va_at g.1 vwCl (q, alA g cap f) H) (ha : ¬ F q) (hr : va_Any "java/lang/Object" s H x) {i : Int32} {j : Nat} (hi : i = nI j) (hj : j < cap) (hc : cap ≤ 200) (hdg : decode cc pc = .ok (.aastore, 1))
    (kk : ∀ (H1 : Heap) (locs1 : List Loc), va_at g.1 vwCl (q, alA g cap (va_up f j (some x))) H1 → H1.size = H.size → (∀ z, z ≠ q → H1[z]? = H[z]?) → va_S (nF F) H0 H1 locs1 → W p l e R s m args below meth c H1 locs1 cells slots Q (F0 m (pc + 1) ls rest)) : W p l e R s m args below meth c H locs cells slots Q (F0 m pc ls (.ref x :: .int i :: .ref q :: rest)) := by
  subst hi
  have hcl : (nI j).toNatClampNeg = j := nI_clamp (by omega)
  obtain ⟨cellV, g1, g3, ⟨kC, hkC⟩, hasg⟩ := hr
  obtain ⟨kA, comp, k1, k2, k3, -⟩ := (E.2.2.2.2.2.1.2 3 _ rfl).2
  obtain ⟨kE, hkE, -⟩ := Vm.findClass_spec k3
  refine W.aast E.1 E.2.1 he (fun q h => by cases h) (fun h => by cases h) k1 k2 rfl hkE ⟨nI_pos (by omega), by show _ < (arrV _ _ _).slots.size; rw [arrV_size, hcl]; exact hj⟩ g1 (fun q h => by rw [h] at g3; cases g3) hkC (hasg _ k3) rfl rfl hdg fun H1 e z oq => ?_
  refine kk H1 _ ?_ z oq (hS0.put z oq ha)
  show H1[q]? = some (vp_cell _ _)
  rw [e, vp_cell_q, vp_cell_q, arrV_store, hcl]
  congr 2
  funext z
  by_cases hz : z = j
  · subst hz
    simp [updV, va_up, va_rf]
  · simp [updV, va_up, hz]
theorem w_aastN (E : EN p s m c cc nL args own g F) (hS0 : va_S (nF F) H0 H locs) (he : va_at g.1 vwCl (q, alA g cap f) H) (ha : ¬ F q) {i : Int32} {j : Nat} (hi : i = nI j) (hj : j < cap) (hc : cap ≤ 200) (hdg : decode cc pc = .ok (.aastore, 1))
    (kk : ∀ (H1 : Heap) (locs1 : List Loc), va_at g.1 vwCl (q, alA g cap (va_up f j none)) H1 → H1.size = H.size → (∀ z, z ≠ q → H1[z]? = H[z]?) → va_S (nF F) H0 H1 locs1 → W p l e R s m args below meth c H1 locs1 cells slots Q (F0 m (pc + 1) ls rest)) : W p l e R s m args below meth c H locs cells slots Q (F0 m pc ls (.null :: .int i :: .ref q :: rest)) := by
  subst hi
  have hcl : (nI j).toNatClampNeg = j := nI_clamp (by omega)
  refine va_WaastN (C := "java/lang/Object") E.1 E.2.1 he ((E.2.2.2.2.2.1.2 3 _ rfl).1 cap (fun j => va_rf (f j))) (fun h => by cases h) (by show ¬ (nI j < 0 ∨ (arrV _ _ _).slots.size ≤ _); rw [arrV_size]; exact vp_in_nI (N := cap) hj (by omega)) rfl rfl hdg fun H1 e z oq => ?_
  refine kk H1 _ ?_ z oq (hS0.put z oq ha)
  show H1[q]? = some (vp_cell _ _)
  rw [e, vp_cell_q, vp_cell_q, arrV_store, hcl]
  congr 2
  funext z
  by_cases hz : z = j
  · subst hz
    simp [updV, va_up, va_rf]
  · simp [updV, va_up, hz]
end ALS

set_option maxHeartbeats 4000000 in
set_option maxRecDepth 100000 in
theorem c_AL_add3 (l : Launch) (g : cG) (F : Nat → Prop) (a q x sz : Nat) (els : List Nat) (hF : ∀ z, F z → z < sz) (hx9 : F x) (hy9 : ∀ y, y ∈ els → F y) (hn : els.length ≤ 99) : CT l yJx4a65c_add_72be8 cJx4a65c_add_72be8 4 none 5 150 1 150 g F [.ref a, .ref x, .ref q, .int (nI els.length)] (fun H => H.size = sz ∧ AL g F a q els H ∧ AO g x H) (fun v H => v = none ∧ ∃ q1 : Nat, (q1 = q ∨ sz ≤ q1) ∧ AL g F a q1 (els ++ [x]) H) := by
  refine CT.of (by decide) rfl ?_
  intro p e s m args below meth c E hr hk hnm hP ls hl
  have hS : va_S (nF F) s.heap s.heap [] := va_S.rf
  have hx := E.1
  have hb := E.2.1
  have hml := E.2.2.1
  have hown := E.2.2.2.1
  have hts := E.2.2.2.2.1
  have hG := E.2.2.2.2.2
  have hl : lv_has ls 4 [(0, .ref a), (1, .ref x), (2, .ref q), (3, .int (nI els.length))] := hl
  obtain ⟨hsz, hL, hX⟩ := hP
  obtain ⟨ha, ⟨md, h1⟩, hy, hA⟩ := hL
  -- the end, with room in the array at q1
  have TAIL : ∀ (q1 cap : Nat) (f : Nat → Option Nat) (H : Heap) (locs : List Loc) (cells slots : Nat) (ls : Array Slot), (q1 = q ∨ sz ≤ q1) → ¬ F q1 → q1 ≠ a → va_S (nF F) s.heap H locs → va_at g.1 vwCl (a, alO md q1 els.length) H → va_at g.1 vwCl (q1, alA g cap f) H → els.length < cap → cap ≤ 200 → (∀ i, i < els.length → f i = els[i]?) → cells ≤ 1 → slots ≤ 150 → lv_has ls 4 [(0, .ref a), (1, .ref x), (2, .ref q1), (3, .int (nI els.length))] →
      W p l e { frames := 5, cells := 1, slots := 150, locals := 150 } s m args below meth c H locs cells slots (MQ below (Qg F (fun v H => v = none ∧ ∃ q1 : Nat, (q1 = q ∨ sz ≤ q1) ∧ AL g F a q1 (els ++ [x]) H)) args s 1 150 (nF F)) (F0 m 11 ls []) := by
    intro q1 cap f H locs cells slots ls hq1 hFq hqa hS k1 k2 hc1 hc2 hf hcs hss hl
    refine lv_aload_n hx hb dJx4a65c_add_72be8_11 rfl (lv_at hl 2 rfl) ?_
    refine lv_iload_n hx hb dJx4a65c_add_72be8_12 rfl (lv_at hl 3 rfl) ?_
    refine lv_aload_n hx hb dJx4a65c_add_72be8_13 rfl (lv_at hl 1 rfl) ?_
    have hX1 : AO g x H := hX.kept (hS.2.1 x hX.lt (fun z => z hx9))
    refine w_aast E hS k2 hFq (hX1.any hG) rfl hc1 hc2 dJx4a65c_add_72be8_14 (fun H2 locs2 k3 z3 oq3 hS => ?_)
    refine lv_aload_n hx hb dJx4a65c_add_72be8_15 rfl (lv_at hl 0 rfl) ?_
    refine lv_iload_n hx hb dJx4a65c_add_72be8_16 rfl (lv_at hl 3 rfl) ?_
    refine lv_iconst (v := 1) hx hb dJx4a65c_add_72be8_17 (by decide) ?_
    refine lv_iadd hx hb dJx4a65c_add_72be8_18 ?_
    refine W.eq (g2 := F0 m 19 ls [.int (nI (els.length + 1)), .ref a]) (by rw [nI_1]) ?_
    refine al_nput E hS (k1.kept (oq3 a hqa.symm)) ha dJx4a65c_add_72be8_19 (fun H4 locs4 k4 z4 oq4 hS => ?_)
    have hel : ∀ y, y ∈ els ++ [x] → AO g y H4 := fun y hy8 => by
      have h8 : F y ∧ AO g y s.heap := by
        rcases List.mem_append.mp hy8 with h | h
        · exact ⟨hy9 y h, hy y h⟩
        · rw [List.mem_singleton.mp h]; exact ⟨hx9, hX⟩
      exact h8.2.kept (hS.2.1 y h8.2.lt (fun z => z h8.1))
    refine ct_vret E hr hk hS ⟨rfl, q1, hq1, ha, ⟨md, ?_⟩, hel, Or.inr ⟨hFq, hqa, cap, va_up f els.length (some x), k3.kept (oq4 _ hqa), ?_, by omega, hc2, ?_⟩⟩ dJx4a65c_add_72be8_22 hcs hss
    · rw [List.length_append]; exact k4
    · rw [List.length_append]; exact hc1
    · intro i hi
      rw [List.length_append, List.length_singleton] at hi
      by_cases h : i = els.length
      · subst h; simp [va_up]
      · rw [List.getElem?_append_left (by omega), ← hf i (by omega)]; simp [va_up, h]
  have hxa : x ≠ a := fun z => ha (z ▸ hx9)
  rcases hA with ⟨rfl, rfl⟩ | ⟨hFq, hqa, cap, f, h2, hc1, hc0, hc2, hf⟩
  · -- the first one
    refine lv_iload_n hx hb dJx4a65c_add_72be8_0 rfl (lv_at hl 3 rfl) ?_
    refine lv_aload_n hx hb dJx4a65c_add_72be8_1 rfl (lv_at hl 2 rfl) ?_
    refine va_tlen (v := 0) hx hb hG.2.2.2.1 hS rfl dJx4a65c_add_72be8_2 ?_
    refine lv_icmp_ne (tgt := 11) hx hb dJx4a65c_add_72be8_3 (by decide) (fun c1 => absurd (show nI 0 = 0 from rfl) c1) (fun c1 => ?_)
    refine lv_aload_n hx hb dJx4a65c_add_72be8_6 rfl (lv_at hl 0 rfl) ?_
    refine ct_V E hS (c_AL_grow0B l g F a sz md hF ha) ok_Jx4a65c_grow_d5877 lk_Jx4a65c_129 ⟨hsz, h1⟩ (va_recv (q := (RJx4a65c, TJx4a65c, 3)) (q0 := 0) (ci := 2) hG.1 (va_P1 h1) rfl rfl) rfl hl ⟨rfl, rfl⟩ rfl ⟨Nat.le_refl _, Nat.le_refl _⟩ dJx4a65c_add_72be8_7 rfl (fun v9 H locs hv9 hS hz9 => ?_)
    obtain ⟨q1, rfl, hq1, h3, h4⟩ := hv9
    refine lv_astore_n (lv' := [(2, .ref q1), (0, .ref a), (1, .ref x), (3, .int (nI 0))]) hx hb dJx4a65c_add_72be8_10 rfl hl (by decide) rfl (fun ls hl => ?_)
    have hla : a < s.heap.size := h1.lt
    exact TAIL q1 10 _ H locs _ _ ls (Or.inr hq1) (fun z => by have := hF q1 z; omega) (by omega) hS h3 h4 (by decide) (by decide) (fun i hi => absurd hi (by simp)) (Nat.le_refl _) (Nat.le_refl _) (lv_sub hl [1, 2, 0, 3] rfl)
  · refine lv_iload_n hx hb dJx4a65c_add_72be8_0 rfl (lv_at hl 3 rfl) ?_
    refine lv_aload_n hx hb dJx4a65c_add_72be8_1 rfl (lv_at hl 2 rfl) ?_
    refine va_alen (ty := .object "java/lang/Object") hx hb hG.1 (va_P1 h2) 0 rfl (t0 := 3) (v := nI cap) rfl rfl dJx4a65c_add_72be8_2 ?_
    refine lv_icmp_ne (tgt := 11) hx hb dJx4a65c_add_72be8_3 (by decide) (fun c1 => ?_) (fun c1 => ?_)
    · have hne : els.length ≠ cap := fun z => c1 (by rw [z])
      exact TAIL q cap f s.heap _ _ _ ls (Or.inl rfl) hFq hqa hS h1 h2 (by omega) hc2 hf (Nat.zero_le _) (Nat.zero_le _) hl
    · have heq : els.length = cap := (nI_eq (by omega) (by omega)).mp c1
      subst heq
      refine lv_aload_n hx hb dJx4a65c_add_72be8_6 rfl (lv_at hl 0 rfl) ?_
      have hyq : ∀ i, i < els.length → ∀ y, f i = some y → AO g y s.heap ∧ y ≠ q := fun i hi y hy8 => by
        rw [hf i hi] at hy8
        have hm := List.mem_of_getElem? hy8
        exact ⟨hy y hm, fun z => hFq (z ▸ hy9 y hm)⟩
      refine ct_V E hS (c_AL_grow0A l g F a q els.length sz md f hF ha hFq hqa.symm hc0 (by omega)) ok_Jx4a65c_grow_d5877 lk_Jx4a65c_129 ⟨hsz, h1, h2, hyq⟩ (va_recv (q := (RJx4a65c, TJx4a65c, 3)) (q0 := 0) (ci := 2) hG.1 (va_P1 h1) rfl rfl) rfl hl ⟨rfl, rfl⟩ rfl ⟨Nat.le_refl _, Nat.le_refl _⟩ dJx4a65c_add_72be8_7 rfl (fun v9 H locs hv9 hS hz9 => ?_)
      obtain ⟨q1, rfl, hq1, h3, h4⟩ := hv9
      refine lv_astore_n (lv' := [(2, .ref q1), (0, .ref a), (1, .ref x), (3, .int (nI els.length))]) hx hb dJx4a65c_add_72be8_10 rfl hl (by decide) rfl (fun ls hl => ?_)
      have hla : a < s.heap.size := h1.lt
      have hw := nwl_le (n := els.length) (by omega) hc0
      exact TAIL q1 (nwl els.length) _ H locs _ _ ls (Or.inr hq1) (fun z => by have := hF q1 z; omega) (by omega) hS h3 h4 (by omega) (by omega) (fun i hi => by rw [pk_cpy_in (Nat.zero_le _) (by omega)]; rw [← hf i hi]; congr 1; omega) (Nat.le_refl _) (Nat.le_refl _) (lv_sub hl [1, 2, 0, 3] rfl)

set_option maxHeartbeats 4000000 in
set_option maxRecDepth 100000 in
theorem c_AL_add (l : Launch) (g : cG) (F : Nat → Prop) (a q x sz : Nat) (els : List Nat) (hF : ∀ z, F z → z < sz) (hx9 : F x) (hy9 : ∀ y, y ∈ els → F y) (hn : els.length ≤ 99) : CT l yJx4a65c_add_9ea2d cJx4a65c_add_9ea2d 2 (some .boolean) 6 173 1 150 g F [.ref a, .ref x] (fun H => H.size = sz ∧ AL g F a q els H ∧ AO g x H) (fun v H => v = some (.int 1) ∧ ∃ q1 : Nat, (q1 = q ∨ sz ≤ q1) ∧ AL g F a q1 (els ++ [x]) H) := by
  refine CT.of (by decide) rfl ?_
  intro p e s m args below meth c E hr hk hnm hP ls hl
  have hS : va_S (nF F) s.heap s.heap [] := va_S.rf
  have hx := E.1
  have hb := E.2.1
  have hml := E.2.2.1
  have hown := E.2.2.2.1
  have hts := E.2.2.2.2.1
  have hG := E.2.2.2.2.2
  have hl : lv_has ls 2 [(0, .ref a), (1, .ref x)] := hl
  obtain ⟨hsz, hL, hX⟩ := hP
  obtain ⟨ha, ⟨md, h1⟩, hy, hA⟩ := hL
  refine lv_aload_n hx hb dJx4a65c_add_9ea2d_0 rfl (lv_at hl 0 rfl) ?_
  refine lv_dup hx hb dJx4a65c_add_9ea2d_1 rfl ?_
  refine al_mget E h1 dJx4a65c_add_9ea2d_2 ?_
  refine lv_iconst (v := 1) hx hb dJx4a65c_add_9ea2d_5 (by decide) ?_
  refine lv_iadd hx hb dJx4a65c_add_9ea2d_6 ?_
  refine al_mput E hS h1 ha dJx4a65c_add_9ea2d_7 (fun H1 locs1 k1 z1 oq1 hS => ?_)
  refine lv_aload_n hx hb dJx4a65c_add_9ea2d_10 rfl (lv_at hl 0 rfl) ?_
  refine lv_aload_n hx hb dJx4a65c_add_9ea2d_11 rfl (lv_at hl 1 rfl) ?_
  refine lv_aload_n hx hb dJx4a65c_add_9ea2d_12 rfl (lv_at hl 0 rfl) ?_
  refine al_arr E k1 dJx4a65c_add_9ea2d_13 ?_
  refine lv_aload_n hx hb dJx4a65c_add_9ea2d_16 rfl (lv_at hl 0 rfl) ?_
  refine al_len E k1 dJx4a65c_add_9ea2d_17 ?_
  have hL1 : AL g F a q els H1 := by
    refine ⟨ha, ⟨_, k1⟩, fun y hy8 => (hy y hy8).kept (oq1 y (fun z => ha (z ▸ hy9 y hy8))), ?_⟩
    rcases hA with h | ⟨hFq, hqa, cap, f, h2, h3⟩
    · exact Or.inl h
    · exact Or.inr ⟨hFq, hqa, cap, f, h2.kept (oq1 _ hqa), h3⟩
  have hX1 : AO g x H1 := hX.kept (oq1 x (fun z => ha (z ▸ hx9)))
  refine ct_V E hS (c_AL_add3 l g F a q x sz els hF hx9 hy9 hn) ok_Jx4a65c_add_72be8 lk_Jx4a65c_131 ⟨z1.trans hsz, hL1, hX1⟩ (va_recv (q := (RJx4a65c, TJx4a65c, 3)) (q0 := 0) (ci := 2) hG.1 (va_P1 k1) rfl rfl) rfl hl ⟨rfl, rfl⟩ rfl ⟨Nat.le_refl _, Nat.le_refl _⟩ dJx4a65c_add_9ea2d_20 rfl (fun v9 H locs hv9 hS hz9 => ?_)
  obtain ⟨rfl, hv9⟩ := hv9
  refine lv_iconst (v := 1) hx hb dJx4a65c_add_9ea2d_23 (by decide) ?_
  exact ct_zret E hr (by decide) hk hS ⟨rfl, hv9⟩ dJx4a65c_add_9ea2d_24 (Nat.le_refl _) (Nat.le_refl _)
