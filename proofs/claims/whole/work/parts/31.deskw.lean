/-! rows of the desk's walks -/
def KC (C : String) (T : u_T) (N ci : Nat) (ty0 : Nat → FieldType) : Prop :=
  (∀ w ∈ u_ws C T N, w ∈ lw_g) ∧ (∀ k, k < N → parseFieldDescriptor (T k).2.2.1 = some (ty0 k)) ∧ (∀ a, a < N → ∀ b, b < N → a ≠ b → (T a).2.1 ≠ (T b).2.1) ∧ vwCl[ci]? = some (C, T, N)
theorem kcX0 : KC RX0 TX0 2 3 tyX0 := ⟨ly_X0, tyX0_ok, nmX0, rfl⟩
theorem kcX1 : KC RX1 TX1 3 4 tyX1 := ⟨ly_X1, tyX1_ok, nmX1, rfl⟩
theorem kcX2 : KC RX2 TX2 6 5 tyX2 := ⟨ly_X2, tyX2_ok, nmX2, rfl⟩
theorem kcX3 : KC RX3 TX3 7 6 tyX3 := ⟨ly_X3, tyX3_ok, nmX3, rfl⟩
theorem kcX4 : KC RX4 TX4 12 7 tyX4 := ⟨ly_X4, tyX4_ok, nmX4, rfl⟩
theorem nar_rf {n : String} {o : Option Nat} : narrow (.object n) (va_rf o) = va_rf o := by cases o <;> rfl
theorem fit_rf {n : String} {o : Option Nat} : fits (.object n) (va_rf o) = true := by cases o <;> rfl
section NR
variable {p : Program} {l : Launch} {e : Env} {R : Room} {s : State} {m : MethodId} {args : Array Value} {below : List Frame} {meth : Method} {c : Code} {H : Heap} {locs : List Loc} {cells slots : Nat} {Q : State → Prop}
variable {cc : ByteArray} {pc nL : Nat} {ls : Array Slot} {rest : List Value} {own : String} {g : cG} {F F1 : Nat → Prop} {H0 : Heap} {a : Nat}
theorem w_getN (E : EN p s m c cc nL args own g F) {C host : String} {T : u_T} {N ci index : Nat} {ty0 : Nat → FieldType} (kc : KC C T N ci ty0) {fs : List Value} (he : va_at g.1 vwCl (a, .inr (ci, fs)) H) (k : Nat) (hk : k < N) (hT : (T k).1 = C) (hlink : Cond.fieldLinkNest own index C (T k).2.1 (T k).2.2.1 host ∈ lw_n) {v : Value} (hv : fs[k]? = some v) (hdg : decode cc pc = .ok (.getfield index, 3))
    (kk : W p l e R s m args below meth c H locs cells slots Q (F0 m (pc + 3) ls (v :: rest))) : W p l e R s m args below meth c H locs cells slots Q (F0 m pc ls (.ref a :: rest)) :=
  va_getN (ref := C) E.1 E.2.1 E.2.2.2.2.1 kc.1 E.2.2.2.1 E.2.2.2.2.2.1 (va_P1 he) 0 rfl kc.2.2.2 k hk (va_Nw.use rfl (E.2.2.2.2.2.2.1 _ hlink)) (fun x h => by rw [hT] at h; exact h) hv hdg kk
theorem w_putN (E : EN p s m c cc nL args own g F) {C host : String} {T : u_T} {N ci index : Nat} {ty0 : Nat → FieldType} (kc : KC C T N ci ty0) (hS0 : va_S (nF F) H0 H locs) {fs : List Value} (he : va_at g.1 vwCl (a, .inr (ci, fs)) H) (ha : ¬ F a) (k : Nat) (hk : k < N) (hT : (T k).1 = C) (hlink : Cond.fieldLinkNest own index C (T k).2.1 (T k).2.2.1 host ∈ lw_n) (hfin : (T k).2.2.2 = false) {v : Value} (hn : narrow (ty0 k) v = v) (hfit : fits (ty0 k) v = true) (hl : k < fs.length)
    (hdg : decode cc pc = .ok (.putfield index, 3)) (kk : ∀ (H1 : Heap) (locs1 : List Loc), va_at g.1 vwCl (a, .inr (ci, fs.set k v)) H1 → H1.size = H.size → (∀ q, q ≠ a → H1[q]? = H[q]?) → va_S (nF F) H0 H1 locs1 → W p l e R s m args below meth c H1 locs1 cells slots Q (F0 m (pc + 3) ls rest)) : W p l e R s m args below meth c H locs cells slots Q (F0 m pc ls (v :: .ref a :: rest)) := by
  obtain ⟨hin, hty, hnm, hc⟩ := kc
  obtain ⟨hexec, hb, -, hown, hts, hK, hN, -⟩ := E
  have hap := va_apart (own := own) hts hin ty0 hty hnm hK hc
  obtain ⟨r, h1, cell, q1, q2, q3, q4⟩ := he
  have hr : r = (C, T, N) := Option.some.inj (h1.symm.trans hc)
  subst hr
  obtain ⟨hS, hfc, kC, hkC, hkind⟩ := hK.1 ci _ hc
  obtain ⟨cf, kf, fi, f, hi, hsl⟩ := hS k hk
  have hlay := hts _ (hin _ (u_in_lay hk))
  unfold u_lay at hlay
  rw [if_neg (by rw [hfin]; decide)] at hlay
  have hst := (u_facts hfc hkC (u_lays hts hin hk) hi).1
  have h6 := u_store hfc hkC hkind hlay hi (hty k hk) hn hfit
  rw [hT] at hi
  refine va_WputK hexec hb (f := f) hown (va_Nw.use rfl (hN _ hlink)) hi hst (by rw [q2]; exact h6) q1 q3 (by rw [hsl]; exact k2_hasslot (q4 k hk)) rfl rfl hdg fun H' e1 e2 e3 => ?_
  rw [hsl] at e1 ⊢
  exact kk H' _ ⟨_, hc, t_OB.to (V := updV (vp_V fs) k v) ⟨_, e1, q2, q3, t_set q4 hap hk v⟩ (fun j _ => vp_updV_set hl v j)⟩ e2 e3 (hS0.put e2 e3 ha)
theorem w_putF (E : EN p s m c cc nL args own g F) {T : u_T} {N ci index : Nat} {ty0 : Nat → FieldType} (kc : KC own T N ci ty0) (hinit : meth.name = "<init>") (hS0 : va_S (nF F) H0 H locs) {fs : List Value} (he : va_at g.1 vwCl (a, .inr (ci, fs)) H) (ha : ¬ F a) (k : Nat) (hk : k < N) (hT : (T k).1 = own) (hlink : Cond.fieldLink own index own (T k).2.1 (T k).2.2.1 ∈ lw_g) (hfin : (T k).2.2.2 = true) {v : Value} (hn : narrow (ty0 k) v = v) (hfit : fits (ty0 k) v = true) (hl : k < fs.length)
    (hdg : decode cc pc = .ok (.putfield index, 3)) (kk : ∀ (H1 : Heap) (locs1 : List Loc), va_at g.1 vwCl (a, .inr (ci, fs.set k v)) H1 → H1.size = H.size → (∀ q, q ≠ a → H1[q]? = H[q]?) → va_S (nF F) H0 H1 locs1 → W p l e R s m args below meth c H1 locs1 cells slots Q (F0 m (pc + 3) ls rest)) : W p l e R s m args below meth c H locs cells slots Q (F0 m pc ls (v :: .ref a :: rest)) := by
  obtain ⟨hin, hty, hnm, hc⟩ := kc
  obtain ⟨hexec, hb, -, hown, hts, hK, hN, -⟩ := E
  have hap := va_apart (own := own) hts hin ty0 hty hnm hK hc
  obtain ⟨r, h1, cell, q1, q2, q3, q4⟩ := he
  have hr : r = (own, T, N) := Option.some.inj (h1.symm.trans hc)
  subst hr
  obtain ⟨hS, hfc, kC, hkC, hkind⟩ := hK.1 ci _ hc
  obtain ⟨cf, kf, fi, f, hi, hsl⟩ := hS k hk
  have hlay := hts _ (hin _ (u_in_lay hk))
  unfold u_lay at hlay
  rw [if_pos hfin] at hlay
  have hst := (u_facts hfc hkC (u_lays hts hin hk) hi).1
  have hcf : m.cls = cf := by
    obtain ⟨_, _, c', _, _, _, -, -, hf', -, -, -, hown2, -⟩ := Cond.laysFinal_spec hlay
    have e1 : c' = cf := by have := hi.symm.trans hf'; simp at this; exact this.1.symm
    rw [hT] at hown2
    rw [← e1]; exact Option.some.inj (hown.symm.trans hown2)
  have h6 := u_fits hfc hkC hkind (Or.inr hlay) hi (hty k hk) hn hfit
  rw [hT] at hi
  refine W.putFinK hexec hb hown (hts _ hlink) hi hst hcf hinit (by rw [q2]; exact h6) q1 q3 (by rw [hsl]; exact k2_hasslot (q4 k hk)) rfl rfl hdg fun H' e1 e2 e3 => ?_
  rw [hsl] at e1 ⊢
  exact kk H' _ ⟨_, hc, t_OB.to (V := updV (vp_V fs) k v) ⟨_, e1, q2, q3, t_set q4 hap hk v⟩ (fun j _ => vp_updV_set hl v j)⟩ e2 e3 (hS0.put e2 e3 ha)
/-! calls of nest mates -/
variable {post : Option Value → Heap → Prop} {mc ms : Nat} {y : MethodName} {b : ByteArray} {n k fr lo mc1 ms1 idx o : Nat} {ret : Option FieldType} {As : List Value} {P : Heap → Prop}
theorem ct_VN (E : EN p s m c cc nL args own g F) (hS : va_S (nF F) s.heap H locs) (hM : CT l y b n ret fr lo mc1 ms1 g F (.ref o :: As) P post) (ok : okV y b n ret k) {host : String} (hlk : Cond.methodLinkNest own idx y host ∈ lw_n) (hP : P H)
    (ho : ∃ cellB : Cell, H[o]? = some cellB ∧ cellB.vm.isStatics = false ∧ s.vm.findClass y.cls = some cellB.cls) (hlen : As.length = k) {lv : List (Nat × Value)} (hls : lv_has ls nL lv) (hR : Nat.ble (fr + 1) R.frames = true ∧ Nat.ble (8 + (n + 11) + lo) R.locals = true) (hst : Nat.ble (rest.map fun v => v.category).sum 8 = true)
    (hf : cells + mc1 ≤ R.cells ∧ slots + ms1 ≤ R.slots) (hd : decode cc pc = .ok (.invokevirtual idx, 3))
    {st0 : List Value} (hst0 : st0 = As.reverse ++ .ref o :: rest)
    (kk : ∀ (v : Option Value) (H1 : Heap) (locs1 : List Loc), post v H1 → va_S (nF F) s.heap H1 locs1 → H.size ≤ H1.size → W p l e R s m args below meth c H1 locs1 (cells + mc1) (slots + ms1) Q (F0 m (pc + 3) ls (v.toList ++ rest))) : W p l e R s m args below meth c H locs cells slots Q (F0 m pc ls st0) := by
  obtain ⟨hx, hb, hml, hown, hts, hG⟩ := E
  obtain ⟨⟨k1, k2, k3, k4, k5⟩, k6, k7⟩ := ok
  obtain ⟨q1, q2⟩ := ct_pre (P := P) hG hS hP (.ref o :: As)
  refine ct_go (va_runVN (As := As) (rest := rest) (Ts := lw_g) (own := own) (nL := nL) ⟨hx, hb, hml, hown, hts⟩ hM
    ⟨va_cnB k hts (ms_gi k2) rfl rfl rfl (hG.2.1 _ hlk) (hts _ k1) ⟨k3, k4, k5⟩ ⟨Nat.le_of_ble_eq_true hR.1, Nat.le_of_ble_eq_true hR.2⟩, hts _ k6, hts _ k7⟩
    ⟨q1, ho, q2⟩ rfl hlen hls.1 hst0 (lv_room (Nat.le_of_ble_eq_true hst)) hd hf) hS kk
theorem ct_INF (hF : ∀ q, F q → F1 q) (E : EN p s m c cc nL args own g F) (hS : va_S (nF F) s.heap H locs) (hM : CT l y b n none fr lo mc1 ms1 g F1 (.ref o :: As) P post) (ok : okI y b n none k) {host : String} (hlk : Cond.methodLinkNest own idx y host ∈ lw_n) (hP : P H)
    (hlen : As.length = k) {lv : List (Nat × Value)} (hls : lv_has ls nL lv) (hR : Nat.ble (fr + 1) R.frames = true ∧ Nat.ble (8 + (n + 11) + lo) R.locals = true) (hst : Nat.ble (rest.map fun v => v.category).sum 8 = true)
    (hf : cells + mc1 ≤ R.cells ∧ slots + ms1 ≤ R.slots) (hd : decode cc pc = .ok (.invokespecial idx, 3))
    {st0 : List Value} (hst0 : st0 = As.reverse ++ .ref o :: rest)
    (kk : ∀ (v : Option Value) (H1 : Heap) (locs1 : List Loc), post v H1 → va_S (nF F) s.heap H1 locs1 → H.size ≤ H1.size → (∀ q, q < H.size → F1 q → H1[q]? = H[q]?) → W p l e R s m args below meth c H1 locs1 (cells + mc1) (slots + ms1) Q (F0 m (pc + 3) ls (v.toList ++ rest))) : W p l e R s m args below meth c H locs cells slots Q (F0 m pc ls st0) := by
  obtain ⟨hx, hb, hml, hown, hts, hG⟩ := E
  obtain ⟨⟨k1, k2, k3, k4, k5⟩, k6, k7⟩ := ok
  refine ct_goF hF (va_runIN (As := As) (rest := rest) (Ts := lw_g) (own := own) (nL := nL) ⟨hx, hb, hml, hown, hts⟩ hM
    ⟨va_cnB k hts (ms_gi k2) rfl rfl rfl (hG.2.1 _ hlk) (hts _ k1) ⟨k3, k4, k5⟩ ⟨Nat.le_of_ble_eq_true hR.1, Nat.le_of_ble_eq_true hR.2⟩, k7, hts _ k6⟩
    (ct_preF (P := P) hF hG hS hP (.ref o :: As)) rfl hlen hls.1 hst0 (lv_room (Nat.le_of_ble_eq_true hst)) hd hf) hS kk
/-! null or a lift -/
theorem lv_ifnullR (hexec : p.tables.exec = Jvm.exec) (hb : c.code = cc) {r : Option Nat} {off : Int} {tgt : Nat} (hdg : decode cc pc = .ok (.ifnull off, 3)) (ht : (pc : Int) + off = (tgt : Int))
    (kt : r = none → W p l e R s m args below meth c H locs cells slots Q (F0 m tgt ls rest)) (kf : ∀ x, r = some x → W p l e R s m args below meth c H locs cells slots Q (F0 m (pc + 3) ls rest)) : W p l e R s m args below meth c H locs cells slots Q (F0 m pc ls (va_rf r :: rest)) := by
  cases r with
  | none => exact lv_ifnullN hexec hb hdg ht (kt rfl)
  | some x => exact lv_ifnull hexec hb hdg (kf x rfl)
theorem lv_ifnonnullR (hexec : p.tables.exec = Jvm.exec) (hb : c.code = cc) {r : Option Nat} {off : Int} {tgt : Nat} (hdg : decode cc pc = .ok (.ifnonnull off, 3)) (ht : (pc : Int) + off = (tgt : Int))
    (kt : ∀ x, r = some x → W p l e R s m args below meth c H locs cells slots Q (F0 m tgt ls rest)) (kf : r = none → W p l e R s m args below meth c H locs cells slots Q (F0 m (pc + 3) ls rest)) : W p l e R s m args below meth c H locs cells slots Q (F0 m pc ls (va_rf r :: rest)) := by
  cases r with
  | none => exact lv_ifnonnullN hexec hb hdg (kf rfl)
  | some x => exact lv_ifnonnull hexec hb hdg ht (kt x rfl)
end NR
/-! the desk's -/
theorem dO_fst {A : Nat → Nat → Nat} {t t2 : TT} {k i : Nat} : (dO A t k i).1 = (dO A t2 k i).1 := by
  unfold dO
  split <;> rfl
theorem DI.p {nb nl nr ne row i : Nat} {pr : List Nat} {t : TT} {x : Int32} (h : DI nb nl nr ne pr t) (h10 : row ≠ 10 := by decide) (h7 : row ≠ 7 := by decide) (h13 : row ≠ 13 := by decide) (h20 : row ≠ 20 := by decide) (h21 : row ≠ 21 := by decide) (h5 : row ≠ 5 := by decide) : DI nb nl nr ne pr (tu t row i x) := by
  obtain ⟨d1, d2, d3, d4, d5, d6, d7, d8⟩ := h
  exact ⟨d1, d2, by rw [tu_r h10.symm]; exact d3, by rw [tu_r h7.symm]; exact d4, by rw [tu_r h13.symm]; exact d5, by rw [tu_r h20.symm]; exact d6, by rw [tu_r h21.symm]; exact d7, by rw [tu_r h5.symm]; exact d8⟩
theorem tu_all {t : TT} {row i n : Nat} {x : Int32} {P : Int32 → Prop} (h : ∀ j, j < n → P (t row j)) (hx : P x) : ∀ j, j < n → P (tu t row i x row j) := fun j hj => by
  by_cases c : j = i
  · subst c; rw [tu_s]; exact hx
  · rw [tu_i c]; exact h j hj
theorem DI.p10 {nb nl nr ne i : Nat} {pr : List Nat} {t : TT} {x : Int32} (h : DI nb nl nr ne pr t) (hx : x = -1 ∨ ∃ q, q < nl ∧ x = nI q) : DI nb nl nr ne pr (tu t 10 i x) := by
  obtain ⟨d1, d2, d3, d4, d5, d6, d7, d8⟩ := h
  exact ⟨d1, d2, tu_all (P := fun x => x = -1 ∨ ∃ q, q < nl ∧ x = nI q) d3 hx, by rw [tu_r (by decide)]; exact d4, by rw [tu_r (by decide)]; exact d5, by rw [tu_r (by decide)]; exact d6, by rw [tu_r (by decide)]; exact d7, by rw [tu_r (by decide)]; exact d8⟩
theorem DI.p13 {nb nl nr ne i : Nat} {pr : List Nat} {t : TT} {x : Int32} (h : DI nb nl nr ne pr t) (hx : narrow .char (.int x) = .int x) : DI nb nl nr ne pr (tu t 13 i x) := by
  obtain ⟨d1, d2, d3, d4, d5, d6, d7, d8⟩ := h
  exact ⟨d1, d2, by rw [tu_r (by decide)]; exact d3, by rw [tu_r (by decide)]; exact d4, tu_all (P := fun x => narrow .char (.int x) = .int x) d5 hx, by rw [tu_r (by decide)]; exact d6, by rw [tu_r (by decide)]; exact d7, by rw [tu_r (by decide)]; exact d8⟩
theorem DI.p20 {nb nl nr ne i : Nat} {pr : List Nat} {t : TT} {x : Int32} (h : DI nb nl nr ne pr t) (hx : narrow .char (.int x) = .int x) : DI nb nl nr ne pr (tu t 20 i x) := by
  obtain ⟨d1, d2, d3, d4, d5, d6, d7, d8⟩ := h
  exact ⟨d1, d2, by rw [tu_r (by decide)]; exact d3, by rw [tu_r (by decide)]; exact d4, by rw [tu_r (by decide)]; exact d5, tu_all (P := fun x => narrow .char (.int x) = .int x) d6 hx, by rw [tu_r (by decide)]; exact d7, by rw [tu_r (by decide)]; exact d8⟩
theorem DI.p21 {nb nl nr ne i : Nat} {pr : List Nat} {t : TT} {x : Int32} (h : DI nb nl nr ne pr t) (hx : narrow .boolean (.int x) = .int x) : DI nb nl nr ne pr (tu t 21 i x) := by
  obtain ⟨d1, d2, d3, d4, d5, d6, d7, d8⟩ := h
  exact ⟨d1, d2, by rw [tu_r (by decide)]; exact d3, by rw [tu_r (by decide)]; exact d4, by rw [tu_r (by decide)]; exact d5, by rw [tu_r (by decide)]; exact d6, tu_all (P := fun x => narrow .boolean (.int x) = .int x) d7 hx, by rw [tu_r (by decide)]; exact d8⟩
theorem DI.p5 {nb nl nr ne i : Nat} {pr : List Nat} {t : TT} {x : Int32} (h : DI nb nl nr ne pr t) (hx : narrow .boolean (.int x) = .int x) : DI nb nl nr ne pr (tu t 5 i x) := by
  obtain ⟨d1, d2, d3, d4, d5, d6, d7, d8⟩ := h
  exact ⟨d1, d2, by rw [tu_r (by decide)]; exact d3, by rw [tu_r (by decide)]; exact d4, by rw [tu_r (by decide)]; exact d5, by rw [tu_r (by decide)]; exact d6, by rw [tu_r (by decide)]; exact d7, tu_all (P := fun x => narrow .boolean (.int x) = .int x) d8 hx⟩
def pg (pr : List Nat) (i : Nat) : Nat := (pr[i]?).getD 0
theorem pg_of {pr : List Nat} {i r : Nat} (h : pr[i]? = some r) : pg pr i = r := by rw [pg, h]; rfl
section DR
variable {p : Program} {l : Launch} {e : Env} {R : Room} {s : State} {m : MethodId} {args : Array Value} {below : List Frame} {meth : Method} {c : Code} {H : Heap} {locs : List Loc} {cells slots : Nat} {Q : State → Prop}
variable {cc : ByteArray} {pc nL : Nat} {ls : Array Slot} {rest : List Value} {g : cG} {F F1 : Nat → Prop} {H0 : Heap}
variable {A : Nat → Nat → Nat} {nb nl nr ne : Nat} {pr : List Nat} {t : TT}
theorem PD.recv {F2 : Nat → Prop} (hG : GE g F2 s) (h : PD g F A nb nl nr ne pr t H) : ∃ cellB : Cell, H[A 0 0]? = some cellB ∧ cellB.vm.isStatics = false ∧ s.vm.findClass RX4 = some cellB.cls :=
  va_recv (q := (RX4, TX4, 12)) (q0 := 0) (ci := 7) hG.1 (va_P1 (h.ob (k := 0) (i := 0) (by exact Nat.one_pos) (Or.inl rfl) (by decide)).1) rfl rfl
theorem PD.recvK {F2 : Nat → Prop} (hG : GE g F2 s) (h : PD g F A nb nl nr ne pr t H) {k i : Nat} (hi : i < dN nb nl nr ne k) (hk : kOb k) (h7 : k ≠ 7) {C : String} {T : u_T} {N ci : Nat} {ty0 : Nat → FieldType} (kc : KC C T N ci ty0) (hci : (dO A t k i).1 = ci) : ∃ cellB : Cell, H[A k i]? = some cellB ∧ cellB.vm.isStatics = false ∧ s.vm.findClass C = some cellB.cls := by
  subst hci
  exact va_recv (q := (C, T, N)) (q0 := 0) hG.1 (va_P1 (h.ob hi hk h7).1) kc.2.2.2 rfl
theorem PD.lrecv {F2 : Nat → Prop} (hG : GE g F2 s) (h : PD g F A nb nl nr ne pr t H) {j : Nat} (hj : j < 5) : ∃ cellB : Cell, H[A 2 j]? = some cellB ∧ cellB.vm.isStatics = false ∧ s.vm.findClass RJx4a65c = some cellB.cls := by
  obtain ⟨md, q, h1⟩ := h.alo hj
  exact va_recv (q := (RJx4a65c, TJx4a65c, 3)) (q0 := 0) (ci := 2) hG.1 (va_P1 h1) rfl rfl
/-- a field of the desk -/
theorem dg (E : EN p s m c cc nL args RX4 g F) (hP : PD g F A nb nl nr ne pr t H) (j : Nat) {x : Nat} {v : Value} (hlink : Cond.fieldLink RX4 x RX4 (TX4 j).2.1 (TX4 j).2.2.1 ∈ lw_g) (hd : decode cc pc = .ok (.getfield x, 3)) (hj : Nat.ble (j + 1) 12 = true := by rfl) (hT : (TX4 j).1 = RX4 := by rfl) (hv : (dO A t 0 0).2[j]? = some v := by rfl)
    (kk : W p l e R s m args below meth c H locs cells slots Q (F0 m (pc + 3) ls (v :: rest))) : W p l e R s m args below meth c H locs cells slots Q (F0 m pc ls (.ref (A 0 0) :: rest)) :=
  w_get E (C := RX4) (T := TX4) (N := 12) (ci := 7) ly_X4 (hP.ob (k := 0) (i := 0) (by exact Nat.one_pos) (Or.inl rfl) (by decide)).1 rfl j (Nat.le_of_ble_eq_true hj) hT hlink hv hd kk
theorem dp (E : EN p s m c cc nL args RX4 g F) (hS : va_S (nF F) H0 H locs) (hP : PD g F A nb nl nr ne pr t H) (j row : Nat) {idx : Nat} {x : Int32} (hlink : Cond.fieldLink RX4 idx RX4 (TX4 j).2.1 (TX4 j).2.2.1 ∈ lw_g) (hset : (dO A t 0 0).2.set j (.int x) = (dO A (tu t row 0 x) 0 0).2) (hdi : DI nb nl nr ne pr (tu t row 0 x)) (hd : decode cc pc = .ok (.putfield idx, 3))
    (hr : dK row = 0 := by rfl) (hj : Nat.ble (j + 1) 12 = true := by rfl) (hT : (TX4 j).1 = RX4 := by rfl) (hfin : (TX4 j).2.2.2 = false := by rfl) (hty : tyX4 j = .int := by rfl)
    (kk : ∀ (H1 : Heap) (locs1 : List Loc), va_S (nF F) H0 H1 locs1 → PD g F A nb nl nr ne pr (tu t row 0 x) H1 → W p l e R s m args below meth c H1 locs1 cells slots Q (F0 m (pc + 3) ls rest)) : W p l e R s m args below meth c H locs cells slots Q (F0 m pc ls (.int x :: .ref (A 0 0) :: rest)) := by
  have ho := hP.ob (k := 0) (i := 0) (by exact Nat.one_pos) (Or.inl rfl) (by decide)
  refine w_put E (C := RX4) (T := TX4) (N := 12) (ci := 7) ly_X4 tyX4 tyX4_ok nmX4 hS ho.1 ho.2 rfl j (Nat.le_of_ble_eq_true hj) hT hlink hfin (by rw [hty]; rfl) (by rw [hty]; rfl) (Nat.le_of_ble_eq_true hj) hd fun H1 locs1 e1 z oq hS1 => kk H1 locs1 hS1 (hP.put (by exact Nat.one_pos) (Or.inl rfl) (by decide) hr hdi (Nat.le_of_eq z.symm) ?_ oq)
  have e2 : dO A (tu t row 0 x) 0 0 = (7, (dO A (tu t row 0 x) 0 0).2) := rfl
  rw [e2, ← hset]
  exact e1
/-- a field of a badge, a lift, a rider -/
theorem dgn (E : EN p s m c cc nL args RX4 g F) (hP : PD g F A nb nl nr ne pr t H) (k i : Nat) (hi : i < dN nb nl nr ne k) {C : String} {T : u_T} {N ci : Nat} {ty0 : Nat → FieldType} (kc : KC C T N ci ty0) (j : Nat) {x : Nat} {v : Value} (hlink : Cond.fieldLinkNest RX4 x C (T j).2.1 (T j).2.2.1 RX4 ∈ lw_n) (hd : decode cc pc = .ok (.getfield x, 3)) (hk : kOb k := by decide) (h7 : k ≠ 7 := by decide) (hci : (dO A t k i).1 = ci := by rfl) (hj : Nat.ble (j + 1) N = true := by rfl) (hT : (T j).1 = C := by rfl) (hv : (dO A t k i).2[j]? = some v := by rfl)
    (kk : W p l e R s m args below meth c H locs cells slots Q (F0 m (pc + 3) ls (v :: rest))) : W p l e R s m args below meth c H locs cells slots Q (F0 m pc ls (.ref (A k i) :: rest)) := by
  subst hci
  exact w_getN E kc (hP.ob hi hk h7).1 j (Nat.le_of_ble_eq_true hj) hT hlink hv hd kk
theorem dpn (E : EN p s m c cc nL args RX4 g F) (hS : va_S (nF F) H0 H locs) (hP : PD g F A nb nl nr ne pr t H) (k i : Nat) (hi : i < dN nb nl nr ne k) {C : String} {T : u_T} {N ci : Nat} {ty0 : Nat → FieldType} (kc : KC C T N ci ty0) (j row : Nat) {idx : Nat} {x : Int32} {v : Value} (hlink : Cond.fieldLinkNest RX4 idx C (T j).2.1 (T j).2.2.1 RX4 ∈ lw_n) (hset : (dO A t k i).2.set j v = (dO A (tu t row i x) k i).2) (hdi : DI nb nl nr ne pr (tu t row i x)) (hn : narrow (ty0 j) v = v) (hfit : fits (ty0 j) v = true) (hd : decode cc pc = .ok (.putfield idx, 3))
    (hr : dK row = k := by rfl) (hk : kOb k := by decide) (h7 : k ≠ 7 := by decide) (hci : (dO A t k i).1 = ci := by rfl) (hj : Nat.ble (j + 1) N = true := by rfl) (hT : (T j).1 = C := by rfl) (hfin : (T j).2.2.2 = false := by rfl) (hl : Nat.ble (j + 1) (dO A t k i).2.length = true := by rfl)
    (kk : ∀ (H1 : Heap) (locs1 : List Loc), va_S (nF F) H0 H1 locs1 → PD g F A nb nl nr ne pr (tu t row i x) H1 → W p l e R s m args below meth c H1 locs1 cells slots Q (F0 m (pc + 3) ls rest)) : W p l e R s m args below meth c H locs cells slots Q (F0 m pc ls (v :: .ref (A k i) :: rest)) := by
  subst hci
  have ho := hP.ob hi hk h7
  refine w_putN E kc hS ho.1 ho.2 j (Nat.le_of_ble_eq_true hj) hT hlink hfin hn hfit (Nat.le_of_ble_eq_true hl) hd fun H1 locs1 e1 z oq hS1 => kk H1 locs1 hS1 (hP.put hi hk h7 hr hdi (Nat.le_of_eq z.symm) ?_ oq)
  have e2 : dO A (tu t row i x) k i = ((dO A t k i).1, (dO A (tu t row i x) k i).2) := by rw [dO_fst (t := t) (t2 := tu t row i x)]
  rw [e2, ← hset]
  exact e1
/-- places of the desk's arrays -/
theorem dai (E : EN p s m c cc nL args RX4 g F) (hP : PD g F A nb nl nr ne pr t H) (j q : Nat) {i v : Int32} (hd : decode cc pc = .ok (.iaload, 1)) (hi : i = nI q) (hq : q < 10) (hv : t (j + 1) q = v) (hj : Nat.ble (j + 1) 3 = true := by rfl)
    (kk : W p l e R s m args below meth c H locs cells slots Q (F0 m (pc + 1) ls (.int v :: rest))) : W p l e R s m args below meth c H locs cells slots Q (F0 m pc ls (.int i :: .ref (A 1 j) :: rest)) := by
  obtain ⟨h1, h2⟩ := vp_in9 hi hq rfl
  exact w_iald E (hP.arr (Nat.le_of_ble_eq_true hj)).1 h1 hd (by rw [h2, hv]; exact kk)
theorem das (E : EN p s m c cc nL args RX4 g F) (hS : va_S (nF F) H0 H locs) (hP : PD g F A nb nl nr ne pr t H) (j q : Nat) {i v : Int32} (hd : decode cc pc = .ok (.iastore, 1)) (hi : i = nI q) (hq : q < 10) (hj : Nat.ble (j + 1) 3 = true := by rfl)
    (kk : ∀ (H1 : Heap) (locs1 : List Loc), va_S (nF F) H0 H1 locs1 → PD g F A nb nl nr ne pr (tu t (j + 1) q v) H1 → W p l e R s m args below meth c H1 locs1 cells slots Q (F0 m (pc + 1) ls rest)) : W p l e R s m args below meth c H locs cells slots Q (F0 m pc ls (.int v :: .int i :: .ref (A 1 j) :: rest)) := by
  obtain ⟨h1, h2⟩ := vp_in9 hi hq rfl
  have ho := hP.arr (Nat.le_of_ble_eq_true hj)
  exact w_iast E hS ho.1 ho.2 h1 hd fun H1 locs1 e1 z oq hS1 => kk H1 locs1 hS1 (hP.aput (Nat.le_of_ble_eq_true hj) (Nat.le_of_eq z.symm) (by rw [h2] at e1; exact e1) oq)
/-! calls of the lists -/
theorem d_len (E : EN p s m c cc nL args RX4 g F) (hS : va_S (nF F) s.heap H locs) (hP : PD g F A nb nl nr ne pr t H) (j : Nat) (n : Nat) {lv : List (Nat × Value)} (hls : lv_has ls nL lv) (hR : Nat.ble 1 R.frames = true ∧ Nat.ble 20 R.locals = true) (hf : cells ≤ R.cells ∧ slots ≤ R.slots) (hd : decode cc pc = .ok (.invokevirtual 58, 3)) (hst : Nat.ble (rest.map fun v => v.category).sum 8 = true := by rfl) (hn : dLn nb nl nr ne pr j = n := by rfl) (hj : Nat.ble (j + 1) 5 = true := by rfl)
    (kk : ∀ (locs1 : List Loc), va_S (nF F) s.heap H locs1 → W p l e R s m args below meth c H locs1 cells slots Q (F0 m (pc + 3) ls (.int (nI n) :: rest))) : W p l e R s m args below meth c H locs cells slots Q (F0 m pc ls (.ref (A 2 j) :: rest)) := by
  subst hn
  refine ct_V E hS (c_AL_size l g F (A 2 j) (dLn nb nl nr ne pr j) (fun X => X = H) (fun H9 h9 => by subst h9; exact hP.alo (Nat.le_of_ble_eq_true hj))) ok_Jx4a65c_size_8abf5 lk_X4_58 rfl (hP.lrecv E.2.2.2.2.2 (Nat.le_of_ble_eq_true hj)) rfl hls hR hst hf hd rfl (fun v9 H1 locs1 hv9 hS1 hz => ?_)
  obtain ⟨rfl, rfl⟩ := hv9
  exact kk locs1 hS1
theorem d_emp (E : EN p s m c cc nL args RX4 g F) (hS : va_S (nF F) s.heap H locs) (hP : PD g F A nb nl nr ne pr t H) (j : Nat) (n : Nat) {lv : List (Nat × Value)} (hls : lv_has ls nL lv) (hR : Nat.ble 1 R.frames = true ∧ Nat.ble 20 R.locals = true) (hf : cells ≤ R.cells ∧ slots ≤ R.slots) (hd : decode cc pc = .ok (.invokevirtual 195, 3)) (hst : Nat.ble (rest.map fun v => v.category).sum 8 = true := by rfl) (hn : dLn nb nl nr ne pr j = n := by rfl) (hj : Nat.ble (j + 1) 5 = true := by rfl)
    (kk : ∀ (locs1 : List Loc), va_S (nF F) s.heap H locs1 → W p l e R s m args below meth c H locs1 cells slots Q (F0 m (pc + 3) ls (.int (b2i (nI n = 0)) :: rest))) : W p l e R s m args below meth c H locs cells slots Q (F0 m pc ls (.ref (A 2 j) :: rest)) := by
  subst hn
  refine ct_V E hS (c_AL_isEmpty l g F (A 2 j) (dLn nb nl nr ne pr j) (fun X => X = H) (fun H9 h9 => by subst h9; exact hP.alo (Nat.le_of_ble_eq_true hj))) ok_Jx4a65c_isEmpty_aae02 lk_X4_195 rfl (hP.lrecv E.2.2.2.2.2 (Nat.le_of_ble_eq_true hj)) rfl hls hR hst hf hd rfl (fun v9 H1 locs1 hv9 hS1 hz => ?_)
  obtain ⟨rfl, rfl⟩ := hv9
  exact kk locs1 hS1
theorem AL.gets {a q i y : Nat} {els : List Nat} (h : AL g F a q els H) (hy : els[i]? = some y) : ∃ md q cap f, va_at g.1 vwCl (a, alO md q els.length) H ∧ va_at g.1 vwCl (q, alA g cap f) H ∧ i < cap ∧ cap ≤ 200 ∧ f i = some y := by
  obtain ⟨h1, ⟨md, h2⟩, h3, h4⟩ := h
  have hi : i < els.length := (List.getElem?_eq_some_iff.mp hy).1
  rcases h4 with ⟨rfl, -⟩ | ⟨h5, h6, cap, f, h7, h8, h9, h10, h11⟩
  · exact absurd hi (by simp)
  · exact ⟨md, q, cap, f, h2, h7, by omega, h10, by rw [h11 i hi, hy]⟩
theorem d_get (E : EN p s m c cc nL args RX4 g F) (hS : va_S (nF F) s.heap H locs) (hP : PD g F A nb nl nr ne pr t H) (j k i n y : Nat) {x : Int32} (hx : x = nI i) (hj : j < 4) (hn : dLn nb nl nr ne pr j = n) (hn9 : n < 1000) (hy : (dEl A nb nl nr ne pr j)[i]? = some (A k y)) (hyk : y < dN nb nl nr ne k) {C : String} {T : u_T} {N ci : Nat} {ty0 : Nat → FieldType} (kc : KC C T N ci ty0) (hci : (dO A t k y).1 = ci) (hk : kOb k) (h7 : k ≠ 7) {idx : Nat} (hcl : Cond.classLink RX4 idx C ∈ lw_g) {lv : List (Nat × Value)} (hls : lv_has ls nL lv) (hR : Nat.ble 3 R.frames = true ∧ Nat.ble 64 R.locals = true) (hf : cells ≤ R.cells ∧ slots ≤ R.slots) (hd : decode cc pc = .ok (.invokevirtual 214, 3)) (hd2 : decode cc (pc + 3) = .ok (.checkcast idx, 3)) (hst : Nat.ble (rest.map fun v => v.category).sum 8 = true)
    (kk : ∀ (locs1 : List Loc), va_S (nF F) s.heap H locs1 → W p l e R s m args below meth c H locs1 cells slots Q (F0 m (pc + 6) ls (.ref (A k y) :: rest))) : W p l e R s m args below meth c H locs cells slots Q (F0 m pc ls (.int x :: .ref (A 2 j) :: rest)) := by
  subst hx
  have hil : i < (dEl A nb nl nr ne pr j).length := (List.getElem?_eq_some_iff.mp hy).1
  rw [dEl_len, hn] at hil
  refine ct_V E hS (c_AL_get l g F (A 2 j) i (A k y) n (fun X => X = H) hn9 hil (fun H9 h9 => by
    subst h9
    obtain ⟨q, hq⟩ := hP.al hj
    obtain ⟨md, q, cap, f, z⟩ := hq.gets hy
    rw [dEl_len, hn] at z
    exact ⟨md, q, cap, f, z⟩)) ok_Jx4a65c_get_915e3 lk_X4_214 rfl (hP.lrecv E.2.2.2.2.2 (by omega)) rfl hls hR hst hf hd rfl (fun v9 H1 locs1 hv9 hS1 hz => ?_)
  obtain ⟨rfl, rfl⟩ := hv9
  exact va_castS E.1 E.2.1 E.2.2.2.1 (E.2.2.2.2.1 _ hcl) (E.2.2.2.2.2.1.1 ci _ kc.2.2.2).2 (hP.recvK E.2.2.2.2.2 hyk hk h7 kc hci) hd2 (kk locs1 hS1)
theorem d_getP (E : EN p s m c cc nL args RX4 g F) (hS : va_S (nF F) s.heap H locs) (hP : PD g F A nb nl nr ne pr t H) (i : Nat) {x : Int32} (hx : x = nI i) (hi : i < pr.length) {lv : List (Nat × Value)} (hls : lv_has ls nL lv) (hR : Nat.ble 3 R.frames = true ∧ Nat.ble 64 R.locals = true) (hf : cells ≤ R.cells ∧ slots ≤ R.slots) (hd : decode cc pc = .ok (.invokevirtual 214, 3)) (hd2 : decode cc (pc + 3) = .ok (.checkcast 123, 3)) (hst : Nat.ble (rest.map fun v => v.category).sum 8 = true := by rfl)
    (kk : ∀ r, r < nr → pr[i]? = some r → pg pr i = r → ∀ (locs1 : List Loc), va_S (nF F) s.heap H locs1 → W p l e R s m args below meth c H locs1 cells slots Q (F0 m (pc + 6) ls (.ref (A 6 r) :: rest))) : W p l e R s m args below meth c H locs cells slots Q (F0 m pc ls (.int x :: .ref (A 2 3) :: rest)) := by
  have h1 : pr[i]? = some (pr[i]) := List.getElem?_eq_getElem hi
  have h2 : pr[i] < nr := hP.di.2.1 _ (List.getElem_mem hi)
  refine d_get E hS hP 3 6 i pr.length (pr[i]) hx (by decide) rfl (by have := hP.di.1; omega) ?_ h2 kcX3 rfl (by decide) (by decide) kl_X4_123 hls hR hf hd hd2 hst (kk _ h2 h1 (pg_of h1))
  show (pr.map (A 6))[i]? = _
  rw [List.getElem?_map, h1]; rfl
theorem d_getR (E : EN p s m c cc nL args RX4 g F) (hS : va_S (nF F) s.heap H locs) (hP : PD g F A nb nl nr ne pr t H) (i : Nat) {x : Int32} (hx : x = nI i) (hi : i < nr) {lv : List (Nat × Value)} (hls : lv_has ls nL lv) (hR : Nat.ble 3 R.frames = true ∧ Nat.ble 64 R.locals = true) (hf : cells ≤ R.cells ∧ slots ≤ R.slots) (hd : decode cc pc = .ok (.invokevirtual 214, 3)) (hd2 : decode cc (pc + 3) = .ok (.checkcast 123, 3)) (hst : Nat.ble (rest.map fun v => v.category).sum 8 = true := by rfl)
    (kk : ∀ (locs1 : List Loc), va_S (nF F) s.heap H locs1 → W p l e R s m args below meth c H locs1 cells slots Q (F0 m (pc + 6) ls (.ref (A 6 i) :: rest))) : W p l e R s m args below meth c H locs cells slots Q (F0 m pc ls (.int x :: .ref (A 2 2) :: rest)) := by
  refine d_get E hS hP 2 6 i nr i hx (by decide) rfl (by have := hP.di.1; omega) ?_ hi kcX3 rfl (by decide) (by decide) kl_X4_123 hls hR hf hd hd2 hst kk
  show ((List.range nr).map (A 6))[i]? = _
  rw [List.getElem?_map, List.getElem?_range hi]; rfl
theorem d_getL (E : EN p s m c cc nL args RX4 g F) (hS : va_S (nF F) s.heap H locs) (hP : PD g F A nb nl nr ne pr t H) (i : Nat) {x : Int32} (hx : x = nI i) (hi : i < nl) {lv : List (Nat × Value)} (hls : lv_has ls nL lv) (hR : Nat.ble 3 R.frames = true ∧ Nat.ble 64 R.locals = true) (hf : cells ≤ R.cells ∧ slots ≤ R.slots) (hd : decode cc pc = .ok (.invokevirtual 214, 3)) (hd2 : decode cc (pc + 3) = .ok (.checkcast 67, 3)) (hst : Nat.ble (rest.map fun v => v.category).sum 8 = true := by rfl)
    (kk : ∀ (locs1 : List Loc), va_S (nF F) s.heap H locs1 → W p l e R s m args below meth c H locs1 cells slots Q (F0 m (pc + 6) ls (.ref (A 5 i) :: rest))) : W p l e R s m args below meth c H locs cells slots Q (F0 m pc ls (.int x :: .ref (A 2 1) :: rest)) := by
  refine d_get E hS hP 1 5 i nl i hx (by decide) rfl (by have := hP.di.1; omega) ?_ hi kcX2 rfl (by decide) (by decide) kl_X4_67 hls hR hf hd hd2 hst kk
  show ((List.range nl).map (A 5))[i]? = _
  rw [List.getElem?_map, List.getElem?_range hi]; rfl
theorem d_getB (E : EN p s m c cc nL args RX4 g F) (hS : va_S (nF F) s.heap H locs) (hP : PD g F A nb nl nr ne pr t H) (i : Nat) {x : Int32} (hx : x = nI i) (hi : i < nb) {lv : List (Nat × Value)} (hls : lv_has ls nL lv) (hR : Nat.ble 3 R.frames = true ∧ Nat.ble 64 R.locals = true) (hf : cells ≤ R.cells ∧ slots ≤ R.slots) (hd : decode cc pc = .ok (.invokevirtual 214, 3)) (hd2 : decode cc (pc + 3) = .ok (.checkcast 90, 3)) (hst : Nat.ble (rest.map fun v => v.category).sum 8 = true := by rfl)
    (kk : ∀ (locs1 : List Loc), va_S (nF F) s.heap H locs1 → W p l e R s m args below meth c H locs1 cells slots Q (F0 m (pc + 6) ls (.ref (A 4 i) :: rest))) : W p l e R s m args below meth c H locs cells slots Q (F0 m pc ls (.int x :: .ref (A 2 0) :: rest)) := by
  refine d_get E hS hP 0 4 i nb i hx (by decide) rfl (by have := hP.di.1; omega) ?_ hi kcX0 rfl (by decide) (by decide) kl_X4_90 hls hR hf hd hd2 hst kk
  show ((List.range nb).map (A 4))[i]? = _
  rw [List.getElem?_map, List.getElem?_range hi]; rfl
end DR
/-! fields set -/
section HS
variable {A : Nat → Nat → Nat} {t : TT} {i : Nat} {x : Int32}
theorem hs_now : (dO A t 0 0).2.set 8 (.int x) = (dO A (tu t 23 0 x) 0 0).2 := by simp [dO, tu]
theorem hs_alarm : (dO A t 0 0).2.set 9 (.int x) = (dO A (tu t 60 0 x) 0 0).2 := by simp [dO, tu]
theorem hs_open : (dO A t 0 0).2.set 10 (.int x) = (dO A (tu t 24 0 x) 0 0).2 := by simp [dO, tu]
theorem hs_ref : (dO A t 0 0).2.set 11 (.int x) = (dO A (tu t 25 0 x) 0 0).2 := by simp [dO, tu]
theorem hs_5 : (dO A t 4 i).2.set 1 (.int x) = (dO A (tu t 5 i x) 4 i).2 := by simp [dO, tu]
theorem hs_18 : (dO A t 5 i).2.set 2 (.int x) = (dO A (tu t 18 i x) 5 i).2 := by simp [dO, tu]
theorem hs_21 : (dO A t 5 i).2.set 3 (.int x) = (dO A (tu t 21 i x) 5 i).2 := by simp [dO, tu]
theorem hs_20 : (dO A t 5 i).2.set 4 (.int x) = (dO A (tu t 20 i x) 5 i).2 := by simp [dO, tu]
theorem hs_19 : (dO A t 5 i).2.set 5 (.int x) = (dO A (tu t 19 i x) 5 i).2 := by simp [dO, tu]
theorem hs_8 : (dO A t 6 i).2.set 2 (.int x) = (dO A (tu t 8 i x) 6 i).2 := by simp [dO, tu]
theorem hs_9 : (dO A t 6 i).2.set 3 (.int x) = (dO A (tu t 9 i x) 6 i).2 := by simp [dO, tu]
theorem hs_13 : (dO A t 6 i).2.set 4 (.int x) = (dO A (tu t 13 i x) 6 i).2 := by simp [dO, tu]
theorem hs_10 : (dO A t 6 i).2.set 5 (va_rf (lref A x)) = (dO A (tu t 10 i x) 6 i).2 := by simp [dO, tu]
theorem hs_40 : (dO A t 6 i).2.set 6 (.int x) = (dO A (tu t 40 i x) 6 i).2 := by simp [dO, tu]
end HS
