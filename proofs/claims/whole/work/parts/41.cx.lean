/-! contracts of methods that return or throw -/
theorem lw_not {w : Cond} (h : w ∈ lw_n) : w.onTables = true := by
  have h2 := (List.mem_filter.mp h).2
  cases w <;> first | rfl | exact absurd h2 (by simp [is_nest])
def Xg (F : Nat → Prop) (XP : String → Heap → Prop) : String → State → State → Prop := fun E st t => XP E t.heap ∧ va_F (nF F) st t
def CX (l : Launch) (y : MethodName) (b : ByteArray) (n : Nat) (ret : Option FieldType) (fr lo mc ms : Nat) (g : cG) (F : Nat → Prop) (as : List Value) (P : Heap → Prop) (post : Option Value → Heap → Prop) (XP : String → Heap → Prop) : Prop :=
  vx_Met l y (ms_w y b n ret) { frames := fr, cells := mc, slots := ms, locals := lo } (va_Pc as (fun U => GE g F U ∧ P U.heap)) (Qg F post) (Xg F XP) mc ms (nF F)
theorem CX.of {l : Launch} {y : MethodName} {b : ByteArray} {n : Nat} {ret : Option FieldType} {fr lo mc ms : Nat} {g : cG} {F : Nat → Prop} {as : List Value} {P : Heap → Prop} {post : Option Value → Heap → Prop} {XP : String → Heap → Prop}
    (hy : plainName y.cls = true) (hn : Nat.ble (lg_sl as).length n = true)
    (body : ∀ (p : Program) (e : Env) (s : State) (m : MethodId) (args : Array Value) (below : List Frame) (meth : Method) (c : Code), EN p s m c b n args y.cls g F → meth.sig.returnType = ret → meth.locks = false → (∀ x ∈ c.exceptionTable.toList, False) → P s.heap → ∀ ls : Array Slot, lv_has ls n (lv_args 0 as) →
      W p l e { frames := fr, cells := mc, slots := ms, locals := lo } s m args below meth c s.heap [] 0 0 (vx_MQ below (Qg F post) (Xg F XP) args s mc ms (nF F)) (F0 m 0 ls [])) : CX l y b n ret fr lo mc ms g F as P post XP := by
  refine vx_ofW (cc := b) (maxL := n) (ret := ret) hy rfl ?_
  intro p e s m args below meth c s₁ B hml ht hv
  obtain ⟨rfl, hG, hP⟩ := hv
  have hts := atoms_spec (ws := ms_w y b n ret) B.pre
  have hl := lv_entry as (n := n) (Nat.le_of_ble_eq_true hn)
  rw [lg_entry_eq]
  exact body p e s m _ below meth c ⟨B.exec, B.bytes, hml, findClass_of_methodNamed B.named, fun w hw => hts w (List.mem_cons_of_mem _ hw), hG⟩ B.returns B.notSynchronized ht hP _ hl
section CXR
variable {p : Program} {l : Launch} {e : Env} {R : Room} {s : State} {m : MethodId} {args : Array Value} {below : List Frame} {meth : Method} {c : Code} {H : Heap} {locs : List Loc} {cells slots : Nat} {Q : State → Prop}
variable {cc : ByteArray} {pc nL : Nat} {ls : Array Slot} {rest : List Value} {own : String} {g : cG} {F : Nat → Prop} {H0 : Heap} {post post1 : Option Value → Heap → Prop} {XP XP1 : String → Heap → Prop} {mc ms : Nat}
variable {y : MethodName} {b : ByteArray} {n k fr lo mc1 ms1 idx o : Nat} {ret : Option FieldType} {As : List Value} {P : Heap → Prop}
theorem cx_go {st0 : List Value} {a : Array Value} (hr : vx_Run p l e R s m args below meth c H locs cells slots mc1 ms1 (F0 m pc ls st0) rest (Qg F post1 a) (Xg F XP1) (nF F)) (hS : va_S (nF F) H0 H locs)
    (kx : ∀ (E : String) (ce : Cell) (q : Addr) (H1 : Heap) (locs1 : List Loc), XP1 E H1 → H.size ≤ H1.size → va_S (nF F) H0 H1 locs1 → H1[q]? = some ce → ce.vm = .none → s.vm.findClass E = some ce.cls → vx_W p l e R s m args below meth c H1 locs1 (cells + mc1) (slots + ms1) Q (F0 m pc ls rest) q)
    (kk : ∀ (v : Option Value) (H1 : Heap) (locs1 : List Loc), post1 v H1 → va_S (nF F) H0 H1 locs1 → H.size ≤ H1.size → W p l e R s m args below meth c H1 locs1 (cells + mc1) (slots + ms1) Q (F0 m (pc + 3) ls (v.toList ++ rest))) : W p l e R s m args below meth c H locs cells slots Q (F0 m pc ls st0) := by
  intro T hT X
  rcases hr T hT X with ⟨v, st₀, t, T', L, h0, X', hL, e1, e2, ⟨⟨v', hv, hp⟩, hF⟩, st⟩ | ⟨q, st₀, t, T', L, E, ce, h0, X', hL, e1, e2, ⟨hp, hF⟩, hce, hcv, hcl, st⟩
  · cases hv
    obtain ⟨k1, k2, k3⟩ := vx_keep h0 e1 hS (fun _ _ h => h) (fun _ h => h) hL hF
    obtain ⟨t2, a1, b1⟩ := kk v T'.heap (locs ++ L) (by rw [e1]; exact hp) k3 k1 T' rfl X'
    exact ⟨t2, st t2 a1, b1⟩
  · obtain ⟨k1, k2, k3⟩ := vx_keep h0 e1 hS (fun _ _ h => h) (fun _ h => h) hL hF
    obtain ⟨t2, a1, b1⟩ := kx E ce q T'.heap (locs ++ L) (by rw [e1]; exact hp) k1 k3 (by rw [e1]; exact hce) hcv hcl T' rfl X'
    exact ⟨t2, st.trans a1, b1⟩
theorem cx_V (E : EN p s m c cc nL args own g F) (hS : va_S (nF F) s.heap H locs) (hM : CX l y b n ret fr lo mc1 ms1 g F (.ref o :: As) P post1 XP1) (ok : okV y b n ret k) (hlk : Cond.methodLink own idx y ∈ lw_g) (hP : P H)
    (ho : ∃ cellB : Cell, H[o]? = some cellB ∧ cellB.vm.isStatics = false ∧ s.vm.findClass y.cls = some cellB.cls) (hlen : As.length = k) {lv : List (Nat × Value)} (hls : lv_has ls nL lv) (hR : Nat.ble (fr + 1) R.frames = true ∧ Nat.ble (8 + (n + 11) + lo) R.locals = true) (hst : Nat.ble (rest.map fun v => v.category).sum 8 = true)
    (hf : cells + mc1 ≤ R.cells ∧ slots + ms1 ≤ R.slots) (hd : decode cc pc = .ok (.invokevirtual idx, 3))
    {st0 : List Value} (hst0 : st0 = As.reverse ++ .ref o :: rest)
    (kx : ∀ (E : String) (ce : Cell) (q : Addr) (H1 : Heap) (locs1 : List Loc), XP1 E H1 → H.size ≤ H1.size → va_S (nF F) s.heap H1 locs1 → H1[q]? = some ce → ce.vm = .none → s.vm.findClass E = some ce.cls → vx_W p l e R s m args below meth c H1 locs1 (cells + mc1) (slots + ms1) Q (F0 m pc ls rest) q)
    (kk : ∀ (v : Option Value) (H1 : Heap) (locs1 : List Loc), post1 v H1 → va_S (nF F) s.heap H1 locs1 → H.size ≤ H1.size → W p l e R s m args below meth c H1 locs1 (cells + mc1) (slots + ms1) Q (F0 m (pc + 3) ls (v.toList ++ rest))) : W p l e R s m args below meth c H locs cells slots Q (F0 m pc ls st0) := by
  obtain ⟨hx, hb, hml, hown, hts, hG⟩ := E
  obtain ⟨⟨k1, k2, k3, k4, k5⟩, k6, k7⟩ := ok
  obtain ⟨q1, q2⟩ := ct_pre (P := P) hG hS hP (.ref o :: As)
  refine cx_go (vx_runV (As := As) (rest := rest) (Ts := lw_g) (own := own) (nL := nL) ⟨hx, hb, hml, hown, hts⟩ hM
    (cwV k hts (by
      intro w hw
      unfold wsV at hw
      rcases List.mem_append.mp hw with h | h
      · simp only [List.mem_cons, List.not_mem_nil, or_false] at h
        rcases h with rfl | rfl | rfl | rfl
        · exact lw_go hlk
        · exact lw_go k6
        · exact lw_go k7
        · exact lw_go k1
      · exact ms_gi k2 w h) rfl rfl rfl ⟨rfl, k3, k4, k5⟩ ⟨Nat.le_of_ble_eq_true hR.1, Nat.le_of_ble_eq_true hR.2⟩)
    ⟨q1, ho, q2⟩ rfl hlen hls.1 hst0 (lv_room (Nat.le_of_ble_eq_true hst)) hd hf) hS kx kk
theorem cx_S (E : EN p s m c cc nL args own g F) (hS : va_S (nF F) s.heap H locs) (hM : CX l y b n ret fr lo mc1 ms1 g F As P post1 XP1) (ok : okS y b n ret k) (hlk : Cond.methodLink own idx y ∈ lw_g) (hP : P H)
    (hlen : As.length = k) {lv : List (Nat × Value)} (hls : lv_has ls nL lv) (hR : Nat.ble (fr + 1) R.frames = true ∧ Nat.ble (8 + (n + 11) + lo) R.locals = true) (hst : Nat.ble (rest.map fun v => v.category).sum 8 = true)
    (hf : cells + mc1 ≤ R.cells ∧ slots + ms1 ≤ R.slots) (hd : decode cc pc = .ok (.invokestatic idx, 3))
    {st0 : List Value} (hst0 : st0 = As.reverse ++ rest)
    (kx : ∀ (E : String) (ce : Cell) (q : Addr) (H1 : Heap) (locs1 : List Loc), XP1 E H1 → H.size ≤ H1.size → va_S (nF F) s.heap H1 locs1 → H1[q]? = some ce → ce.vm = .none → s.vm.findClass E = some ce.cls → vx_W p l e R s m args below meth c H1 locs1 (cells + mc1) (slots + ms1) Q (F0 m pc ls rest) q)
    (kk : ∀ (v : Option Value) (H1 : Heap) (locs1 : List Loc), post1 v H1 → va_S (nF F) s.heap H1 locs1 → H.size ≤ H1.size → W p l e R s m args below meth c H1 locs1 (cells + mc1) (slots + ms1) Q (F0 m (pc + 3) ls (v.toList ++ rest))) : W p l e R s m args below meth c H locs cells slots Q (F0 m pc ls st0) := by
  obtain ⟨hx, hb, hml, hown, hts, hG⟩ := E
  obtain ⟨⟨k1, k2, k3, k4, k5⟩, k6⟩ := ok
  have cw := va_cwS (R := R) (s := s) (args := args) (own := own) (index := idx) (y := y) (bytes := b) (maxL := n) (ret := ret) (ws := ms_w y b n ret) (rm := { frames := fr, cells := mc1, slots := ms1, locals := lo }) (mc := mc1) (ms := ms1) k hts (by
      intro w hw
      unfold va_wsS at hw
      rcases List.mem_append.mp hw with h | h
      · simp only [List.mem_cons, List.not_mem_nil, or_false] at h
        rcases h with rfl | rfl | rfl
        · exact lw_go hlk
        · exact lw_go k6
        · exact lw_go k1
      · exact ms_gi k2 w h) rfl rfl rfl ⟨k3, k4, k5⟩ ⟨Nat.le_of_ble_eq_true hR.1, Nat.le_of_ble_eq_true hR.2⟩
  exact cx_go (vx_runS (As := As) (rest := rest) (Ts := lw_g) (own := own) (nL := nL) ⟨hx, hb, hml, hown, hts⟩ hM cw
    (ct_pre (P := P) hG hS hP As) rfl hlen hls.1 hst0 (lv_room (Nat.le_of_ble_eq_true hst)) hd hf) hS kx kk
/-- a throw goes on to the caller -/
theorem cx_out (hE : ∀ x ∈ c.exceptionTable.toList, False) (hk : meth.locks = false) {E : String} {ce : Cell} {q : Addr} (hcell : H[q]? = some ce) (hv : ce.vm = .none) (hcl : s.vm.findClass E = some ce.cls) (hXP : XP E H) (hS : va_S (nF F) s.heap H locs) (hc : cells ≤ mc) (hs : slots ≤ ms) :
    vx_W p l e R s m args below meth c H locs cells slots (vx_MQ below (Qg F post) (Xg F XP) args s mc ms (nF F)) (F0 m pc ls rest) q :=
  vx_out (fun x hx => (hE x hx).elim) hk hcell hv hcl (fun t ht hW => ⟨by rw [ht]; exact hXP, hS.F ht⟩) hS.2.2 hc hs
theorem cx_throw (E : EN p s m c cc nL args RX4 g F) (hl9 : l.stackTraces = false) (hS : va_S (nF F) s.heap H locs) (hE : ∀ x ∈ c.exceptionTable.toList, False) (hk : meth.locks = false) {ik is ic ix : Nat} {cls text : String} {rx : ByteArray} (hD : DX ik ic cls ix rx) (hm : (is, text) ∈ lw_str) {lv : List (Nat × Value)} (hls : lv_has ls nL lv)
    (d0 : decode cc pc = .ok (.new ik, 3)) (d3 : decode cc (pc + 3) = .ok (.dup, 1)) (d4 : decode cc (pc + 4) = .ok (.ldc is, 2)) (d6 : decode cc (pc + 6) = .ok (.invokespecial ic, 3)) (d9 : decode cc (pc + 9) = .ok (.athrow, 1))
    (hR : Nat.ble 6 R.frames = true ∧ Nat.ble 90 R.locals = true) (hst : Nat.ble (rest.map fun v => v.category).sum 8 = true) (hf : cells + 1 ≤ R.cells ∧ slots + 6 ≤ R.slots) (hc : cells + 1 ≤ mc) (hs : slots + 6 ≤ ms)
    (hXP : ∀ H1 : Heap, H.size ≤ H1.size → (∀ q, q < H.size → H1[q]? = H[q]?) → XP cls H1) :
    W p l e R s m args below meth c H locs cells slots (vx_MQ below (Qg F post) (Xg F XP) args s mc ms (nF F)) (F0 m pc ls rest) := by
  obtain ⟨hfit, hk1, hin, hx0, hat, hgood⟩ := hD
  obtain ⟨hexec, hb, hml, hown, hts, hG⟩ := E
  have hR1 := Nat.le_of_ble_eq_true hR.1
  have hR2 := Nat.le_of_ble_eq_true hR.2
  have hst9 := Nat.le_of_ble_eq_true hst
  refine dx_makeS hexec hb hl9 hx0 (own := RX4) (cls := cls) (text := text) (ik := ik) (is := is) (ic := ic) (sa := g.2.2.2.2 is) (A := nF F) hown hfit (by decide +kernel) (hts _ hk1) (hts _ hin) (hG.2.2.2.2.2.2.1 (is, text) hm) (fun w hw => (hat w hw).elim (fun h => hts _ h) (fun h => va_Nw.use (lw_not h) (hG.2.1 _ h))) hgood hG.2.2.2.2.1 hG.2.2.2.2.2.1 hS (by rw [hml]; exact hls.1) d0 d3 d4 d6 (by show 2 + 3 < R.frames; omega) (by show _ + (13 * (2 + 1) + 43) ≤ R.locals; omega) hf.1 hf.2 (fun q ce H1 h1 h2 h3 h4 h5 hS1 => ?_)
  exact dx_athrow hexec hb d9 (cx_out hE hk h1 h2 h3 (hXP H1 h4 h5) hS1 hc hs)
end CXR
