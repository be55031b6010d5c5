/-! the words that every contract here carries: all good words of the tables -/
def lw_g : List Cond := lw_tbl.filter goodWord
theorem lw_gm {w : Cond} (h : w ∈ lw_tbl) (hg : goodWord w = true) : w ∈ lw_g := List.mem_filter.mpr ⟨h, hg⟩
theorem lw_gg {w : Cond} (h : w ∈ lw_g) : goodWord w = true := (List.mem_filter.mp h).2
theorem lw_gi (i : Nat) {w : Cond} (h : lw_tbl[i]? = some w) (hg : goodWord w = true) : w ∈ lw_g := lw_gm (List.mem_of_getElem? h) hg
abbrev ms_w (y : MethodName) (b : ByteArray) (n : Nat) (r : Option FieldType) : List Cond := .code y b n r :: lw_g
theorem ms_gi {y : MethodName} {b : ByteArray} {n : Nat} {r : Option FieldType} (h : Cond.code y b n r ∈ lw_g) : GoodIn lw_g (ms_w y b n r) := fun w hw => by
  rcases List.mem_cons.mp hw with rfl | hw
  · exact ⟨h, good_of_word (lw_gg h)⟩
  · exact ⟨hw, good_of_word (lw_gg hw)⟩
theorem lw_go {w : Cond} (h : w ∈ lw_g) : w ∈ lw_g ∧ ((w.onTables && w.keeps) = true ∨ ∃ ty, w = .arrayClass ty) := ⟨h, good_of_word (lw_gg h)⟩
def is_nest : Cond → Bool
  | .fieldLinkNest .. => true
  | .methodLinkNest .. => true
  | .castable .. => true
  | .declares .. => true
  | _ => false
def lw_n : List Cond := lw_tbl.filter is_nest
theorem lw_ni (i : Nat) {w : Cond} (h : lw_tbl[i]? = some w) (hg : is_nest w = true) : w ∈ lw_n := List.mem_filter.mpr ⟨List.mem_of_getElem? h, hg⟩
def NW (U : State) : Prop := ∀ w ∈ lw_n, va_Nw w U
theorem NW.moved {s U : State} (hW : s.WarmedH U.vm) (h : NW s) : NW U := by
  intro w hw
  have h1 := h w hw
  have h2 := (List.mem_filter.mp hw).2
  cases w <;> first | exact va_Nw.warmF hW h1 | exact va_Nw.warmM hW h1 | exact va_Nw.warmC hW h1 | exact va_Nw.warmD hW h1 | exact absurd h2 (by simp [is_nest])
/-- what a launch's ghost things are: (classes, fields' slots), array classes, the empty array of ArrayList, the mirror of Object[], the texts -/
abbrev cG : Type := va_G × (Nat → ClassId) × Nat × Nat × (Nat → Nat)
abbrev tyL (g : cG) : List (ClassId × FieldType) := [(g.2.1 0, .int), (g.2.1 1, .char), (g.2.1 2, .boolean), (g.2.1 3, .object "java/lang/Object"), (g.2.1 4, .long), (g.2.1 5, .double)]
abbrev nF (F : Nat → Prop) : Nat → Prop := fun q => ¬ F q
def lw_str : List (Nat × String) := [(53, "the capacity is out of range"), (64, "there are 3 lifts"), (81, "the floor is out of range"), (84, "the tenant is out of range"), (86, "a time is out of range"), (88, "there are 8 badges"), (218, "there is no such badge"), (110, "both floors are the same"), (114, "the badge may not enter the floor"), (121, "no rider can call with this badge now"), (220, "there is no such rider"), (157, "the rider has no lift"), (222, "there is no such lift"), (174, "the lift can't be called off now"), (190, "the number of ticks is out of range"), (199, "no alarm can begin now"), (207, "no floor has its turn"), (211, "nobody called")]
def lw_nc : List (String × String) := [("java/lang/IllegalStateException", "java/lang/IllegalArgumentException"), ("java/lang/IndexOutOfBoundsException", "java/lang/IllegalArgumentException"), ("java/lang/UnsupportedOperationException", "java/lang/IllegalArgumentException"), ("java/util/NoSuchElementException", "java/lang/IllegalArgumentException"), ("java/lang/ArithmeticException", "java/lang/IllegalArgumentException"), ("java/lang/IllegalArgumentException", "java/lang/IllegalStateException"), ("java/lang/IndexOutOfBoundsException", "java/lang/IllegalStateException"), ("java/lang/UnsupportedOperationException", "java/lang/IllegalStateException"), ("java/util/NoSuchElementException", "java/lang/IllegalStateException"), ("java/lang/ArithmeticException", "java/lang/IllegalStateException"), ("java/lang/IllegalArgumentException", "java/lang/IndexOutOfBoundsException"), ("java/lang/IllegalStateException", "java/lang/IndexOutOfBoundsException"), ("java/lang/UnsupportedOperationException", "java/lang/IndexOutOfBoundsException"), ("java/util/NoSuchElementException", "java/lang/IndexOutOfBoundsException"), ("java/lang/ArithmeticException", "java/lang/IndexOutOfBoundsException"), ("java/lang/IllegalArgumentException", "java/lang/UnsupportedOperationException"), ("java/lang/IllegalStateException", "java/lang/UnsupportedOperationException"), ("java/lang/IndexOutOfBoundsException", "java/lang/UnsupportedOperationException"), ("java/util/NoSuchElementException", "java/lang/UnsupportedOperationException"), ("java/lang/ArithmeticException", "java/lang/UnsupportedOperationException"), ("java/lang/IllegalArgumentException", "java/util/NoSuchElementException"), ("java/lang/IllegalStateException", "java/util/NoSuchElementException"), ("java/lang/IndexOutOfBoundsException", "java/util/NoSuchElementException"), ("java/lang/UnsupportedOperationException", "java/util/NoSuchElementException"), ("java/lang/ArithmeticException", "java/util/NoSuchElementException"), ("java/lang/IllegalArgumentException", "java/lang/ArithmeticException"), ("java/lang/IllegalStateException", "java/lang/ArithmeticException"), ("java/lang/IndexOutOfBoundsException", "java/lang/ArithmeticException"), ("java/lang/UnsupportedOperationException", "java/lang/ArithmeticException"), ("java/util/NoSuchElementException", "java/lang/ArithmeticException")]
def GS (g : cG) (F : Nat → Prop) (U : State) : Prop :=
  va_Z "java/util/ArrayList" "DEFAULTCAPACITY_EMPTY_ELEMENTDATA" "[Ljava/lang/Object;" (.ref g.2.2.1) (nF F) U U.heap ∧
  va_T (.object "java/lang/Object") g.2.2.1 0 (fun _ => .null) (nF F) U U.heap ∧
  vx_Zq Bundle.tN "UNASSIGNED_STACK" Bundle.steD (nF F) U U.heap ∧ vx_Zq Bundle.tN "SUPPRESSED_SENTINEL" Bundle.listD (nF F) U U.heap ∧
  (∀ q ∈ lw_str, vk_R "LiftDesk" q.1 q.2 (g.2.2.2.2 q.1) U) ∧ va_Mi "[Ljava/lang/Object;" g.2.2.2.1 U ∧ va_Dc U ∧ va_AO "java/lang/Object" U ∧ (∀ q ∈ lw_nc, va_Nc q.1 q.2 U)
theorem GS.moved {g : cG} {F : Nat → Prop} {s U : State} {H : Heap} {locs : List Loc} (hS : va_S (nF F) s.heap H locs) (hU : U.heap = H) (hW : s.WarmedH U.vm) (h : GS g F s) : GS g F U := by
  obtain ⟨h1, h2, h3, h4, h5, h6, h7, h8, h9⟩ := h
  refine ⟨?_, ?_, ?_, ?_, ?_, ?_, ?_, ?_, ?_⟩
  · rw [hU]; exact va_Z.moved hW.alike (h1.kept hS.2.1)
  · rw [hU]; exact va_T.moved hW.alike (h2.kept hS.2.1)
  · rw [hU]; exact vx_Zq.moved hW.alike (h3.kept hS.2.1)
  · rw [hU]; exact vx_Zq.moved hW.alike (h4.kept hS.2.1)
  · exact fun q hq => vk_R.warm hW (h5 q hq)
  · exact va_Mi.moved hW.alike h6
  · exact va_Dc.moved hW.alike h7
  · exact va_AO.moved hW.alike h8
  · exact fun q hq => va_Nc.moved hW.alike (h9 q hq)
def GE (g : cG) (F : Nat → Prop) (U : State) : Prop := va_K g.1 vwCl (tyL g) U ∧ NW U ∧ GS g F U
theorem GE.moved {g : cG} {F : Nat → Prop} {s U : State} {H : Heap} {locs : List Loc} (hS : va_S (nF F) s.heap H locs) (hU : U.heap = H) (hW : s.WarmedH U.vm) (h : GE g F s) : GE g F U :=
  ⟨va_K.moved hW.alike h.1, NW.moved hW h.2.1, GS.moved hS hU hW h.2.2⟩
/-- what a walk has at hand all along -/
abbrev EN (p : Program) (s : State) (m : MethodId) (c : Code) (cc : ByteArray) (nL : Nat) (args : Array Value) (own : String) (g : cG) (F : Nat → Prop) : Prop :=
  p.tables.exec = Jvm.exec ∧ c.code = cc ∧ c.maxLocals = nL ∧ s.vm.findClass own = some m.cls ∧ (∀ w ∈ lw_g, w.before args s = true) ∧ GE g F s
/-- the general end: an answer and a heap, what isn't free stays -/
def Qg (F : Nat → Prop) (post : Option Value → Heap → Prop) : Array Value → State → Outcome → State → Prop := fun _ st oc t => (∃ v, oc = .returned v ∧ post v t.heap) ∧ va_F (nF F) st t
def CT (l : Launch) (y : MethodName) (b : ByteArray) (n : Nat) (ret : Option FieldType) (fr lo mc ms : Nat) (g : cG) (F : Nat → Prop) (as : List Value) (P : Heap → Prop) (post : Option Value → Heap → Prop) : Prop :=
  Met l y (ms_w y b n ret) { frames := fr, cells := mc, slots := ms, locals := lo } (va_Pc as (fun U => GE g F U ∧ P U.heap)) (Qg F post) mc ms (nF F)
theorem CT.of {l : Launch} {y : MethodName} {b : ByteArray} {n : Nat} {ret : Option FieldType} {fr lo mc ms : Nat} {g : cG} {F : Nat → Prop} {as : List Value} {P : Heap → Prop} {post : Option Value → Heap → Prop}
    (hy : plainName y.cls = true) (hn : Nat.ble (lg_sl as).length n = true)
    (body : ∀ (p : Program) (e : Env) (s : State) (m : MethodId) (args : Array Value) (below : List Frame) (meth : Method) (c : Code), EN p s m c b n args y.cls g F → meth.sig.returnType = ret → meth.locks = false → meth.name = y.name → P s.heap → ∀ ls : Array Slot, lv_has ls n (lv_args 0 as) →
      W p l e { frames := fr, cells := mc, slots := ms, locals := lo } s m args below meth c s.heap [] 0 0 (MQ below (Qg F post) args s mc ms (nF F)) (F0 m 0 ls [])) : CT l y b n ret fr lo mc ms g F as P post := by
  refine Met.ofW (cc := b) (maxL := n) (ret := ret) hy rfl ?_
  intro p e s m args below meth c s₁ B hml hv
  obtain ⟨rfl, hG, hP⟩ := hv
  have hts := atoms_spec (ws := ms_w y b n ret) B.pre
  have hl := lv_entry as (n := n) (Nat.le_of_ble_eq_true hn)
  rw [lg_entry_eq]
  exact body p e s m _ below meth c ⟨B.exec, B.bytes, hml, findClass_of_methodNamed B.named, fun w hw => hts w (List.mem_cons_of_mem _ hw), hG⟩ B.returns B.notSynchronized (name_of_methodNamed B.named B.method).1 hP _ hl
section CR
variable {p : Program} {l : Launch} {e : Env} {R : Room} {s : State} {m : MethodId} {args : Array Value} {below : List Frame} {meth : Method} {c : Code} {H : Heap} {locs : List Loc} {cells slots : Nat} {Q : State → Prop}
variable {cc : ByteArray} {pc nL : Nat} {ls : Array Slot} {rest : List Value} {own : String} {g : cG} {F : Nat → Prop} {H0 : Heap} {post : Option Value → Heap → Prop} {mc ms : Nat}
theorem ct_iret {v : Int32} (E : EN p s m c cc nL args own g F) (hr : meth.sig.returnType = some .int) (hk : meth.locks = false) (hS : va_S (nF F) s.heap H locs) (hp : post (some (.int v)) H) (hd : decode cc pc = .ok (.ireturn, 1)) (hc : cells ≤ mc := by exact Nat.zero_le _) (hs : slots ≤ ms := by exact Nat.zero_le _) :
    W p l e R s m args below meth c H locs cells slots (MQ below (Qg F post) args s mc ms (nF F)) (F0 m pc ls [.int v]) :=
  W.widen hc hs (W.iret (v := v) E.1 E.2.1 hr (fun t ht hW => ⟨⟨_, rfl, by rw [ht]; exact hp⟩, hS.F ht⟩) hS.2.2 hd)
theorem ct_zret {v : Int32} {ty : FieldType} (E : EN p s m c cc nL args own g F) (hr : meth.sig.returnType = some ty) (hn : narrow ty (.int v) = .int v) (hk : meth.locks = false) (hS : va_S (nF F) s.heap H locs) (hp : post (some (.int v)) H) (hd : decode cc pc = .ok (.ireturn, 1)) (hc : cells ≤ mc := by exact Nat.zero_le _) (hs : slots ≤ ms := by exact Nat.zero_le _) :
    W p l e R s m args below meth c H locs cells slots (MQ below (Qg F post) args s mc ms (nF F)) (F0 m pc ls [.int v]) :=
  W.widen hc hs (W.zret (v := v) E.1 E.2.1 hr hn (fun t ht hW => ⟨⟨_, rfl, by rw [ht]; exact hp⟩, hS.F ht⟩) hS.2.2 hd)
theorem ct_vret (E : EN p s m c cc nL args own g F) (hr : meth.sig.returnType = none) (hk : meth.locks = false) (hS : va_S (nF F) s.heap H locs) (hp : post none H) (hd : decode cc pc = .ok (.return_, 1)) (hc : cells ≤ mc := by exact Nat.zero_le _) (hs : slots ≤ ms := by exact Nat.zero_le _) :
    W p l e R s m args below meth c H locs cells slots (MQ below (Qg F post) args s mc ms (nF F)) (F0 m pc ls []) :=
  W.widen hc hs (W.vret E.1 E.2.1 hr (fun t ht hW => ⟨⟨_, rfl, by rw [ht]; exact hp⟩, hS.F ht⟩) hS.2.2 hd)
theorem ct_fret {v : UInt32} (E : EN p s m c cc nL args own g F) (hr : meth.sig.returnType = some .float) (hk : meth.locks = false) (hS : va_S (nF F) s.heap H locs) (hp : post (some (.float v)) H) (hd : decode cc pc = .ok (.freturn, 1)) (hc : cells ≤ mc := by exact Nat.zero_le _) (hs : slots ≤ ms := by exact Nat.zero_le _) :
    W p l e R s m args below meth c H locs cells slots (MQ below (Qg F post) args s mc ms (nF F)) (F0 m pc ls [.float v]) :=
  W.widen hc hs (W.fret (v := v) E.1 E.2.1 hr (fun t ht hW => ⟨⟨_, rfl, by rw [ht]; exact hp⟩, hS.F ht⟩) hS.2.2 hd)
theorem ct_dret {v : UInt64} (E : EN p s m c cc nL args own g F) (hr : meth.sig.returnType = some .double) (hk : meth.locks = false) (hS : va_S (nF F) s.heap H locs) (hp : post (some (.double v)) H) (hd : decode cc pc = .ok (.dreturn, 1)) (hc : cells ≤ mc := by exact Nat.zero_le _) (hs : slots ≤ ms := by exact Nat.zero_le _) :
    W p l e R s m args below meth c H locs cells slots (MQ below (Qg F post) args s mc ms (nF F)) (F0 m pc ls [.double v]) :=
  W.widen hc hs (W.dret (v := v) E.1 E.2.1 hr (fun t ht hW => ⟨⟨_, rfl, by rw [ht]; exact hp⟩, hS.F ht⟩) hS.2.2 hd)
/-- a call's going on -/
theorem ct_go {mc1 ms1 : Nat} {st0 : List Value} {a : Array Value} (hr : va_Run p l e R s m args below meth c H locs cells slots mc1 ms1 (F0 m pc ls st0) rest (Qg F post a) (nF F)) (hS : va_S (nF F) H0 H locs)
    (kk : ∀ (v : Option Value) (H1 : Heap) (locs1 : List Loc), post v H1 → va_S (nF F) H0 H1 locs1 → H.size ≤ H1.size → W p l e R s m args below meth c H1 locs1 (cells + mc1) (slots + ms1) Q (F0 m (pc + 3) ls (v.toList ++ rest))) : W p l e R s m args below meth c H locs cells slots Q (F0 m pc ls st0) := by
  intro T hT X
  obtain ⟨v, st₀, t, T', L, h0, X', hL, e1, e2, ⟨⟨v', hv, hp⟩, hz, hk⟩, st⟩ := hr T hT X
  cases hv
  rw [h0] at hz hk
  obtain ⟨t2, a1, b1⟩ := kk v T'.heap (locs ++ L) (by rw [e1]; exact hp)
    ⟨Nat.le_trans hS.1 (by rw [e1]; exact hz), fun q h1 h2 => by rw [e1, hk q (Nat.lt_of_lt_of_le h1 hS.1) h2]; exact hS.2.1 q h1 h2, fun q hq => by
      rcases List.mem_append.mp hq with h | h
      · exact hS.2.2 q h
      · exact hL q h⟩ (by rw [e1]; exact hz) T' rfl X'
  exact ⟨t2, st t2 a1, b1⟩
/-- the words of a callee -/
def okC (y : MethodName) (b : ByteArray) (n : Nat) (ret : Option FieldType) (k : Nat) : Prop :=
  Cond.initialized y.cls ∈ lw_g ∧ Cond.code y b n ret ∈ lw_g ∧ y.cls ≠ "java/lang/invoke/MethodHandle" ∧ y.cls ≠ "java/lang/invoke/VarHandle" ∧ (parseMethodDescriptor y.desc).map (fun d => d.parameters.length) = some k
def okV (y : MethodName) (b : ByteArray) (n : Nat) (ret : Option FieldType) (k : Nat) : Prop := okC y b n ret k ∧ Cond.instanceMethod y ∈ lw_g ∧ Cond.selects y.cls y y ∈ lw_g
def okS (y : MethodName) (b : ByteArray) (n : Nat) (ret : Option FieldType) (k : Nat) : Prop := okC y b n ret k ∧ Cond.static y ∈ lw_g
def okI (y : MethodName) (b : ByteArray) (n : Nat) (ret : Option FieldType) (k : Nat) : Prop := okC y b n ret k ∧ Cond.instanceMethod y ∈ lw_g ∧ y.name = "<init>"
variable {y : MethodName} {b : ByteArray} {n k fr lo mc1 ms1 idx o : Nat} {ret : Option FieldType} {As : List Value} {P : Heap → Prop}
theorem ct_pre (hG : GE g F s) (hS : va_S (nF F) s.heap H locs) (hP : P H) (As : List Value) : PreS s H (va_Pc As (fun U => GE g F U ∧ P U.heap)) As := by
  refine ⟨fun a U g9 mk q => ?_, fun U hU hW => ⟨rfl, hG.moved hS hU hW, by rw [hU]; exact hP⟩⟩
  obtain ⟨q1, q2, q3⟩ := q
  have hS1 : va_S (nF F) U.heap U.heap ([] : List Loc) := va_S.rf
  exact ⟨q1, q2.moved hS1 rfl (State.WarmedH.refl U), q3⟩
theorem ct_V (E : EN p s m c cc nL args own g F) (hS : va_S (nF F) s.heap H locs) (hM : CT l y b n ret fr lo mc1 ms1 g F (.ref o :: As) P post) (ok : okV y b n ret k) (hlk : Cond.methodLink own idx y ∈ lw_g) (hP : P H)
    (ho : ∃ cellB : Cell, H[o]? = some cellB ∧ cellB.vm.isStatics = false ∧ s.vm.findClass y.cls = some cellB.cls) (hlen : As.length = k) {lv : List (Nat × Value)} (hls : lv_has ls nL lv) (hR : Nat.ble (fr + 1) R.frames = true ∧ Nat.ble (8 + (n + 11) + lo) R.locals = true) (hst : Nat.ble (rest.map fun v => v.category).sum 8 = true)
    (hf : cells + mc1 ≤ R.cells ∧ slots + ms1 ≤ R.slots) (hd : decode cc pc = .ok (.invokevirtual idx, 3))
    {st0 : List Value} (hst0 : st0 = As.reverse ++ .ref o :: rest)
    (kk : ∀ (v : Option Value) (H1 : Heap) (locs1 : List Loc), post v H1 → va_S (nF F) s.heap H1 locs1 → H.size ≤ H1.size → W p l e R s m args below meth c H1 locs1 (cells + mc1) (slots + ms1) Q (F0 m (pc + 3) ls (v.toList ++ rest))) : W p l e R s m args below meth c H locs cells slots Q (F0 m pc ls st0) := by
  obtain ⟨hx, hb, hml, hown, hts, hG⟩ := E
  obtain ⟨⟨k1, k2, k3, k4, k5⟩, k6, k7⟩ := ok
  obtain ⟨q1, q2⟩ := ct_pre (P := P) hG hS hP (.ref o :: As)
  refine ct_go (va_runV (As := As) (rest := rest) (Ts := lw_g) (own := own) (nL := nL) ⟨hx, hb, hml, hown, hts⟩ hM
    (cwV k hts (by
      intro w hw
      unfold wsV at hw
      rcases List.mem_append.mp hw with h | h
      · simp only [List.mem_cons, List.not_mem_nil, or_false] at h
        rcases h with rfl | rfl | rfl | rfl
        · exact lw_go hlk
        · exact lw_go k6
        · exact lw_go k7
        · exact lw_go k1
      · exact ms_gi k2 w h) rfl rfl rfl ⟨rfl, k3, k4, k5⟩ ⟨Nat.le_of_ble_eq_true hR.1, Nat.le_of_ble_eq_true hR.2⟩)
    ⟨q1, ho, q2⟩ rfl hlen hls.1 hst0 (lv_room (Nat.le_of_ble_eq_true hst)) hd hf) hS kk
theorem ct_S (E : EN p s m c cc nL args own g F) (hS : va_S (nF F) s.heap H locs) (hM : CT l y b n ret fr lo mc1 ms1 g F As P post) (ok : okS y b n ret k) (hlk : Cond.methodLink own idx y ∈ lw_g) (hP : P H)
    (hlen : As.length = k) {lv : List (Nat × Value)} (hls : lv_has ls nL lv) (hR : Nat.ble (fr + 1) R.frames = true ∧ Nat.ble (8 + (n + 11) + lo) R.locals = true) (hst : Nat.ble (rest.map fun v => v.category).sum 8 = true)
    (hf : cells + mc1 ≤ R.cells ∧ slots + ms1 ≤ R.slots) (hd : decode cc pc = .ok (.invokestatic idx, 3))
    {st0 : List Value} (hst0 : st0 = As.reverse ++ rest)
    (kk : ∀ (v : Option Value) (H1 : Heap) (locs1 : List Loc), post v H1 → va_S (nF F) s.heap H1 locs1 → H.size ≤ H1.size → W p l e R s m args below meth c H1 locs1 (cells + mc1) (slots + ms1) Q (F0 m (pc + 3) ls (v.toList ++ rest))) : W p l e R s m args below meth c H locs cells slots Q (F0 m pc ls st0) := by
  obtain ⟨hx, hb, hml, hown, hts, hG⟩ := E
  obtain ⟨⟨k1, k2, k3, k4, k5⟩, k6⟩ := ok
  refine ct_go (va_runS (As := As) (rest := rest) (Ts := lw_g) (own := own) (nL := nL) ⟨hx, hb, hml, hown, hts⟩ hM
    (va_cwS k hts (by
      intro w hw
      unfold va_wsS at hw
      rcases List.mem_append.mp hw with h | h
      · simp only [List.mem_cons, List.not_mem_nil, or_false] at h
        rcases h with rfl | rfl | rfl
        · exact lw_go hlk
        · exact lw_go k6
        · exact lw_go k1
      · exact ms_gi k2 w h) rfl rfl rfl ⟨k3, k4, k5⟩ ⟨Nat.le_of_ble_eq_true hR.1, Nat.le_of_ble_eq_true hR.2⟩)
    (ct_pre (P := P) hG hS hP As) rfl hlen hls.1 hst0 (lv_room (Nat.le_of_ble_eq_true hst)) hd hf) hS kk
theorem ct_I (E : EN p s m c cc nL args own g F) (hS : va_S (nF F) s.heap H locs) (hM : CT l y b n none fr lo mc1 ms1 g F (.ref o :: As) P post) (ok : okI y b n none k) (hlk : Cond.methodLink own idx y ∈ lw_g) (hP : P H)
    (hlen : As.length = k) {lv : List (Nat × Value)} (hls : lv_has ls nL lv) (hR : Nat.ble (fr + 1) R.frames = true ∧ Nat.ble (8 + (n + 11) + lo) R.locals = true) (hst : Nat.ble (rest.map fun v => v.category).sum 8 = true)
    (hf : cells + mc1 ≤ R.cells ∧ slots + ms1 ≤ R.slots) (hd : decode cc pc = .ok (.invokespecial idx, 3))
    {st0 : List Value} (hst0 : st0 = As.reverse ++ .ref o :: rest)
    (kk : ∀ (v : Option Value) (H1 : Heap) (locs1 : List Loc), post v H1 → va_S (nF F) s.heap H1 locs1 → H.size ≤ H1.size → W p l e R s m args below meth c H1 locs1 (cells + mc1) (slots + ms1) Q (F0 m (pc + 3) ls (v.toList ++ rest))) : W p l e R s m args below meth c H locs cells slots Q (F0 m pc ls st0) := by
  obtain ⟨hx, hb, hml, hown, hts, hG⟩ := E
  obtain ⟨⟨k1, k2, k3, k4, k5⟩, k6, k7⟩ := ok
  refine ct_go (va_runI (As := As) (rest := rest) (Ts := lw_g) (own := own) (nL := nL) ⟨hx, hb, hml, hown, hts⟩ hM
    (cwI k hts (ms_gi k2) rfl rfl rfl (hts _ k1) (hts _ hlk) (hts _ k6) k7 ⟨k3, k4, k5⟩ ⟨Nat.le_of_ble_eq_true hR.1, Nat.le_of_ble_eq_true hR.2⟩)
    (ct_pre (P := P) hG hS hP (.ref o :: As)) rfl hlen hls.1 hst0 (lv_room (Nat.le_of_ble_eq_true hst)) hd hf) hS kk
end CR
/-! calls of a method that leaves more alone than its caller -/
theorem GE.big {g : cG} {F F1 : Nat → Prop} {s : State} (hF : ∀ q, F q → F1 q) (h : GE g F s) : GE g F1 s := by
  obtain ⟨k1, k2, h1, h2, h3, h4, h5⟩ := h
  exact ⟨k1, k2, h1.narrow (fun q z y => z (hF q y)), h2.narrow (fun q z y => z (hF q y)), h3.narrow (fun q z y => z (hF q y)), h4.narrow (fun q z y => z (hF q y)), h5⟩
section CRF
variable {p : Program} {l : Launch} {e : Env} {R : Room} {s : State} {m : MethodId} {args : Array Value} {below : List Frame} {meth : Method} {c : Code} {H : Heap} {locs : List Loc} {cells slots : Nat} {Q : State → Prop}
variable {cc : ByteArray} {pc nL : Nat} {ls : Array Slot} {rest : List Value} {own : String} {g : cG} {F F1 : Nat → Prop} {H0 : Heap} {post : Option Value → Heap → Prop} {mc ms : Nat}
theorem ct_aret {v : Value} {rt : FieldType} (E : EN p s m c cc nL args own g F) (hr : meth.sig.returnType = some rt) (hrt : (∃ n, rt = .object n) ∨ ∃ t, rt = .array t) (hv : v = .null ∨ ∃ a, v = .ref a) (hk : meth.locks = false) (hS : va_S (nF F) s.heap H locs) (hp : post (some v) H) (hd : decode cc pc = .ok (.areturn, 1)) (hc : cells ≤ mc := by exact Nat.zero_le _) (hs : slots ≤ ms := by exact Nat.zero_le _) :
    W p l e R s m args below meth c H locs cells slots (MQ below (Qg F post) args s mc ms (nF F)) (F0 m pc ls [v]) :=
  W.widen hc hs (W.aret (v := v) E.1 E.2.1 hr hrt hv (fun t ht hW => ⟨⟨_, rfl, by rw [ht]; exact hp⟩, hS.F ht⟩) hS.2.2 hd)
theorem ct_goF (hF : ∀ q, F q → F1 q) {mc1 ms1 : Nat} {st0 : List Value} {a : Array Value} (hr : va_Run p l e R s m args below meth c H locs cells slots mc1 ms1 (F0 m pc ls st0) rest (Qg F1 post a) (nF F1)) (hS : va_S (nF F) H0 H locs)
    (kk : ∀ (v : Option Value) (H1 : Heap) (locs1 : List Loc), post v H1 → va_S (nF F) H0 H1 locs1 → H.size ≤ H1.size → (∀ q, q < H.size → F1 q → H1[q]? = H[q]?) → W p l e R s m args below meth c H1 locs1 (cells + mc1) (slots + ms1) Q (F0 m (pc + 3) ls (v.toList ++ rest))) : W p l e R s m args below meth c H locs cells slots Q (F0 m pc ls st0) := by
  intro T hT X
  obtain ⟨v, st₀, t, T', L, h0, X', hL, e1, e2, ⟨⟨v', hv, hp⟩, hz, hk⟩, st⟩ := hr T hT X
  cases hv
  rw [h0] at hz hk
  obtain ⟨t2, a1, b1⟩ := kk v T'.heap (locs ++ L) (by rw [e1]; exact hp)
    ⟨Nat.le_trans hS.1 (by rw [e1]; exact hz), fun q h1 h2 => by rw [e1, hk q (Nat.lt_of_lt_of_le h1 hS.1) (fun z => z (hF q (Classical.not_not.mp h2)))]; exact hS.2.1 q h1 h2, fun q hq => by
      rcases List.mem_append.mp hq with h | h
      · exact hS.2.2 q h
      · exact fun z => hL q h (hF _ z)⟩ (by rw [e1]; exact hz) (fun q h1 h2 => by rw [e1]; exact hk q h1 (fun z => z h2)) T' rfl X'
  exact ⟨t2, st t2 a1, b1⟩
variable {y : MethodName} {b : ByteArray} {n k fr lo mc1 ms1 idx o : Nat} {ret : Option FieldType} {As : List Value} {P : Heap → Prop}
theorem ct_preF (hF : ∀ q, F q → F1 q) (hG : GE g F s) (hS : va_S (nF F) s.heap H locs) (hP : P H) (As : List Value) : PreS s H (va_Pc As (fun U => GE g F1 U ∧ P U.heap)) As := by
  refine ⟨fun a U g9 mk q => ?_, fun U hU hW => ⟨rfl, (hG.moved hS hU hW).big hF, by rw [hU]; exact hP⟩⟩
  obtain ⟨q1, q2, q3⟩ := q
  have hS1 : va_S (nF F1) U.heap U.heap ([] : List Loc) := va_S.rf
  exact ⟨q1, q2.moved hS1 rfl (State.WarmedH.refl U), q3⟩
theorem ct_VF (hF : ∀ q, F q → F1 q) (E : EN p s m c cc nL args own g F) (hS : va_S (nF F) s.heap H locs) (hM : CT l y b n ret fr lo mc1 ms1 g F1 (.ref o :: As) P post) (ok : okV y b n ret k) (hlk : Cond.methodLink own idx y ∈ lw_g) (hP : P H)
    (ho : ∃ cellB : Cell, H[o]? = some cellB ∧ cellB.vm.isStatics = false ∧ s.vm.findClass y.cls = some cellB.cls) (hlen : As.length = k) {lv : List (Nat × Value)} (hls : lv_has ls nL lv) (hR : Nat.ble (fr + 1) R.frames = true ∧ Nat.ble (8 + (n + 11) + lo) R.locals = true) (hst : Nat.ble (rest.map fun v => v.category).sum 8 = true)
    (hf : cells + mc1 ≤ R.cells ∧ slots + ms1 ≤ R.slots) (hd : decode cc pc = .ok (.invokevirtual idx, 3))
    {st0 : List Value} (hst0 : st0 = As.reverse ++ .ref o :: rest)
    (kk : ∀ (v : Option Value) (H1 : Heap) (locs1 : List Loc), post v H1 → va_S (nF F) s.heap H1 locs1 → H.size ≤ H1.size → (∀ q, q < H.size → F1 q → H1[q]? = H[q]?) → W p l e R s m args below meth c H1 locs1 (cells + mc1) (slots + ms1) Q (F0 m (pc + 3) ls (v.toList ++ rest))) : W p l e R s m args below meth c H locs cells slots Q (F0 m pc ls st0) := by
  obtain ⟨hx, hb, hml, hown, hts, hG⟩ := E
  obtain ⟨⟨k1, k2, k3, k4, k5⟩, k6, k7⟩ := ok
  obtain ⟨q1, q2⟩ := ct_preF (P := P) hF hG hS hP (.ref o :: As)
  refine ct_goF hF (va_runV (As := As) (rest := rest) (Ts := lw_g) (own := own) (nL := nL) ⟨hx, hb, hml, hown, hts⟩ hM
    (cwV k hts (by
      intro w hw
      unfold wsV at hw
      rcases List.mem_append.mp hw with h | h
      · simp only [List.mem_cons, List.not_mem_nil, or_false] at h
        rcases h with rfl | rfl | rfl | rfl
        · exact lw_go hlk
        · exact lw_go k6
        · exact lw_go k7
        · exact lw_go k1
      · exact ms_gi k2 w h) rfl rfl rfl ⟨rfl, k3, k4, k5⟩ ⟨Nat.le_of_ble_eq_true hR.1, Nat.le_of_ble_eq_true hR.2⟩)
    ⟨q1, ho, q2⟩ rfl hlen hls.1 hst0 (lv_room (Nat.le_of_ble_eq_true hst)) hd hf) hS kk
theorem ct_IF (hF : ∀ q, F q → F1 q) (E : EN p s m c cc nL args own g F) (hS : va_S (nF F) s.heap H locs) (hM : CT l y b n none fr lo mc1 ms1 g F1 (.ref o :: As) P post) (ok : okI y b n none k) (hlk : Cond.methodLink own idx y ∈ lw_g) (hP : P H)
    (hlen : As.length = k) {lv : List (Nat × Value)} (hls : lv_has ls nL lv) (hR : Nat.ble (fr + 1) R.frames = true ∧ Nat.ble (8 + (n + 11) + lo) R.locals = true) (hst : Nat.ble (rest.map fun v => v.category).sum 8 = true)
    (hf : cells + mc1 ≤ R.cells ∧ slots + ms1 ≤ R.slots) (hd : decode cc pc = .ok (.invokespecial idx, 3))
    {st0 : List Value} (hst0 : st0 = As.reverse ++ .ref o :: rest)
    (kk : ∀ (v : Option Value) (H1 : Heap) (locs1 : List Loc), post v H1 → va_S (nF F) s.heap H1 locs1 → H.size ≤ H1.size → (∀ q, q < H.size → F1 q → H1[q]? = H[q]?) → W p l e R s m args below meth c H1 locs1 (cells + mc1) (slots + ms1) Q (F0 m (pc + 3) ls (v.toList ++ rest))) : W p l e R s m args below meth c H locs cells slots Q (F0 m pc ls st0) := by
  obtain ⟨hx, hb, hml, hown, hts, hG⟩ := E
  obtain ⟨⟨k1, k2, k3, k4, k5⟩, k6, k7⟩ := ok
  refine ct_goF hF (va_runI (As := As) (rest := rest) (Ts := lw_g) (own := own) (nL := nL) ⟨hx, hb, hml, hown, hts⟩ hM
    (cwI k hts (ms_gi k2) rfl rfl rfl (hts _ k1) (hts _ hlk) (hts _ k6) k7 ⟨k3, k4, k5⟩ ⟨Nat.le_of_ble_eq_true hR.1, Nat.le_of_ble_eq_true hR.2⟩)
    (ct_preF (P := P) hF hG hS hP (.ref o :: As)) rfl hlen hls.1 hst0 (lv_room (Nat.le_of_ble_eq_true hst)) hd hf) hS kk
end CRF
/-! rows that speak of one cell alone -/
theorem va_P1 {D : va_G} {cl : List vw_C} {q : Nat × va_E} {H : Heap} (h : va_at D cl q H) : va_P D cl [q] H := fun k x hx => by
  have hz : k < 1 := (List.getElem?_eq_some_iff.mp hx).1
  rw [show k = 0 by omega] at hx
  cases hx
  exact h
section PT
variable {p : Program} {l : Launch} {e : Env} {R : Room} {s : State} {m : MethodId} {args : Array Value} {below : List Frame} {meth : Method} {c : Code} {H : Heap} {locs : List Loc} {cells slots : Nat} {Q : State → Prop}
variable {cc : ByteArray} {pc nL : Nat} {ls : Array Slot} {rest : List Value} {own : String} {g : cG} {F : Nat → Prop} {H0 : Heap} {a : Nat}
theorem w_get (E : EN p s m c cc nL args own g F) {C : String} {T : u_T} {N ci index : Nat} (hin : ∀ w ∈ u_ws C T N, w ∈ lw_g) {fs : List Value} (he : va_at g.1 vwCl (a, .inr (ci, fs)) H) (hc : vwCl[ci]? = some (C, T, N)) (k : Nat) (hk : k < N) (hT : (T k).1 = C) (hlink : Cond.fieldLink own index C (T k).2.1 (T k).2.2.1 ∈ lw_g) {v : Value} (hv : fs[k]? = some v) (hdg : decode cc pc = .ok (.getfield index, 3))
    (kk : W p l e R s m args below meth c H locs cells slots Q (F0 m (pc + 3) ls (v :: rest))) : W p l e R s m args below meth c H locs cells slots Q (F0 m pc ls (.ref a :: rest)) :=
  va_get (ref := C) E.1 E.2.1 E.2.2.2.2.1 hin E.2.2.2.1 E.2.2.2.2.2.1 (va_P1 he) 0 rfl hc k hk (E.2.2.2.2.1 _ hlink) (fun x h => by rw [hT] at h; exact h) hv hdg kk
theorem w_put (E : EN p s m c cc nL args own g F) {C : String} {T : u_T} {N ci index : Nat} (hin : ∀ w ∈ u_ws C T N, w ∈ lw_g) (ty0 : Nat → FieldType) (hty : ∀ k, k < N → parseFieldDescriptor (T k).2.2.1 = some (ty0 k)) (hnm : ∀ a, a < N → ∀ b, b < N → a ≠ b → (T a).2.1 ≠ (T b).2.1) (hS0 : va_S (nF F) H0 H locs) {fs : List Value} (he : va_at g.1 vwCl (a, .inr (ci, fs)) H) (ha : ¬ F a) (hc : vwCl[ci]? = some (C, T, N)) (k : Nat) (hk : k < N) (hT : (T k).1 = C) (hlink : Cond.fieldLink own index C (T k).2.1 (T k).2.2.1 ∈ lw_g) (hfin : (T k).2.2.2 = false) {v : Value} (hn : narrow (ty0 k) v = v) (hfit : fits (ty0 k) v = true) (hl : k < fs.length)
    (hdg : decode cc pc = .ok (.putfield index, 3)) (kk : ∀ (H1 : Heap) (locs1 : List Loc), va_at g.1 vwCl (a, .inr (ci, fs.set k v)) H1 → H1.size = H.size → (∀ q, q ≠ a → H1[q]? = H[q]?) → va_S (nF F) H0 H1 locs1 → W p l e R s m args below meth c H1 locs1 cells slots Q (F0 m (pc + 3) ls rest)) : W p l e R s m args below meth c H locs cells slots Q (F0 m pc ls (v :: .ref a :: rest)) := by
  obtain ⟨hexec, hb, -, hown, hts, hK, -⟩ := E
  have hap := va_apart (own := own) hts hin ty0 hty hnm hK hc
  obtain ⟨r, h1, cell, q1, q2, q3, q4⟩ := he
  have hr : r = (C, T, N) := Option.some.inj (h1.symm.trans hc)
  subst hr
  obtain ⟨hS, hfc, kC, hkC, hkind⟩ := hK.1 ci _ hc
  obtain ⟨cf, kf, fi, f, hi, hsl⟩ := hS k hk
  have hlay := hts _ (hin _ (u_in_lay hk))
  unfold u_lay at hlay
  rw [if_neg (by rw [hfin]; decide)] at hlay
  have hst := (u_facts hfc hkC (u_lays hts hin hk) hi).1
  have h6 := u_store hfc hkC hkind hlay hi (hty k hk) hn hfit
  rw [hT] at hi
  refine W.putK hexec hb (f := f) ⟨hown, hts _ hlink, ⟨_, _, _, hi⟩, hst⟩ (by rw [q2]; exact h6) q1 q3 (by rw [hsl]; exact k2_hasslot (q4 k hk)) rfl rfl hdg fun H' e1 e2 e3 => ?_
  rw [hsl] at e1 ⊢
  exact kk H' _ ⟨_, hc, t_OB.to (V := updV (vp_V fs) k v) ⟨_, e1, q2, q3, t_set q4 hap hk v⟩ (fun j _ => vp_updV_set hl v j)⟩ e2 e3 (hS0.put e2 e3 ha)
theorem w_iald (E : EN p s m c cc nL args own g F) {n : Nat} {f : Nat → Int32} (he : va_at g.1 vwCl (a, .inl (g.2.1 0, n, .inl f)) H) {i : Int32} (hin : vp_in i n) (hdg : decode cc pc = .ok (.iaload, 1))
    (kk : W p l e R s m args below meth c H locs cells slots Q (F0 m (pc + 1) ls (.int (f i.toNatClampNeg) :: rest))) : W p l e R s m args below meth c H locs cells slots Q (F0 m pc ls (.int i :: .ref a :: rest)) :=
  va_iald E.1 E.2.1 E.2.2.2.2.2.1 (va_P1 he) 0 0 rfl rfl hin hdg kk
theorem w_cald (E : EN p s m c cc nL args own g F) {n : Nat} {f : Nat → Int32} (he : va_at g.1 vwCl (a, .inl (g.2.1 1, n, .inl f)) H) {i : Int32} (hin : vp_in i n) (hdg : decode cc pc = .ok (.caload, 1))
    (kk : W p l e R s m args below meth c H locs cells slots Q (F0 m (pc + 1) ls (.int (f i.toNatClampNeg) :: rest))) : W p l e R s m args below meth c H locs cells slots Q (F0 m pc ls (.int i :: .ref a :: rest)) :=
  va_cald E.1 E.2.1 E.2.2.2.2.2.1 (va_P1 he) 0 1 rfl rfl hin hdg kk
theorem w_zald (E : EN p s m c cc nL args own g F) {n : Nat} {f : Nat → Int32} (he : va_at g.1 vwCl (a, .inl (g.2.1 2, n, .inl f)) H) {i : Int32} (hin : vp_in i n) (hdg : decode cc pc = .ok (.baload, 1))
    (kk : W p l e R s m args below meth c H locs cells slots Q (F0 m (pc + 1) ls (.int (f i.toNatClampNeg) :: rest))) : W p l e R s m args below meth c H locs cells slots Q (F0 m pc ls (.int i :: .ref a :: rest)) :=
  va_zald E.1 E.2.1 E.2.2.2.2.2.1 (va_P1 he) 0 2 rfl rfl hin hdg kk
theorem w_iast (E : EN p s m c cc nL args own g F) (hS0 : va_S (nF F) H0 H locs) {n : Nat} {f : Nat → Int32} (he : va_at g.1 vwCl (a, .inl (g.2.1 0, n, .inl f)) H) (ha : ¬ F a) {i x : Int32} (hin : vp_in i n) (hdg : decode cc pc = .ok (.iastore, 1))
    (kk : ∀ (H1 : Heap) (locs1 : List Loc), va_at g.1 vwCl (a, .inl (g.2.1 0, n, .inl (upd f i.toNatClampNeg x))) H1 → H1.size = H.size → (∀ q, q ≠ a → H1[q]? = H[q]?) → va_S (nF F) H0 H1 locs1 → W p l e R s m args below meth c H1 locs1 cells slots Q (F0 m (pc + 1) ls rest)) : W p l e R s m args below meth c H locs cells slots Q (F0 m pc ls (.int x :: .int i :: .ref a :: rest)) := by
  refine W.iast E.1 E.2.1 he ((E.2.2.2.2.2.1.2 0 _ rfl).1 n (fun j => .int (f j))) (fun q => by cases q) (by show ¬ (i < 0 ∨ (arrV _ _ _).slots.size ≤ _); rw [arrV_size]; exact hin) rfl rfl hdg fun H1 e z oq => ?_
  refine kk H1 _ ?_ z oq (hS0.put z oq ha)
  show H1[a]? = some (vp_cell _ _)
  rw [e, vp_cell_i, vp_cell_i, arrV_store]
  congr 2
  funext q
  by_cases hq : q = i.toNatClampNeg
  · subst hq
    simp [updV, upd]
  · simp [updV, upd, hq]
theorem w_zast (E : EN p s m c cc nL args own g F) (hS0 : va_S (nF F) H0 H locs) {n : Nat} {f : Nat → Int32} (he : va_at g.1 vwCl (a, .inl (g.2.1 2, n, .inl f)) H) (ha : ¬ F a) {i x : Int32} (hx9 : narrow .boolean (.int x) = .int x) (hin : vp_in i n) (hdg : decode cc pc = .ok (.bastore, 1))
    (kk : ∀ (H1 : Heap) (locs1 : List Loc), va_at g.1 vwCl (a, .inl (g.2.1 2, n, .inl (upd f i.toNatClampNeg x))) H1 → H1.size = H.size → (∀ q, q ≠ a → H1[q]? = H[q]?) → va_S (nF F) H0 H1 locs1 → W p l e R s m args below meth c H1 locs1 cells slots Q (F0 m (pc + 1) ls rest)) : W p l e R s m args below meth c H locs cells slots Q (F0 m pc ls (.int x :: .int i :: .ref a :: rest)) := by
  refine W.zast E.1 E.2.1 he ((E.2.2.2.2.2.1.2 2 _ rfl).1 n (fun j => .int (f j))) (fun q => by cases q) (by show ¬ (i < 0 ∨ (arrV _ _ _).slots.size ≤ _); rw [arrV_size]; exact hin) rfl rfl hdg fun H1 e z oq => ?_
  refine kk H1 _ ?_ z oq (hS0.put z oq ha)
  show H1[a]? = some (vp_cell _ _)
  rw [e, vp_cell_i, vp_cell_i, arrV_store]
  congr 2
  funext q
  by_cases hq : q = i.toNatClampNeg
  · subst hq
    simp [updV, upd]
    exact hx9
  · simp [updV, upd, hq]
theorem w_cast (E : EN p s m c cc nL args own g F) (hS0 : va_S (nF F) H0 H locs) {n : Nat} {f : Nat → Int32} (he : va_at g.1 vwCl (a, .inl (g.2.1 1, n, .inl f)) H) (ha : ¬ F a) {i x : Int32} (hx9 : narrow .char (.int x) = .int x) (hin : vp_in i n) (hdg : decode cc pc = .ok (.castore, 1))
    (kk : ∀ (H1 : Heap) (locs1 : List Loc), va_at g.1 vwCl (a, .inl (g.2.1 1, n, .inl (upd f i.toNatClampNeg x))) H1 → H1.size = H.size → (∀ q, q ≠ a → H1[q]? = H[q]?) → va_S (nF F) H0 H1 locs1 → W p l e R s m args below meth c H1 locs1 cells slots Q (F0 m (pc + 1) ls rest)) : W p l e R s m args below meth c H locs cells slots Q (F0 m pc ls (.int x :: .int i :: .ref a :: rest)) := by
  refine W.cast E.1 E.2.1 he ((E.2.2.2.2.2.1.2 1 _ rfl).1 n (fun j => .int (f j))) (fun q => by cases q) (by show ¬ (i < 0 ∨ (arrV _ _ _).slots.size ≤ _); rw [arrV_size]; exact hin) rfl rfl hdg fun H1 e z oq => ?_
  refine kk H1 _ ?_ z oq (hS0.put z oq ha)
  show H1[a]? = some (vp_cell _ _)
  rw [e, vp_cell_i, vp_cell_i, arrV_store]
  congr 2
  funext q
  by_cases hq : q = i.toNatClampNeg
  · subst hq
    simp [updV, upd]
    exact hx9
  · simp [updV, upd, hq]
end PT
