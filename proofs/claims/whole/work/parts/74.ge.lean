/-! the law's entry: what the statement gives of the start -/
theorem hts_g {s : State} {B : Array Value} (hts : ∀ w ∈ lw_tbl, w.before B s = true) : ∀ w ∈ lw_g, w.before B s = true := fun w hw => hts w (List.mem_filter.mp hw).1
def lw_gn : Cond := Jvm.Cond.and given_1 narrow_1
theorem gv_i (i : Nat) {w : Cond} {B : Array Value} {s : State} (hgv : (Jvm.Cond.and given_1 narrow_1).before B s = true) (h : (flatC lw_gn)[i]? = some w) : w.before B s = true := flat_of_before _ hgv w (List.mem_of_getElem? h)
set_option maxRecDepth 100000 in
theorem ly_J0 : ∀ w ∈ u_ws RJ0 TJ0 2, w ∈ lw_g := by
  intro w hw
  obtain ⟨k, hk, rfl⟩ := List.mem_map.mp hw
  have hk := List.mem_range.mp hk
  match k, hk with
  | 0, _ => exact (lw_gi 393 rfl rfl)
  | 1, _ => exact (lw_gi 395 rfl rfl)
  | j + 2, h => exact absurd h (by omega)
set_option maxRecDepth 100000 in
theorem ly_Jx00060 : ∀ w ∈ u_ws RJx00060 TJx00060 6, w ∈ lw_g := by
  intro w hw
  obtain ⟨k, hk, rfl⟩ := List.mem_map.mp hw
  have hk := List.mem_range.mp hk
  match k, hk with
  | 0, _ => exact (lw_gi 381 rfl rfl)
  | 1, _ => exact (lw_gi 382 rfl rfl)
  | 2, _ => exact (lw_gi 383 rfl rfl)
  | 3, _ => exact (lw_gi 384 rfl rfl)
  | 4, _ => exact (lw_gi 385 rfl rfl)
  | 5, _ => exact (lw_gi 386 rfl rfl)
  | j + 6, h => exact absurd h (by omega)
set_option maxRecDepth 100000 in
theorem ac_long : Cond.arrayClass .long ∈ lw_g := lw_gi 1166 rfl rfl
set_option maxRecDepth 100000 in
theorem ac_double : Cond.arrayClass .double ∈ lw_g := lw_gi 1167 rfl rfl
section GS9
variable {s : State} {B : Array Value}
theorem u_kn9 {C : String} {T : u_T} {N n : Nat} (hg : ∀ w ∈ lw_g, w.before B s = true) (hin : ∀ w ∈ u_ws C T N, w ∈ lw_g) (hi : Cond.instantiable C n ∈ lw_g) : ∃ x : ClassId × (Nat → Nat), u_Kn s C T N x.1 x.2 := by
  obtain ⟨c, i, h⟩ := u_known (C := C) (T := T) (N := N) (n := n) hg hin (hg _ hi)
  exact ⟨(c, i), h⟩
theorem cls9 (hg : ∀ w ∈ lw_g, w.before B s = true) (k : Nat) : ∃ x : ClassId × (Nat → Nat), ∀ q, vwCl[k]? = some q → u_Kn s q.1 q.2.1 q.2.2 x.1 x.2 := by
  have key : ∀ {C : String} {T : u_T} {N : Nat}, (∃ x : ClassId × (Nat → Nat), u_Kn s C T N x.1 x.2) → vwCl[k]? = some (C, T, N) → ∃ x : ClassId × (Nat → Nat), ∀ q, vwCl[k]? = some q → u_Kn s q.1 q.2.1 q.2.2 x.1 x.2 := by
    intro C T N h e
    obtain ⟨x, hx⟩ := h
    refine ⟨x, fun q hq => ?_⟩
    rw [e] at hq
    cases hq
    exact hx
  match k, @key with
  | 0, key => exact key (u_kn9 hg ly_J0 is_J0) rfl
  | 1, key => exact key (u_kn9 hg ly_Jx00060 is_Jx00060) rfl
  | 2, key => exact key (u_kn9 hg ly_Jx4a65c is_Jx4a65c) rfl
  | 3, key => exact key (u_kn9 hg ly_X0 is_X0) rfl
  | 4, key => exact key (u_kn9 hg ly_X1 is_X1) rfl
  | 5, key => exact key (u_kn9 hg ly_X2 is_X2) rfl
  | 6, key => exact key (u_kn9 hg ly_X3 is_X3) rfl
  | 7, key => exact key (u_kn9 hg ly_X4 is_X4) rfl
  | 8, key => exact key (u_kn9 hg ly_X5 is_X5) rfl
  | k + 9, _ => exact ⟨(0, fun _ => 0), fun q hq => by simp [vwCl] at hq⟩
theorem prim9 {ty : FieldType} (hty : ∀ c, va_RA s c ty = (s.vm.findClass ("[" ++ ty.toString) = some c)) (hg : ∀ w ∈ lw_g, w.before B s = true) (h : Cond.arrayClass ty ∈ lw_g) : ∃ c : ClassId, ArrOfT s c ty ∧ va_RA s c ty := by
  obtain ⟨c, kA, comp, h1, h2, h3⟩ := Cond.arrayClass_spec (args := B) (first := s) (o := none) (s := s) (idx := []) (hg _ h)
  exact ⟨c, fun n z => ⟨fun k h => (by cases h), kA, h2, comp, h3⟩, by rw [hty]; exact h1⟩
theorem obj9 (h : (Cond.arrayOver (.object "java/lang/Object")).before B s = true) : ∃ c : ClassId, ArrOfT s c (.object "java/lang/Object") ∧ va_RA s c (.object "java/lang/Object") := by
  obtain ⟨comp, c, kA, h1, h2, h3, h4, h5⟩ := Cond.arrayOver_spec (args := B) (first := s) (s := s) (o := none) (idx := []) h
  exact ⟨c, fun n z => ⟨fun k h => (by cases h), kA, h3, comp, h4⟩, kA, comp, h3, h4, h1, h5⟩

set_option maxRecDepth 100000 in
theorem str9 (hts : ∀ w ∈ lw_tbl, w.before B s = true) (hgv : (Jvm.Cond.and given_1 narrow_1).before B s = true) : ∀ q ∈ lw_str, (Cond.stringRef "LiftDesk" q.1 q.2).before B s = true ∧ ∃ a, (Term.string "LiftDesk" q.1).eval B s none [] s = some (.ref a) := by
  have ex : ∀ k : Nat, (Cond.exactly (.string "LiftDesk" k) "java/lang/String").before B s = true → ∃ a, (Term.string "LiftDesk" k).eval B s none [] s = some (.ref a) := fun k h => by
    obtain ⟨a, c, cA, kA, q1, -⟩ := Cond.exactly_spec (args := B) (first := s) (o := none) (s := s) (idx := []) (t := .string "LiftDesk" k) (cls := "java/lang/String") h
    exact ⟨a, q1⟩
  unfold lw_str
  refine List.forall_mem_cons.mpr ⟨⟨hts _ (List.mem_of_getElem? (i := 235) (by decide +kernel)), ex 53 (gv_i 88 hgv (by decide +kernel))⟩, ?_⟩
  refine List.forall_mem_cons.mpr ⟨⟨hts _ (List.mem_of_getElem? (i := 271) (by decide +kernel)), ex 64 (gv_i 120 hgv (by decide +kernel))⟩, ?_⟩
  refine List.forall_mem_cons.mpr ⟨⟨hts _ (List.mem_of_getElem? (i := 410) (by decide +kernel)), ex 81 (gv_i 142 hgv (by decide +kernel))⟩, ?_⟩
  refine List.forall_mem_cons.mpr ⟨⟨hts _ (List.mem_of_getElem? (i := 414) (by decide +kernel)), ex 84 (gv_i 173 hgv (by decide +kernel))⟩, ?_⟩
  refine List.forall_mem_cons.mpr ⟨⟨hts _ (List.mem_of_getElem? (i := 422) (by decide +kernel)), ex 86 (gv_i 206 hgv (by decide +kernel))⟩, ?_⟩
  refine List.forall_mem_cons.mpr ⟨⟨hts _ (List.mem_of_getElem? (i := 430) (by decide +kernel)), ex 88 (gv_i 236 hgv (by decide +kernel))⟩, ?_⟩
  refine List.forall_mem_cons.mpr ⟨⟨hts _ (List.mem_of_getElem? (i := 457) (by decide +kernel)), ex 218 (gv_i 263 hgv (by decide +kernel))⟩, ?_⟩
  refine List.forall_mem_cons.mpr ⟨⟨hts _ (List.mem_of_getElem? (i := 494) (by decide +kernel)), ex 110 (gv_i 295 hgv (by decide +kernel))⟩, ?_⟩
  refine List.forall_mem_cons.mpr ⟨⟨hts _ (List.mem_of_getElem? (i := 504) (by decide +kernel)), ex 114 (gv_i 330 hgv (by decide +kernel))⟩, ?_⟩
  refine List.forall_mem_cons.mpr ⟨⟨hts _ (List.mem_of_getElem? (i := 516) (by decide +kernel)), ex 121 (gv_i 375 hgv (by decide +kernel))⟩, ?_⟩
  refine List.forall_mem_cons.mpr ⟨⟨hts _ (List.mem_of_getElem? (i := 596) (by decide +kernel)), ex 220 (gv_i 425 hgv (by decide +kernel))⟩, ?_⟩
  refine List.forall_mem_cons.mpr ⟨⟨hts _ (List.mem_of_getElem? (i := 628) (by decide +kernel)), ex 157 (gv_i 461 hgv (by decide +kernel))⟩, ?_⟩
  refine List.forall_mem_cons.mpr ⟨⟨hts _ (List.mem_of_getElem? (i := 664) (by decide +kernel)), ex 222 (gv_i 497 hgv (by decide +kernel))⟩, ?_⟩
  refine List.forall_mem_cons.mpr ⟨⟨hts _ (List.mem_of_getElem? (i := 665) (by decide +kernel)), ex 174 (gv_i 534 hgv (by decide +kernel))⟩, ?_⟩
  refine List.forall_mem_cons.mpr ⟨⟨hts _ (List.mem_of_getElem? (i := 724) (by decide +kernel)), ex 190 (gv_i 583 hgv (by decide +kernel))⟩, ?_⟩
  refine List.forall_mem_cons.mpr ⟨⟨hts _ (List.mem_of_getElem? (i := 805) (by decide +kernel)), ex 199 (gv_i 636 hgv (by decide +kernel))⟩, ?_⟩
  refine List.forall_mem_cons.mpr ⟨⟨hts _ (List.mem_of_getElem? (i := 817) (by decide +kernel)), ex 207 (gv_i 677 hgv (by decide +kernel))⟩, ?_⟩
  refine List.forall_mem_cons.mpr ⟨⟨hts _ (List.mem_of_getElem? (i := 840) (by decide +kernel)), ex 211 (gv_i 718 hgv (by decide +kernel))⟩, ?_⟩
  exact fun _ h => by cases h
set_option maxRecDepth 100000 in
theorem nc9 (hgv : (Jvm.Cond.and given_1 narrow_1).before B s = true) : ∀ q ∈ lw_nc, va_Nc q.1 q.2 s := by
  unfold lw_nc
  refine List.forall_mem_cons.mpr ⟨va_Nc.of (gv_i 13 hgv (by decide +kernel)), ?_⟩
  refine List.forall_mem_cons.mpr ⟨va_Nc.of (gv_i 16 hgv (by decide +kernel)), ?_⟩
  refine List.forall_mem_cons.mpr ⟨va_Nc.of (gv_i 18 hgv (by decide +kernel)), ?_⟩
  refine List.forall_mem_cons.mpr ⟨va_Nc.of (gv_i 21 hgv (by decide +kernel)), ?_⟩
  refine List.forall_mem_cons.mpr ⟨va_Nc.of (gv_i 22 hgv (by decide +kernel)), ?_⟩
  refine List.forall_mem_cons.mpr ⟨va_Nc.of (gv_i 26 hgv (by decide +kernel)), ?_⟩
  refine List.forall_mem_cons.mpr ⟨va_Nc.of (gv_i 29 hgv (by decide +kernel)), ?_⟩
  refine List.forall_mem_cons.mpr ⟨va_Nc.of (gv_i 31 hgv (by decide +kernel)), ?_⟩
  refine List.forall_mem_cons.mpr ⟨va_Nc.of (gv_i 34 hgv (by decide +kernel)), ?_⟩
  refine List.forall_mem_cons.mpr ⟨va_Nc.of (gv_i 35 hgv (by decide +kernel)), ?_⟩
  refine List.forall_mem_cons.mpr ⟨va_Nc.of (gv_i 39 hgv (by decide +kernel)), ?_⟩
  refine List.forall_mem_cons.mpr ⟨va_Nc.of (gv_i 40 hgv (by decide +kernel)), ?_⟩
  refine List.forall_mem_cons.mpr ⟨va_Nc.of (gv_i 43 hgv (by decide +kernel)), ?_⟩
  refine List.forall_mem_cons.mpr ⟨va_Nc.of (gv_i 46 hgv (by decide +kernel)), ?_⟩
  refine List.forall_mem_cons.mpr ⟨va_Nc.of (gv_i 47 hgv (by decide +kernel)), ?_⟩
  refine List.forall_mem_cons.mpr ⟨va_Nc.of (gv_i 51 hgv (by decide +kernel)), ?_⟩
  refine List.forall_mem_cons.mpr ⟨va_Nc.of (gv_i 52 hgv (by decide +kernel)), ?_⟩
  refine List.forall_mem_cons.mpr ⟨va_Nc.of (gv_i 55 hgv (by decide +kernel)), ?_⟩
  refine List.forall_mem_cons.mpr ⟨va_Nc.of (gv_i 59 hgv (by decide +kernel)), ?_⟩
  refine List.forall_mem_cons.mpr ⟨va_Nc.of (gv_i 60 hgv (by decide +kernel)), ?_⟩
  refine List.forall_mem_cons.mpr ⟨va_Nc.of (gv_i 64 hgv (by decide +kernel)), ?_⟩
  refine List.forall_mem_cons.mpr ⟨va_Nc.of (gv_i 65 hgv (by decide +kernel)), ?_⟩
  refine List.forall_mem_cons.mpr ⟨va_Nc.of (gv_i 68 hgv (by decide +kernel)), ?_⟩
  refine List.forall_mem_cons.mpr ⟨va_Nc.of (gv_i 70 hgv (by decide +kernel)), ?_⟩
  refine List.forall_mem_cons.mpr ⟨va_Nc.of (gv_i 73 hgv (by decide +kernel)), ?_⟩
  refine List.forall_mem_cons.mpr ⟨va_Nc.of (gv_i 77 hgv (by decide +kernel)), ?_⟩
  refine List.forall_mem_cons.mpr ⟨va_Nc.of (gv_i 78 hgv (by decide +kernel)), ?_⟩
  refine List.forall_mem_cons.mpr ⟨va_Nc.of (gv_i 81 hgv (by decide +kernel)), ?_⟩
  refine List.forall_mem_cons.mpr ⟨va_Nc.of (gv_i 83 hgv (by decide +kernel)), ?_⟩
  refine List.forall_mem_cons.mpr ⟨va_Nc.of (gv_i 86 hgv (by decide +kernel)), ?_⟩
  exact fun _ h => by cases h
set_option maxHeartbeats 4000000 in
set_option maxRecDepth 100000 in
theorem ge9 (hts : ∀ w ∈ lw_tbl, w.before B s = true) (hgv : (Jvm.Cond.and given_1 narrow_1).before B s = true) : ∃ g : cG, GE g (F0k s.heap.size) s := by
  have hg := hts_g hts
  have hA : ∀ a : Nat, a < s.heap.size → ¬ nF (F0k s.heap.size) a := fun a h z => z h
  have hAO : (Cond.arrayOver (.object "java/lang/Object")).before B s = true := hts _ (List.mem_of_getElem? (i := 360) (by decide +kernel))
  obtain ⟨cI, hI⟩ := prim9 (ty := .int) (fun _ => rfl) hg ac_int
  obtain ⟨cC, hC⟩ := prim9 (ty := .char) (fun _ => rfl) hg ac_char
  obtain ⟨cZ, hZ⟩ := prim9 (ty := .boolean) (fun _ => rfl) hg ac_boolean
  obtain ⟨cO, hO⟩ := obj9 hAO
  obtain ⟨cJ, hJ⟩ := prim9 (ty := .long) (fun _ => rfl) hg ac_long
  obtain ⟨cD, hD⟩ := prim9 (ty := .double) (fun _ => rfl) hg ac_double
  obtain ⟨e0, he0, hT0⟩ := va_Tof (args := B) (s := s) (tm := .static "java/util/ArrayList" "DEFAULTCAPACITY_EMPTY_ELEMENTDATA" "[Ljava/lang/Object;") (ty := .object "java/lang/Object") (N := 0) (f := fun _ => .null) (A := nF (F0k s.heap.size)) (by decide) (gv_i 5 hgv (by decide +kernel)) (va_eqt (gv_i 7 hgv (by decide +kernel))) (fun j hj => absurd hj (by omega)) hA
  obtain ⟨mi, hMi⟩ := va_Mi.of (gv_i 87 hgv (by decide +kernel) : (Cond.isRef (.mirror "[Ljava/lang/Object;")).before B s = true)
  have hst := str9 hts hgv
  refine ⟨((fun k => (Classical.choose (cls9 hg k)).1, fun k => (Classical.choose (cls9 hg k)).2), (fun k => match k with | 0 => cI | 1 => cC | 2 => cZ | 3 => cO | 4 => cJ | _ => cD), e0, mi, fun k => Classical.epsilon (fun a : Nat => (Term.string "LiftDesk" k).eval B s none [] s = some (.ref a))), ⟨fun c q hq => Classical.choose_spec (cls9 hg c) q hq, fun k q hq => ?_⟩, fun w hw => va_Nw.of (lw_not hw) (hts w (List.mem_filter.mp hw).1), ?_, hT0, ?_, ?_, fun q hq => ?_, hMi, va_Dc.of (hts _ (List.mem_of_getElem? (i := 1188) (by decide +kernel))), va_AO.of hAO, nc9 hgv⟩
  · match k, hq with
    | 0, hq => cases hq; exact hI
    | 1, hq => cases hq; exact hC
    | 2, hq => cases hq; exact hZ
    | 3, hq => cases hq; exact hO
    | 4, hq => cases hq; exact hJ
    | 5, hq => cases hq; exact hD
    | k + 6, hq => simp at hq
  · exact va_Zref (hts _ (List.mem_of_getElem? (i := 106) (by decide +kernel))) (hg _ in_Jx4a65c) he0 hA
  · exact vx_Zqof (hts _ (List.mem_of_getElem? (i := 217) (by decide +kernel))) (hts _ (List.mem_of_getElem? (i := 64) (by decide +kernel))) (gv_i 8 hgv (by decide +kernel)) hA
  · exact vx_Zqof (hts _ (List.mem_of_getElem? (i := 219) (by decide +kernel))) (hts _ (List.mem_of_getElem? (i := 64) (by decide +kernel))) (gv_i 9 hgv (by decide +kernel)) hA
  · exact vk_R.of (hst q hq).1 (Classical.epsilon_spec (hst q hq).2)
end GS9
