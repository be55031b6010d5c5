/-! ArrayList: its members as contracts. A list is an object (its count of changes, its array, its size) and an array of references -/
abbrev alO (md : Int32) (q n : Nat) : va_E := .inr (2, [.int md, .ref q, .int (nI n)])
abbrev alA (g : cG) (cap : Nat) (f : Nat → Option Nat) : va_E := .inl (g.2.1 3, cap, .inr (.inr (.inr (.inr f))))
/-- an object of ours -/
def AO (g : cG) (y : Nat) (H : Heap) : Prop := ∃ (ci : Nat) (fs : List Value), (ci = 3 ∨ ci = 4 ∨ ci = 5 ∨ ci = 6) ∧ va_at g.1 vwCl (y, .inr (ci, fs)) H
theorem AO.kept {g : cG} {y : Nat} {H H1 : Heap} (h : AO g y H) (hq : H1[y]? = H[y]?) : AO g y H1 := by
  obtain ⟨ci, fs, h1, h2⟩ := h
  exact ⟨ci, fs, h1, h2.kept hq⟩
theorem AO.lt {g : cG} {y : Nat} {H : Heap} (h : AO g y H) : y < H.size := by
  obtain ⟨ci, fs, h1, h2⟩ := h
  exact h2.lt
/-- the list at a, with its array at q, holds the objects els -/
def AL (g : cG) (F : Nat → Prop) (a q : Nat) (els : List Nat) (H : Heap) : Prop :=
  ¬ F a ∧ (∃ md, va_at g.1 vwCl (a, alO md q els.length) H) ∧ (∀ y ∈ els, AO g y H) ∧
  ((els = [] ∧ q = g.2.2.1) ∨ (¬ F q ∧ q ≠ a ∧ ∃ (cap : Nat) (f : Nat → Option Nat), va_at g.1 vwCl (q, alA g cap f) H ∧ els.length ≤ cap ∧ 0 < cap ∧ cap ≤ 200 ∧ ∀ i, i < els.length → f i = els[i]?))
theorem AL.recv {g : cG} {F F2 : Nat → Prop} {a q : Nat} {els : List Nat} {H : Heap} {s : State} (hG : GE g F2 s) (h : AL g F a q els H) : ∃ cellB : Cell, H[a]? = some cellB ∧ cellB.vm.isStatics = false ∧ s.vm.findClass RJx4a65c = some cellB.cls := by
  obtain ⟨md, h1⟩ := h.2.1
  exact va_recv (q := (RJx4a65c, TJx4a65c, 3)) (q0 := 0) (ci := 2) hG.1 (va_P1 h1) rfl rfl
theorem AO.any {g : cG} {F : Nat → Prop} {s : State} {y : Nat} {H : Heap} (hG : GE g F s) (h : AO g y H) : va_Any "java/lang/Object" s H y := by
  obtain ⟨ci, fs, h1, h2⟩ := h
  have key : ∀ (r : vw_C), vwCl[ci]? = some r → Cond.castable r.1 "java/lang/Object" ∈ lw_n → va_Any "java/lang/Object" s H y := by
    intro r hr hc
    refine va_rAny (q0 := 0) hG.1 (va_P1 h2) rfl hr (fun comp c0 e1 e2 => ?_)
    obtain ⟨c1, t1, f1, f2, f3⟩ := Cond.castable_spec (args := #[]) (va_Nw.use (A := #[]) rfl (hG.2.1 _ hc))
    cases e2.symm.trans f1
    cases e1.symm.trans f2
    exact f3
  rcases h1 with rfl | rfl | rfl | rfl
  · exact key _ rfl ca_X0
  · exact key _ rfl ca_X1
  · exact key _ rfl ca_X2
  · exact key _ rfl ca_X3
section ALR
variable {p : Program} {l : Launch} {e : Env} {R : Room} {s : State} {m : MethodId} {args : Array Value} {below : List Frame} {meth : Method} {c : Code} {H : Heap} {locs : List Loc} {cells slots : Nat} {Q : State → Prop}
variable {cc : ByteArray} {pc nL : Nat} {ls : Array Slot} {rest : List Value} {g : cG} {F : Nat → Prop} {H0 : Heap} {a q n : Nat} {md : Int32}
theorem al_len (E : EN p s m c cc nL args RJx4a65c g F) (h : va_at g.1 vwCl (a, alO md q n) H) (hd : decode cc pc = .ok (.getfield 48, 3))
    (kk : W p l e R s m args below meth c H locs cells slots Q (F0 m (pc + 3) ls (.int (nI n) :: rest))) : W p l e R s m args below meth c H locs cells slots Q (F0 m pc ls (.ref a :: rest)) :=
  w_get E (C := RJx4a65c) (T := TJx4a65c) (N := 3) (ci := 2) ly_Jx4a65c h rfl 2 (by decide) rfl fk_Jx4a65c_48 rfl hd kk
theorem al_arr (E : EN p s m c cc nL args RJx4a65c g F) (h : va_at g.1 vwCl (a, alO md q n) H) (hd : decode cc pc = .ok (.getfield 9, 3))
    (kk : W p l e R s m args below meth c H locs cells slots Q (F0 m (pc + 3) ls (.ref q :: rest))) : W p l e R s m args below meth c H locs cells slots Q (F0 m pc ls (.ref a :: rest)) :=
  w_get E (C := RJx4a65c) (T := TJx4a65c) (N := 3) (ci := 2) ly_Jx4a65c h rfl 1 (by decide) rfl fk_Jx4a65c_9 rfl hd kk
end ALR
