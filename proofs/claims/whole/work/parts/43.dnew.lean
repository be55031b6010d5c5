/-! new badges, lifts, riders -/
def PDn (g : cG) (F : Nat → Prop) (A : Nat → Nat → Nat) (nb nl nr ne : Nat) (pr : List Nat) (t : TT) (z : Nat) (H : Heap) : Prop :=
  ∃ Ho : Heap, PD g F A nb nl nr ne pr t Ho ∧ Ho.size = z ∧ (∀ q, q < z → H[q]? = Ho[q]?) ∧ z < H.size
def upB (B : Nat → Nat → Nat) (kz iz z : Nat) : Nat → Nat → Nat := fun k i => if k = kz ∧ i = iz then z else B k i
theorem PDn.pd {g : cG} {F : Nat → Prop} {A : Nat → Nat → Nat} {nb nl nr ne : Nat} {pr : List Nat} {t : TT} {z : Nat} {H : Heap} (h : PDn g F A nb nl nr ne pr t z H) : PD g F A nb nl nr ne pr t H := by
  obtain ⟨Ho, h1, rfl, h3, h4⟩ := h
  exact h1.keep h3 (by omega)
theorem upB_k {B : Nat → Nat → Nat} {kz iz z k : Nat} (h : k ≠ kz) : upB B kz iz z k = B k := by
  funext i
  exact if_neg (fun q => h q.1)
theorem upB_n {B : Nat → Nat → Nat} {kz iz z k i : Nat} (h : i ≠ iz) : upB B kz iz z k i = B k i := if_neg (fun q => h q.2)
theorem upB_s {B : Nat → Nat → Nat} {kz iz z : Nat} : upB B kz iz z kz iz = z := if_pos ⟨rfl, rfl⟩
section DNW
variable {p : Program} {l : Launch} {e : Env} {R : Room} {s : State} {m : MethodId} {args : Array Value} {below : List Frame} {meth : Method} {c : Code} {H : Heap} {locs : List Loc} {cells slots : Nat} {Q : State → Prop}
variable {cc : ByteArray} {pc nL : Nat} {ls : Array Slot} {rest : List Value} {g : cG} {F : Nat → Prop} {H0 : Heap}
variable {A : Nat → Nat → Nat} {nb nl nr ne nb2 nl2 nr2 z : Nat} {pr : List Nat} {t t2 : TT}
theorem d_new {C : String} {T : u_T} {N ci index : Nat} {ty0 : Nat → FieldType} (E : EN p s m c cc nL args RX4 g F) (kc : KC C T N ci ty0) (hS : va_S (nF F) H0 H locs) (hP : PD g F A nb nl nr ne pr t H) (hcl : Cond.classLink RX4 index C ∈ lw_g) (hinst : Cond.instantiable C N ∈ lw_g) (hini : Cond.initialized C ∈ lw_g) {fs : List Value} (hfs : ∀ j, j < N → defaultValue (ty0 j) = vp_V fs j) (hcells : cells + 1 ≤ R.cells) (hslots : slots + N ≤ R.slots) (hdg : decode cc pc = .ok (.new index, 3))
    (kk : ∀ (z : Nat) (H1 : Heap), PDn g F A nb nl nr ne pr t z H1 → ¬ F z → va_at g.1 vwCl (z, .inr (ci, fs)) H1 → va_S (nF F) H0 H1 locs → W p l e R s m args below meth c H1 locs (cells + 1) (slots + N) Q (F0 m (pc + 3) ls (.ref z :: rest))) : W p l e R s m args below meth c H locs cells slots Q (F0 m pc ls rest) :=
  w_new E kc.1 ty0 kc.2.1 hcl hinst hini kc.2.2.2 hS hfs hcells hslots hdg fun H1 h1 z1 o1 hS1 => kk H.size H1 ⟨H, hP, rfl, o1, by omega⟩ (fun q => absurd (hP.fs _ q) (Nat.lt_irrefl _)) h1 hS1
theorem d_ninit (E : EN p s m c cc nL args RX4 g F) (hS : va_S (nF F) s.heap H locs) (hP : PDn g F A nb nl nr ne pr t z H) {y : MethodName} {b : ByteArray} {n k fr lo ci idx : Nat} {As : List Value} {fs fs2 : List Value}
    (hM : CT l y b n none fr lo 0 0 g (fun q => F q ∨ q ≠ z) (.ref z :: As) (fun H => va_at g.1 vwCl (z, .inr (ci, fs)) H) (fun v H => v = none ∧ va_at g.1 vwCl (z, .inr (ci, fs2)) H)) (ok : okI y b n none k) (hlk : Cond.methodLinkNest RX4 idx y RX4 ∈ lw_n) (hz : va_at g.1 vwCl (z, .inr (ci, fs)) H) (hlen : As.length = k) {lv : List (Nat × Value)} (hls : lv_has ls nL lv)
    (hR : Nat.ble (fr + 1) R.frames = true ∧ Nat.ble (8 + (n + 11) + lo) R.locals = true) (hst : Nat.ble (rest.map fun v => v.category).sum 8 = true) (hf : cells ≤ R.cells ∧ slots ≤ R.slots) (hd : decode cc pc = .ok (.invokespecial idx, 3)) {st0 : List Value} (hst0 : st0 = As.reverse ++ .ref z :: rest)
    (kk : ∀ (H1 : Heap) (locs1 : List Loc), PDn g F A nb nl nr ne pr t z H1 → va_at g.1 vwCl (z, .inr (ci, fs2)) H1 → va_S (nF F) s.heap H1 locs1 → W p l e R s m args below meth c H1 locs1 cells slots Q (F0 m (pc + 3) ls rest)) : W p l e R s m args below meth c H locs cells slots Q (F0 m pc ls st0) := by
  refine ct_INF (F1 := fun q => F q ∨ q ≠ z) (fun q h => Or.inl h) E hS hM ok hlk hz hlen hls hR hst hf hd hst0 (fun v9 H1 locs1 hv9 hS1 hz9 hfr => ?_)
  obtain ⟨rfl, hz1⟩ := hv9
  obtain ⟨Ho, h1, rfl, h3, h4⟩ := hP
  exact kk H1 locs1 ⟨Ho, h1, rfl, fun q hq => (hfr q (by omega) (Or.inr (by omega))).trans (h3 q hq), by omega⟩ hz1 hS1
theorem d_addN (E : EN p s m c cc nL args RX4 g F) (hS : va_S (nF F) s.heap H locs) (hP : PDn g F A nb nl nr ne pr t z H) {j kz iz ci : Nat} {fs : List Value} (hz : va_at g.1 vwCl (z, .inr (ci, fs)) H) (hj : j < 3) (hkz : 4 ≤ kz ∧ kz ≤ 6) (hdn : ∀ k i, i < dN nb2 nl2 nr2 ne k → i < dN nb nl nr ne k ∨ (k = kz ∧ i = iz)) (hiz : ¬ iz < dN nb nl nr ne kz)
    (ht : ∀ (B : Nat → Nat → Nat) k i, i < dN nb nl nr ne k → kOb k → dO (upB B kz iz z) t2 k i = dO B t k i) (ha : ∀ j2, j2 < 3 → t2 (j2 + 1) = t (j2 + 1)) (hel : ∀ (B : Nat → Nat → Nat) j2, j2 < 5 → j2 ≠ j → dEl (upB B kz iz z) nb2 nl2 nr2 ne pr j2 = dEl B nb nl nr ne pr j2) (hels : ∀ B : Nat → Nat → Nat, dEl (upB B kz iz z) nb2 nl2 nr2 ne pr j = dEl B nb nl nr ne pr j ++ [z]) (hd2 : DI nb2 nl2 nr2 ne pr t2)
    (hc : dO (upB A kz iz z) t2 kz iz = (ci, fs)) (hci : ci = 3 ∨ ci = 4 ∨ ci = 5 ∨ ci = 6) (hn : dLn nb nl nr ne pr j ≤ 99) {lv : List (Nat × Value)} (hls : lv_has ls nL lv) (hR : Nat.ble 7 R.frames = true ∧ Nat.ble 194 R.locals = true) (hf : cells + 1 ≤ R.cells ∧ slots + 150 ≤ R.slots) (hd : decode cc pc = .ok (.invokevirtual 72, 3)) (hst : Nat.ble (rest.map fun v => v.category).sum 8 = true)
    (kk : ∀ (H1 : Heap) (locs1 : List Loc), va_S (nF F) s.heap H1 locs1 → PD g F (upB A kz iz z) nb2 nl2 nr2 ne pr t2 H1 → W p l e R s m args below meth c H1 locs1 (cells + 1) (slots + 150) Q (F0 m (pc + 3) ls (.int 1 :: rest))) : W p l e R s m args below meth c H locs cells slots Q (F0 m pc ls (.ref z :: .ref (A 2 j) :: rest)) := by
  obtain ⟨Ho, ⟨B, nm, hB, hco⟩, rfl, h3, h4⟩ := hP
  have hc2 := hco.keep h3 (by omega)
  rw [← hB 2 (by decide) (by decide)]
  refine d_add E hS (hc2.2.2.2.1 j (by omega)).2 hc2.2.2.2.2.2.1 ⟨ci, fs, hci, hz⟩ (Nat.ne_of_gt (hco.lt2 (k := 2) (i := j) (by decide) (by show j < 5; omega))) (fun _ => Nat.ne_of_gt (hco.lt3 (by omega))) (hc2.els (by omega)) (by rw [dEl_len]; exact hn) hls hR hf hd hst (fun q1 H1 locs1 hq1 hal oq hz1 hS1 => kk H1 locs1 hS1 ?_)
  have eBA : ∀ k, k ≠ 3 → k ≠ 7 → upB B kz iz Ho.size k = upB A kz iz Ho.size k := fun k a b => by funext i; simp only [upB, hB k a b]
  obtain ⟨B3, nm3, e3, h9⟩ := hc2.grow (B2 := upB B kz iz Ho.size) (by omega) ⟨hkz.1, by omega⟩ hdn hiz (fun q => absurd (hco.2.2.2.2.2.1 _ q) (Nat.lt_irrefl _)) (fun k i a b => hco.lt2 b a) (fun j2 hj2 => hco.lt3 hj2) rfl (ht B) ha (hel B) (hels B) hd2 (by
    rw [dO_cg (eBA 1 (by decide) (by decide)) (eBA 2 (by decide) (by decide)) (eBA 4 (by decide) (by decide)) (eBA 5 (by decide) (by decide)), hc]
    exact hz) hq1 hal oq hz1
  exact ⟨B3, nm3, fun k a b => (e3 k a).trans (eBA k a b), h9⟩
end DNW
/-! the three kinds -/
def tAddL (t : TT) (nl : Nat) (x : Int32) : TT := tu (tu (tu (tu (tu t 17 nl x) 18 nl 0) 21 nl 1) 20 nl 115) 19 nl 0
def tAddB (t : TT) (nb : Nat) (x : Int32) : TT := tu (tu t 4 nb x) 5 nb 0
def tAddR (t : TT) (nr b : Nat) (x y : Int32) : TT := tu (tu (tu (tu (tu (tu t 7 nr (nI b)) 8 nr x) 9 nr y) 13 nr 119) 10 nr (-1)) 40 nr 0
section AK
variable {A B : Nat → Nat → Nat} {nb nl nr ne z : Nat} {pr : List Nat} {t : TT}
theorem dO_new {B : Nat → Nat → Nat} {t : TT} {kz iz z k i : Nat} (hd : DI nb nl nr ne pr t) (hkz : 4 ≤ kz ∧ kz ≤ 6) (hiz : ¬ iz < dN nb nl nr ne kz) (hi : i < dN nb nl nr ne k) (hk : kOb k) : dO (upB B kz iz z) t k i = dO B t k i := by
  have e1 : upB B kz iz z 1 = B 1 := upB_k (by omega)
  have e2 : upB B kz iz z 2 = B 2 := upB_k (by omega)
  rcases kOb_c hk with rfl | rfl | rfl | rfl | rfl
  · simp only [dO, e1, e2]
  · rfl
  · rfl
  · have hi6 : i < nr := hi
    obtain ⟨b, hb, eb⟩ := hd.2.2.2.1 i hi6
    have h4 : upB B kz iz z 4 (t 7 i).toNatClampNeg = B 4 (t 7 i).toNatClampNeg := by
      rw [eb, nI_clamp (by have := hd.1; omega)]
      exact if_neg (fun q => hiz (by rw [← q.1, ← q.2]; exact hb))
    have h5 : lref (upB B kz iz z) (t 10 i) = lref B (t 10 i) := by
      rcases hd.2.2.1 i hi6 with h | ⟨q, hq, h⟩
      · rw [h, lref_m1, lref_m1]
      · rw [h]
        unfold lref
        rw [if_neg (nI_pos (by have := hd.1; omega)), if_neg (nI_pos (by have := hd.1; omega)), nI_clamp (by have := hd.1; omega)]
        exact congrArg some (if_neg (fun q2 => hiz (by rw [← q2.1, ← q2.2]; exact hq)))
    simp only [dO, h4, h5]
  · rfl
theorem tAddL_ot {k i : Nat} {x : Int32} (hi : i < dN nb nl nr ne k) (hk : kOb k) : dO B (tAddL t nl x) k i = dO B t k i := by
  have hn : ¬ (k = 5 ∧ i = nl) := fun q => by rw [q.1, q.2] at hi; exact Nat.lt_irrefl _ hi
  unfold tAddL
  rw [dO_tu hn hk, dO_tu hn hk, dO_tu hn hk, dO_tu hn hk, dO_tu hn hk]
theorem tAddB_ot {k i : Nat} {x : Int32} (hi : i < dN nb nl nr ne k) (hk : kOb k) : dO B (tAddB t nb x) k i = dO B t k i := by
  have hn : ¬ (k = 4 ∧ i = nb) := fun q => by rw [q.1, q.2] at hi; exact Nat.lt_irrefl _ hi
  unfold tAddB
  rw [dO_tu hn hk, dO_tu hn hk]
theorem tAddR_ot {k i b : Nat} {x y : Int32} (hi : i < dN nb nl nr ne k) (hk : kOb k) : dO B (tAddR t nr b x y) k i = dO B t k i := by
  have hn : ¬ (k = 6 ∧ i = nr) := fun q => by rw [q.1, q.2] at hi; exact Nat.lt_irrefl _ hi
  unfold tAddR
  rw [dO_tu hn hk, dO_tu hn hk, dO_tu hn hk, dO_tu hn hk, dO_tu hn hk, dO_tu hn hk]
theorem all_s {n : Nat} {P : Nat → Prop} (h : ∀ i, i < n → P i) (h2 : P n) : ∀ i, i < n + 1 → P i := fun i hi => by
  rcases Nat.lt_or_ge i n with q | q
  · exact h i q
  · rw [show i = n by omega]; exact h2
theorem map_s {f f2 : Nat → Nat} {n z : Nat} (h : ∀ i, i < n → f2 i = f i) (h2 : f2 n = z) : (List.range (n + 1)).map f2 = (List.range n).map f ++ [z] := by
  rw [List.range_succ, List.map_append]
  congr 1
  · exact List.map_congr_left (fun i hi => h i (List.mem_range.mp hi))
  · simp [h2]
theorem map_k {f f2 : Nat → Nat} {n : Nat} (h : ∀ i, i < n → f2 i = f i) : (List.range n).map f2 = (List.range n).map f := List.map_congr_left (fun i hi => h i (List.mem_range.mp hi))
theorem dEl_new {kz iz : Nat} (hd : DI nb nl nr ne pr t) (hkz : 4 ≤ kz ∧ kz ≤ 6) (hiz : ¬ iz < dN nb nl nr ne kz) {j2 : Nat} (hj2 : j2 < 5) : dEl (upB B kz iz z) nb nl nr ne pr j2 = dEl B nb nl nr ne pr j2 := by
  have key : ∀ k i, i < dN nb nl nr ne k → upB B kz iz z k i = B k i := fun k i hi => if_neg (fun q => hiz (by rw [← q.1, ← q.2]; exact hi))
  obtain rfl | rfl | rfl | rfl | rfl : j2 = 0 ∨ j2 = 1 ∨ j2 = 2 ∨ j2 = 3 ∨ j2 = 4 := by omega
  · exact map_k (fun i hi => key 4 i hi)
  · exact map_k (fun i hi => key 5 i hi)
  · exact map_k (fun i hi => key 6 i hi)
  · exact List.map_congr_left (fun i hi => key 6 i (hd.2.1 i hi))
  · exact map_k (fun i hi => key 7 i hi)
end AK
