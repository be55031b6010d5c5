/-! the law: what its loop keeps to, and its steps -/
def FBk (s0 om : Nat) (ad : Nat → Nat) (d9 : Nat) : Nat → Prop := fun q => q < s0 ∨ (q = om ∨ ∃ k, mA k = true ∧ q = ad k) ∨ q = d9
def FMd (om : Nat) (ad : Nat → Nat) : Nat → Prop := fun q => q ≠ om ∧ ∀ k, mA k = true → q ≠ ad k
abbrev F0k (s0 : Nat) : Nat → Prop := fun q => q < s0
def LCn (s0 om ao d9 : Nat) (ad : Nat → Nat) : Prop := s0 ≤ om ∧ (∀ k, mA k = true → s0 ≤ ad k ∧ ao ≠ ad k ∧ d9 ≠ ad k) ∧ s0 ≤ ao ∧ s0 ≤ d9 ∧ ao ≠ om ∧ d9 ≠ om ∧ ao ≠ d9
abbrev aL (g : cG) (a : Nat) (f : Nat → Int64) : Nat × va_E := (a, .inl (g.2.1 4, 1, .inr (.inl f)))
abbrev aD (g : cG) (a : Nat) (f : Nat → UInt64) : Nat × va_E := (a, .inl (g.2.1 5, 1, .inr (.inr (.inr (.inl f)))))
theorem FBk_sw {s0 om ao d9 : Nat} {ad : Nat → Nat} : fW (FBk s0 om ad d9) ao = fW (FBk s0 om ad ao) d9 := by
  funext q
  apply propext
  unfold fW FBk
  constructor
  · rintro ((h | h | h) | h)
    · exact Or.inl (Or.inl h)
    · exact Or.inl (Or.inr (Or.inl h))
    · exact Or.inr h
    · exact Or.inl (Or.inr (Or.inr h))
  · rintro ((h | h | h) | h)
    · exact Or.inl (Or.inl h)
    · exact Or.inl (Or.inr (Or.inl h))
    · exact Or.inr h
    · exact Or.inl (Or.inr (Or.inr h))
theorem PM.keep {g : cG} {F : Nat → Prop} {o : Nat} {ad : Nat → Nat} {M : TT} {H H1 : Heap} (h : PM g F o ad M H) (ho : H1[o]? = H[o]?) (ha : ∀ k, mA k = true → H1[ad k]? = H[ad k]?) : PM g F o ad M H1 :=
  ⟨h.1, h.2.1.kept ho, fun k hk => (h.2.2 k hk).kept (ha k hk)⟩
theorem PM.lto {g : cG} {F : Nat → Prop} {o : Nat} {ad : Nat → Nat} {M : TT} {H : Heap} (h : PM g F o ad M H) : o < H.size := h.2.1.lt
theorem PM.lta {g : cG} {F : Nat → Prop} {o : Nat} {ad : Nat → Nat} {M : TT} {H : Heap} (h : PM g F o ad M H) {k : Nat} (hk : mA k = true) : ad k < H.size := (h.2.2 k hk).lt
theorem dec_not_nan {x : UInt64} (h : vf_n64 x) : FP.Core.decode FP.Core.b64 x.toNat ≠ .nan := by
  unfold vf_n64 at h
  rw [UInt64.le_iff_toNat_le, UInt64.toNat_and] at h
  have e2 : (0x7fffffffffffffff : UInt64).toNat = 2 ^ 63 - 1 := rfl
  have e3 : (0x7ff0000000000000 : UInt64).toNat = 0x7ff0000000000000 := rfl
  rw [e2, e3, Nat.and_two_pow_sub_one_eq_mod] at h
  have t2 : FP.Core.b64.exps = 2048 := by decide +kernel
  have t1 : FP.Core.b64.tails = 2 ^ 52 := by decide +kernel
  unfold FP.Core.decode FP.Core.fieldE FP.Core.fieldT
  rw [t1, t2]
  split
  · rename_i h1
    rw [if_pos (by omega)]
    exact fun z => by cases z
  · split
    · exact fun z => by cases z
    · exact fun z => by cases z
theorem cmp_int (a : Int) : compare a a = .eq := by
  show compareOfLessAndEq a a = .eq
  unfold compareOfLessAndEq
  rw [if_neg (Int.lt_irrefl a), if_pos rfl]
theorem dcmp_eq0 {x : UInt64} (h : vf_n64 x) : FP.dcmp x x = some .eq := by
  have h1 := dec_not_nan h
  show FP.Core.order (FP.Core.decode FP.Core.b64 x.toNat) (FP.Core.decode FP.Core.b64 x.toNat) = some .eq
  generalize FP.Core.decode FP.Core.b64 x.toNat = d at h1
  cases d with
  | nan => exact absurd rfl h1
  | inf s => exact congrArg some (cmp_int _)
  | fin s c q => exact congrArg some (cmp_int _)
section LH
variable {p : Program} {l : Launch} {e : Env} {R : Room} {s : State} {m : MethodId} {args : Array Value} {below : List Frame} {meth : Method} {c : Code} {H : Heap} {locs : List Loc} {cells slots : Nat} {Q : State → Prop}
variable {cc : ByteArray} {pc nL : Nat} {ls : Array Slot} {rest : List Value} {own : String} {g : cG} {s0 om ao d9 : Nat} {ad : Nat → Nat} {post : Option Value → Heap → Prop}
variable {y : MethodName} {b : ByteArray} {n k fr lo mc1 ms1 idx : Nat} {ret : Option FieldType} {As : List Value} {M : TT}
variable {A : Nat → Nat → Nat} {nb nl nr ne : Nat} {pr : List Nat} {t : TT} {f : Nat → Int64} {f2 : Nat → UInt64}
theorem hF_M (hc : LCn s0 om ao d9 ad) : ∀ q, F0k s0 q → FMd om ad q := fun q hq => ⟨fun z => by
  have := hc.1
  have hq : q < s0 := hq
  omega, fun k hk z => by
  have := (hc.2.1 k hk).1
  have hq : q < s0 := hq
  omega⟩
theorem hF_B : ∀ q, F0k s0 q → FBk s0 om ad d9 q := fun q hq => Or.inl hq
theorem hF_W : ∀ q, F0k s0 q → fW (FBk s0 om ad d9) ao q := fun q hq => Or.inl (Or.inl hq)
theorem FM_of {q : Nat} (h : ¬ fW (FBk s0 om ad d9) ao q) : FMd om ad q := ⟨fun z => h (Or.inl (Or.inr (Or.inl (Or.inl z)))), fun k hk z => h (Or.inl (Or.inr (Or.inl (Or.inr ⟨k, hk, z⟩))))⟩
/-- a call of the model -/
theorem l_model (E : EN p s m c cc nL args own g (F0k s0)) (hc : LCn s0 om ao d9 ad) (hS : va_S (nF (F0k s0)) s.heap H locs) (hM : CT l y b n ret fr lo 0 0 g (FMd om ad) (.ref om :: As) (PM g (FMd om ad) om ad M) post) (ok : okV y b n ret k) (hlk : Cond.methodLink own idx y ∈ lw_g) (hy : y.cls = RX5) (hPM : PM g (FMd om ad) om ad M H)
    (hlen : As.length = k) {lv : List (Nat × Value)} (hls : lv_has ls nL lv) (hR : Nat.ble (fr + 1) R.frames = true ∧ Nat.ble (8 + (n + 11) + lo) R.locals = true) (hst : Nat.ble (rest.map fun v => v.category).sum 8 = true) (hf : cells ≤ R.cells ∧ slots ≤ R.slots) (hd : decode cc pc = .ok (.invokevirtual idx, 3)) {st0 : List Value} (hst0 : st0 = As.reverse ++ .ref om :: rest)
    (hPD : PD g (fW (FBk s0 om ad d9) ao) A nb nl nr ne pr t H) (hao : va_at g.1 vwCl (aL g ao f) H) (hd9 : va_at g.1 vwCl (aD g d9 f2) H)
    (kk : ∀ (v : Option Value) (H1 : Heap) (locs1 : List Loc), post v H1 → va_S (nF (F0k s0)) s.heap H1 locs1 → PD g (fW (FBk s0 om ad d9) ao) A nb nl nr ne pr t H1 → va_at g.1 vwCl (aL g ao f) H1 → va_at g.1 vwCl (aD g d9 f2) H1 → W p l e R s m args below meth c H1 locs1 cells slots Q (F0 m (pc + 3) ls (v.toList ++ rest))) : W p l e R s m args below meth c H locs cells slots Q (F0 m pc ls st0) := by
  have hG := E.2.2.2.2.2
  refine ct_VF (F1 := FMd om ad) (hF_M hc) E hS hM ok hlk hPM (by rw [hy]; exact PM.recv (hG.big (hF_M hc)) hPM) hlen hls hR hst hf hd hst0 (fun v H1 locs1 hv hS1 hz hfr => ?_)
  exact kk v H1 locs1 hv hS1 (hPD.keepF (fun q hq hn => hfr q hq (FM_of hn)) hz) (hao.kept (hfr ao hao.lt ⟨hc.2.2.2.2.1, fun k hk => (hc.2.1 k hk).2.1⟩)) (hd9.kept (hfr d9 hd9.lt ⟨hc.2.2.2.2.2.1, fun k hk => (hc.2.1 k hk).2.2⟩))
/-- a call of a wrapper -/
theorem l_wrap {hh : List (Nat × Nat × Nat × Nat)} (E : EN p s m c cc nL args own g (F0k s0)) (hS : va_S (nF (F0k s0)) s.heap H locs) (hM : CW l y b n ret hh fr lo mc1 ms1 g (FBk s0 om ad d9) As (fun H => PD g (fW (FBk s0 om ad d9) ao) A nb nl nr ne pr t H ∧ ∃ f, va_at g.1 vwCl (aL g ao f) H) post) (ok : okW y b n ret hh k) (hlk : Cond.methodLink own idx y ∈ lw_g)
    (hPD : PD g (fW (FBk s0 om ad d9) ao) A nb nl nr ne pr t H) (hao : va_at g.1 vwCl (aL g ao f) H) (hd9 : va_at g.1 vwCl (aD g d9 f2) H) (hPM : PM g (FMd om ad) om ad M H)
    (hlen : As.length = k) {lv : List (Nat × Value)} (hls : lv_has ls nL lv) (hR : Nat.ble (fr + 1) R.frames = true ∧ Nat.ble (8 + (n + 11) + lo) R.locals = true) (hst : Nat.ble (rest.map fun v => v.category).sum 8 = true) (hf : cells + mc1 ≤ R.cells ∧ slots + ms1 ≤ R.slots) (hd : decode cc pc = .ok (.invokestatic idx, 3)) {st0 : List Value} (hst0 : st0 = As.reverse ++ rest)
    (kk : ∀ (v : Option Value) (H1 : Heap) (locs1 : List Loc), post v H1 → va_S (nF (F0k s0)) s.heap H1 locs1 → PM g (FMd om ad) om ad M H1 → va_at g.1 vwCl (aD g d9 f2) H1 → W p l e R s m args below meth c H1 locs1 (cells + mc1) (slots + ms1) Q (F0 m (pc + 3) ls (v.toList ++ rest))) : W p l e R s m args below meth c H locs cells slots Q (F0 m pc ls st0) := by
  refine cw_SF (F1 := FBk s0 om ad d9) hF_B E hS hM ok hlk ⟨hPD, f, hao⟩ hlen hls hR hst hf hd hst0 (fun v H1 locs1 hv hS1 hz hfr => ?_)
  exact kk v H1 locs1 hv hS1 (hPM.keep (hfr om hPM.lto (Or.inr (Or.inl (Or.inl rfl)))) (fun k hk => hfr _ (hPM.lta hk) (Or.inr (Or.inl (Or.inr ⟨k, hk, rfl⟩))))) (hd9.kept (hfr d9 hd9.lt (Or.inr (Or.inr rfl))))
theorem l_wrapD {hh : List (Nat × Nat × Nat × Nat)} (E : EN p s m c cc nL args own g (F0k s0)) (hS : va_S (nF (F0k s0)) s.heap H locs) (hM : CW l y b n ret hh fr lo mc1 ms1 g (FBk s0 om ad ao) As (fun H => PD g (fW (FBk s0 om ad ao) d9) A nb nl nr ne pr t H ∧ ∃ f, va_at g.1 vwCl (aD g d9 f) H) post) (ok : okW y b n ret hh k) (hlk : Cond.methodLink own idx y ∈ lw_g)
    (hPD : PD g (fW (FBk s0 om ad d9) ao) A nb nl nr ne pr t H) (hao : va_at g.1 vwCl (aL g ao f) H) (hd9 : va_at g.1 vwCl (aD g d9 f2) H) (hPM : PM g (FMd om ad) om ad M H)
    (hlen : As.length = k) {lv : List (Nat × Value)} (hls : lv_has ls nL lv) (hR : Nat.ble (fr + 1) R.frames = true ∧ Nat.ble (8 + (n + 11) + lo) R.locals = true) (hst : Nat.ble (rest.map fun v => v.category).sum 8 = true) (hf : cells + mc1 ≤ R.cells ∧ slots + ms1 ≤ R.slots) (hd : decode cc pc = .ok (.invokestatic idx, 3)) {st0 : List Value} (hst0 : st0 = As.reverse ++ rest)
    (kk : ∀ (v : Option Value) (H1 : Heap) (locs1 : List Loc), post v H1 → va_S (nF (F0k s0)) s.heap H1 locs1 → PM g (FMd om ad) om ad M H1 → va_at g.1 vwCl (aL g ao f) H1 → W p l e R s m args below meth c H1 locs1 (cells + mc1) (slots + ms1) Q (F0 m (pc + 3) ls (v.toList ++ rest))) : W p l e R s m args below meth c H locs cells slots Q (F0 m pc ls st0) := by
  refine cw_SF (F1 := FBk s0 om ad ao) hF_B E hS hM ok hlk ⟨by rw [← FBk_sw]; exact hPD, f2, hd9⟩ hlen hls hR hst hf hd hst0 (fun v H1 locs1 hv hS1 hz hfr => ?_)
  exact kk v H1 locs1 hv hS1 (hPM.keep (hfr om hPM.lto (Or.inr (Or.inl (Or.inl rfl)))) (fun k hk => hfr _ (hPM.lta hk) (Or.inr (Or.inl (Or.inr ⟨k, hk, rfl⟩))))) (hao.kept (hfr ao hao.lt (Or.inr (Or.inr rfl))))
/-- a call of the desk itself -/
theorem l_desk (E : EN p s m c cc nL args own g (F0k s0)) (hS : va_S (nF (F0k s0)) s.heap H locs) (hM : CT l y b n ret fr lo 0 0 g (fW (FBk s0 om ad d9) ao) [.ref (A 0 0)] (PD g (fW (FBk s0 om ad d9) ao) A nb nl nr ne pr t) post) (ok : okV y b n ret 0) (hlk : Cond.methodLink own idx y ∈ lw_g) (hy : y.cls = RX4)
    (hPD : PD g (fW (FBk s0 om ad d9) ao) A nb nl nr ne pr t H) (hao : va_at g.1 vwCl (aL g ao f) H) (hd9 : va_at g.1 vwCl (aD g d9 f2) H) (hPM : PM g (FMd om ad) om ad M H)
    {lv : List (Nat × Value)} (hls : lv_has ls nL lv) (hR : Nat.ble (fr + 1) R.frames = true ∧ Nat.ble (8 + (n + 11) + lo) R.locals = true) (hst : Nat.ble (rest.map fun v => v.category).sum 8 = true) (hf : cells ≤ R.cells ∧ slots ≤ R.slots) (hd : decode cc pc = .ok (.invokevirtual idx, 3))
    (kk : ∀ (v : Option Value) (H1 : Heap) (locs1 : List Loc), post v H1 → va_S (nF (F0k s0)) s.heap H1 locs1 → PM g (FMd om ad) om ad M H1 → va_at g.1 vwCl (aL g ao f) H1 → va_at g.1 vwCl (aD g d9 f2) H1 → W p l e R s m args below meth c H1 locs1 cells slots Q (F0 m (pc + 3) ls (v.toList ++ rest))) : W p l e R s m args below meth c H locs cells slots Q (F0 m pc ls (.ref (A 0 0) :: rest)) := by
  refine ct_VF (F1 := fW (FBk s0 om ad d9) ao) hF_W E hS hM ok hlk hPD (by rw [hy]; exact hPD.recv E.2.2.2.2.2) rfl hls hR hst hf hd rfl (fun v H1 locs1 hv hS1 hz hfr => ?_)
  exact kk v H1 locs1 hv hS1 (hPM.keep (hfr om hPM.lto (Or.inl (Or.inr (Or.inl (Or.inl rfl))))) (fun k hk => hfr _ (hPM.lta hk) (Or.inl (Or.inr (Or.inl (Or.inr ⟨k, hk, rfl⟩)))))) (hao.kept (hfr ao hao.lt (Or.inr rfl))) (hd9.kept (hfr d9 hd9.lt (Or.inl (Or.inr (Or.inr rfl)))))
/-- one of the script's numbers -/
theorem l_arg (hx : p.tables.exec = Jvm.exec) (hb : c.code = cc) {bs L : Nat} {xs : Nat → Int32} (hX : va_X bs L xs s s.heap) (hbl : bs < s.heap.size) (hS : va_S (nF (F0k s.heap.size)) s.heap H locs) {lv : List (Nat × Value)} (hl : lv_has ls nL lv) (k0 k5 : Nat) {j : Nat} (h0 : lv[k0]? = some (0, .ref bs)) (h5 : lv[k5]? = some (5, .int (nI j))) {i : Nat} {ci : Int} (hci : Int32.ofInt ci = nI i) (hji : j + i < L) (hL : L ≤ 2048)
    (d0 : decode cc pc = .ok (.aload_n 0, 1)) (d1 : decode cc (pc + 1) = .ok (.iload 5, 2)) (d3 : decode cc (pc + 3) = .ok (.iconst ci, 1)) (d4 : decode cc (pc + 4) = .ok (.iadd, 1)) (d5 : decode cc (pc + 5) = .ok (.iaload, 1))
    (kk : W p l e R s m args below meth c H locs cells slots Q (F0 m (pc + 6) ls (.int (xs (j + i)) :: rest))) : W p l e R s m args below meth c H locs cells slots Q (F0 m pc ls rest) := by
  refine lv_aload_n hx hb d0 rfl (lv_at hl k0 h0) ?_
  refine lv_iload hx hb d1 (lv_at hl k5 h5) ?_
  refine lv_iconst hx hb d3 hci ?_
  refine lv_iadd hx hb d4 ?_
  rw [nI_add]
  refine va_sld hx hb hX hbl (fun z => z hbl) hS (vp_in_nI hji (by omega)) d5 ?_
  rw [nI_clamp (by omega)]
  exact kk
end LH
/-- at the instruction pc of the law's loop, j calls done -/
def LAt (p : Program) (l : Launch) (e : Env) (s : State) (m : MethodId) (args : Array Value) (below : List Frame) (meth : Method) (c : Code) (Q : State → Prop) (g : cG) (bs x om ao d9 : Nat) (ad : Nat → Nat) (pc j : Nat) : Prop :=
  ∀ (A : Nat → Nat → Nat) (nb nl nr ne : Nat) (pr : List Nat) (t M : TT) (f : Nat → Int64) (f2 : Nat → UInt64) (H : Heap) (locs : List Loc) (ls : Array Slot), A 0 0 = x → PD g (fW (FBk s.heap.size om ad d9) ao) A nb nl nr ne pr t H → PM g (FMd om ad) om ad M H → va_at g.1 vwCl (aL g ao f) H → va_at g.1 vwCl (aD g d9 f2) H → RR nb nl nr ne pr t M →
    va_S (nF (F0k s.heap.size)) s.heap H locs → lv_has ls 9 [(5, .int (nI (4 * j))), (0, .ref bs), (1, .ref x), (2, .ref om), (3, .ref ao), (4, .ref d9)] → W p l e room_1 s m args below meth c H locs (30 + 1000 * j) (400 + 14100 * j) Q (F0 m pc ls [])
