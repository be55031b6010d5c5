/-! the tables: a state is a table of numbers; row k is the field k (its place 0), or the array of the field k -/
abbrev TT : Type := Nat → Nat → Int32
def tu (M : TT) (k i : Nat) (v : Int32) : TT := fun k9 i9 => if k9 = k ∧ i9 = i then v else M k9 i9
theorem tu_s {M : TT} {k i : Nat} {v : Int32} : tu M k i v k i = v := by simp [tu]
theorem tu_k {M : TT} {k i k9 i9 : Nat} {v : Int32} (h : k9 ≠ k) : tu M k i v k9 i9 = M k9 i9 := by simp [tu, h]
theorem tu_i {M : TT} {k i k9 i9 : Nat} {v : Int32} (h : i9 ≠ i) : tu M k i v k9 i9 = M k9 i9 := by simp [tu, h]
theorem tu_r {M : TT} {k i k9 : Nat} {v : Int32} (h : k9 ≠ k) : tu M k i v k9 = M k9 := by funext j; simp [tu, h]
theorem tu_u {M : TT} {k i : Nat} {v : Int32} : tu M k i v k = upd (M k) i v := by funext j; simp [tu, upd]
def b2i (c : Prop) [Decidable c] : Int32 := if c then 1 else 0
theorem b2i_0 {c : Prop} [Decidable c] : b2i c = 0 ↔ ¬ c := by unfold b2i; by_cases h : c <;> simp [h]
theorem b2i_t {c : Prop} [Decidable c] (h : c) : b2i c = 1 := if_pos h
theorem b2i_f {c : Prop} [Decidable c] (h : ¬ c) : b2i c = 0 := if_neg h
theorem b2i_n {c : Prop} [Decidable c] : narrow .boolean (.int (b2i c)) = .int (b2i c) := by unfold b2i; by_cases h : c <;> simp [h] <;> rfl
def mA : Nat → Bool := fun k => match k with
  | 0 => false
  | 1 => true
  | 2 => true
  | 3 => true
  | 4 => true
  | 5 => true
  | 6 => false
  | 7 => true
  | 8 => true
  | 9 => true
  | 10 => true
  | 11 => true
  | 12 => true
  | 13 => true
  | 14 => false
  | 15 => false
  | 16 => false
  | 17 => true
  | 18 => true
  | 19 => true
  | 20 => true
  | 21 => true
  | 22 => false
  | 23 => false
  | 24 => false
  | 25 => false
  | 26 => false
  | 27 => false
  | _ => false
def mL : Nat → Nat := fun k => match k with
  | 0 => 0
  | 1 => 10
  | 2 => 10
  | 3 => 10
  | 4 => 8
  | 5 => 8
  | 6 => 0
  | 7 => 30
  | 8 => 30
  | 9 => 30
  | 10 => 30
  | 11 => 30
  | 12 => 30
  | 13 => 30
  | 14 => 0
  | 15 => 0
  | 16 => 0
  | 17 => 3
  | 18 => 3
  | 19 => 3
  | 20 => 3
  | 21 => 3
  | 22 => 0
  | 23 => 0
  | 24 => 0
  | 25 => 0
  | 26 => 0
  | 27 => 0
  | _ => 0
def mY : Nat → Nat := fun k => match k with
  | 0 => 0
  | 1 => 0
  | 2 => 0
  | 3 => 0
  | 4 => 0
  | 5 => 2
  | 6 => 0
  | 7 => 0
  | 8 => 0
  | 9 => 0
  | 10 => 0
  | 11 => 0
  | 12 => 0
  | 13 => 1
  | 14 => 0
  | 15 => 0
  | 16 => 0
  | 17 => 0
  | 18 => 0
  | 19 => 0
  | 20 => 1
  | 21 => 2
  | 22 => 0
  | 23 => 0
  | 24 => 0
  | 25 => 0
  | 26 => 0
  | 27 => 0
  | _ => 0
def mX : Nat → Nat := fun k => match k with
  | 0 => 1
  | 1 => 17
  | 2 => 21
  | 3 => 24
  | 4 => 27
  | 5 => 30
  | 6 => 71
  | 7 => 34
  | 8 => 37
  | 9 => 40
  | 10 => 43
  | 11 => 46
  | 12 => 49
  | 13 => 52
  | 14 => 74
  | 15 => 110
  | 16 => 113
  | 17 => 56
  | 18 => 59
  | 19 => 62
  | 20 => 65
  | 21 => 68
  | 22 => 77
  | 23 => 91
  | 24 => 166
  | 25 => 155
  | 26 => 172
  | 27 => 119
  | _ => 0
theorem mT1 : ∀ k, k < 28 → (TX5 k).1 = RX5 := by decide +kernel
theorem mLk : ∀ k, k < 28 → Cond.fieldLink RX5 (mX k) RX5 (TX5 k).2.1 (TX5 k).2.2.1 ∈ lw_g := by
  intro k hk
  match k, hk with
  | 0, _ => exact fk_X5_1
  | 1, _ => exact fk_X5_17
  | 2, _ => exact fk_X5_21
  | 3, _ => exact fk_X5_24
  | 4, _ => exact fk_X5_27
  | 5, _ => exact fk_X5_30
  | 6, _ => exact fk_X5_71
  | 7, _ => exact fk_X5_34
  | 8, _ => exact fk_X5_37
  | 9, _ => exact fk_X5_40
  | 10, _ => exact fk_X5_43
  | 11, _ => exact fk_X5_46
  | 12, _ => exact fk_X5_49
  | 13, _ => exact fk_X5_52
  | 14, _ => exact fk_X5_74
  | 15, _ => exact fk_X5_110
  | 16, _ => exact fk_X5_113
  | 17, _ => exact fk_X5_56
  | 18, _ => exact fk_X5_59
  | 19, _ => exact fk_X5_62
  | 20, _ => exact fk_X5_65
  | 21, _ => exact fk_X5_68
  | 22, _ => exact fk_X5_77
  | 23, _ => exact fk_X5_91
  | 24, _ => exact fk_X5_166
  | 25, _ => exact fk_X5_155
  | 26, _ => exact fk_X5_172
  | 27, _ => exact fk_X5_119
  | j + 28, h => exact absurd h (by omega)
/-- the fields of the model's object: numbers, and its arrays at 'ad' -/
def mfl (ad : Nat → Nat) (M : TT) : List Value := (List.range 28).map (fun k => if mA k = true then Value.ref (ad k) else .int (M k 0))
theorem mfl_get {ad : Nat → Nat} {M : TT} {k : Nat} (hk : k < 28) : (mfl ad M)[k]? = some (if mA k = true then Value.ref (ad k) else .int (M k 0)) := by
  unfold mfl
  rw [List.getElem?_map, List.getElem?_range hk]
  rfl
theorem mfl_len {ad : Nat → Nat} {M : TT} : (mfl ad M).length = 28 := by simp [mfl]
theorem mfl_put {ad : Nat → Nat} {M : TT} {k : Nat} {v : Int32} (hk : k < 28) (ha : mA k = false) : (mfl ad M).set k (.int v) = mfl ad (tu M k 0 v) := by
  apply List.ext_getElem?
  intro j
  by_cases hj : j < 28
  · rw [mfl_get hj]
    by_cases h : j = k
    · subst h
      rw [List.getElem?_set_self (by rw [mfl_len]; exact hk), ha]
      simp [tu]
    · rw [List.getElem?_set_ne (Ne.symm h), mfl_get hj, tu_k h]
  · rw [List.getElem?_eq_none (by rw [List.length_set, mfl_len]; omega), List.getElem?_eq_none (by rw [mfl_len]; omega)]
theorem mfl_arr {ad : Nat → Nat} {M : TT} {k i : Nat} {v : Int32} (ha : mA k = true) : mfl ad (tu M k i v) = mfl ad M := by
  unfold mfl
  apply List.map_congr_left
  intro j _
  by_cases h : j = k
  · subst h; rw [ha]; rfl
  · rw [tu_k h]
/-- the model's cells: its object at o, its arrays at 'ad', holding the table M; none of them is foreign -/
def PM (g : cG) (F : Nat → Prop) (o : Nat) (ad : Nat → Nat) (M : TT) (H : Heap) : Prop :=
  (¬ F o ∧ ∀ k, mA k = true → ¬ F (ad k) ∧ ad k ≠ o ∧ ∀ j, mA j = true → ad j = ad k → j = k) ∧ va_at g.1 vwCl (o, .inr (8, mfl ad M)) H ∧ ∀ k, mA k = true → va_at g.1 vwCl (ad k, .inl (g.2.1 (mY k), mL k, .inl (M k))) H
theorem PM.recv {g : cG} {F : Nat → Prop} {o : Nat} {ad : Nat → Nat} {M : TT} {H : Heap} {s : State} (hG : GE g F s) (h : PM g F o ad M H) : ∃ cellB : Cell, H[o]? = some cellB ∧ cellB.vm.isStatics = false ∧ s.vm.findClass RX5 = some cellB.cls :=
  va_recv (q := (RX5, TX5, 28)) (q0 := 0) (ci := 8) hG.1 (va_P1 h.2.1) rfl rfl
section MR
variable {p : Program} {l : Launch} {e : Env} {R : Room} {s : State} {m : MethodId} {args : Array Value} {below : List Frame} {meth : Method} {c : Code} {H : Heap} {locs : List Loc} {cells slots : Nat} {Q : State → Prop}
variable {cc : ByteArray} {pc nL : Nat} {ls : Array Slot} {rest : List Value} {g : cG} {F : Nat → Prop} {H0 : Heap} {o : Nat} {ad : Nat → Nat} {M : TT}
theorem mg (E : EN p s m c cc nL args RX5 g F) (hP : PM g F o ad M H) (k : Nat) {x : Nat} {v : Int32} (hd : decode cc pc = .ok (.getfield x, 3)) (hv : M k 0 = v) (hx : mX k = x := by rfl) (hk : Nat.ble (k + 1) 28 = true := by rfl) (ha : mA k = false := by rfl)
    (kk : W p l e R s m args below meth c H locs cells slots Q (F0 m (pc + 3) ls (.int v :: rest))) : W p l e R s m args below meth c H locs cells slots Q (F0 m pc ls (.ref o :: rest)) := by
  have hk := Nat.le_of_ble_eq_true hk
  subst hx hv
  exact w_get E (C := RX5) (T := TX5) (N := 28) (ci := 8) ly_X5 hP.2.1 rfl k hk (mT1 k hk) (mLk k hk) (by rw [mfl_get hk, ha]; rfl) hd kk
theorem mga (E : EN p s m c cc nL args RX5 g F) (hP : PM g F o ad M H) (k : Nat) {x : Nat} (hd : decode cc pc = .ok (.getfield x, 3)) (hx : mX k = x := by rfl) (hk : Nat.ble (k + 1) 28 = true := by rfl) (ha : mA k = true := by rfl)
    (kk : W p l e R s m args below meth c H locs cells slots Q (F0 m (pc + 3) ls (.ref (ad k) :: rest))) : W p l e R s m args below meth c H locs cells slots Q (F0 m pc ls (.ref o :: rest)) := by
  have hk := Nat.le_of_ble_eq_true hk
  subst hx
  exact w_get E (C := RX5) (T := TX5) (N := 28) (ci := 8) ly_X5 hP.2.1 rfl k hk (mT1 k hk) (mLk k hk) (by rw [mfl_get hk, ha]; rfl) hd kk
theorem mp (E : EN p s m c cc nL args RX5 g F) (hS : va_S (nF F) H0 H locs) (hP : PM g F o ad M H) (k : Nat) {x : Nat} {v : Int32} (hd : decode cc pc = .ok (.putfield x, 3)) (hn : narrow (tyX5 k) (.int v) = .int v) (hx : mX k = x := by rfl) (hk : Nat.ble (k + 1) 28 = true := by rfl) (ha : mA k = false := by rfl) (hfin : (TX5 k).2.2.2 = false := by rfl) (hfit : fits (tyX5 k) (.int v) = true := by rfl)
    (kk : ∀ (H1 : Heap) (locs1 : List Loc), va_S (nF F) H0 H1 locs1 → PM g F o ad (tu M k 0 v) H1 → W p l e R s m args below meth c H1 locs1 cells slots Q (F0 m (pc + 3) ls rest)) : W p l e R s m args below meth c H locs cells slots Q (F0 m pc ls (.int v :: .ref o :: rest)) := by
  have hk := Nat.le_of_ble_eq_true hk
  subst hx
  refine w_put E (C := RX5) (T := TX5) (N := 28) (ci := 8) ly_X5 tyX5 tyX5_ok nmX5 hS hP.2.1 hP.1.1 rfl k hk (mT1 k hk) (mLk k hk) hfin hn hfit (by rw [mfl_len]; exact hk) hd fun H1 locs1 e1 z oq hS1 => ?_
  refine kk H1 locs1 hS1 ⟨hP.1, ?_, fun j hj => ?_⟩
  · rw [← mfl_put hk ha]; exact e1
  · have hjk : j ≠ k := fun h => by rw [h, ha] at hj; cases hj
    rw [tu_r hjk]
    exact (hP.2.2 j hj).kept (oq _ (hP.1.2 j hj).2.1)
theorem PM.ast (hP : PM g F o ad M H) {k i : Nat} {v : Int32} (ha : mA k = true) {H1 : Heap} (e1 : va_at g.1 vwCl (ad k, .inl (g.2.1 (mY k), mL k, .inl (upd (M k) i v))) H1) (oq : ∀ q, q ≠ ad k → H1[q]? = H[q]?) : PM g F o ad (tu M k i v) H1 := by
  refine ⟨hP.1, ?_, fun j hj => ?_⟩
  · rw [mfl_arr ha]
    exact hP.2.1.kept (oq _ (fun h => (hP.1.2 k ha).2.1 h.symm))
  · by_cases h : j = k
    · subst h; rw [tu_u]; exact e1
    · rw [tu_r h]
      exact (hP.2.2 j hj).kept (oq _ (fun h2 => h ((hP.1.2 k ha).2.2 j hj h2)))
theorem vp_in9 {i : Int32} {j n : Nat} (hi : i = nI j) (hj : j < n) (hn : Nat.ble n 100 = true) : vp_in i n ∧ i.toNatClampNeg = j := by
  have hn := Nat.le_of_ble_eq_true hn
  subst hi
  exact ⟨vp_in_nI hj (by omega), nI_clamp (by omega)⟩
theorem mli (E : EN p s m c cc nL args RX5 g F) (hP : PM g F o ad M H) (k j : Nat) {i v : Int32} (hd : decode cc pc = .ok (.iaload, 1)) (hi : i = nI j) (hj : j < mL k) (hv : M k j = v) (ha : mA k = true := by rfl) (hy : mY k = 0 := by rfl) (hl : Nat.ble (mL k) 100 = true := by rfl)
    (kk : W p l e R s m args below meth c H locs cells slots Q (F0 m (pc + 1) ls (.int v :: rest))) : W p l e R s m args below meth c H locs cells slots Q (F0 m pc ls (.int i :: .ref (ad k) :: rest)) := by
  obtain ⟨h1, h2⟩ := vp_in9 hi hj hl
  have h3 := hP.2.2 k ha
  rw [hy] at h3
  exact w_iald E h3 h1 hd (by rw [h2, hv]; exact kk)
theorem mlc (E : EN p s m c cc nL args RX5 g F) (hP : PM g F o ad M H) (k j : Nat) {i v : Int32} (hd : decode cc pc = .ok (.caload, 1)) (hi : i = nI j) (hj : j < mL k) (hv : M k j = v) (ha : mA k = true := by rfl) (hy : mY k = 1 := by rfl) (hl : Nat.ble (mL k) 100 = true := by rfl)
    (kk : W p l e R s m args below meth c H locs cells slots Q (F0 m (pc + 1) ls (.int v :: rest))) : W p l e R s m args below meth c H locs cells slots Q (F0 m pc ls (.int i :: .ref (ad k) :: rest)) := by
  obtain ⟨h1, h2⟩ := vp_in9 hi hj hl
  have h3 := hP.2.2 k ha
  rw [hy] at h3
  exact w_cald E h3 h1 hd (by rw [h2, hv]; exact kk)
theorem mlz (E : EN p s m c cc nL args RX5 g F) (hP : PM g F o ad M H) (k j : Nat) {i v : Int32} (hd : decode cc pc = .ok (.baload, 1)) (hi : i = nI j) (hj : j < mL k) (hv : M k j = v) (ha : mA k = true := by rfl) (hy : mY k = 2 := by rfl) (hl : Nat.ble (mL k) 100 = true := by rfl)
    (kk : W p l e R s m args below meth c H locs cells slots Q (F0 m (pc + 1) ls (.int v :: rest))) : W p l e R s m args below meth c H locs cells slots Q (F0 m pc ls (.int i :: .ref (ad k) :: rest)) := by
  obtain ⟨h1, h2⟩ := vp_in9 hi hj hl
  have h3 := hP.2.2 k ha
  rw [hy] at h3
  exact w_zald E h3 h1 hd (by rw [h2, hv]; exact kk)
theorem msi (E : EN p s m c cc nL args RX5 g F) (hS : va_S (nF F) H0 H locs) (hP : PM g F o ad M H) (k j : Nat) {i v : Int32} (hd : decode cc pc = .ok (.iastore, 1)) (hi : i = nI j) (hj : j < mL k) (ha : mA k = true := by rfl) (hy : mY k = 0 := by rfl) (hl : Nat.ble (mL k) 100 = true := by rfl)
    (kk : ∀ (H1 : Heap) (locs1 : List Loc), va_S (nF F) H0 H1 locs1 → PM g F o ad (tu M k j v) H1 → W p l e R s m args below meth c H1 locs1 cells slots Q (F0 m (pc + 1) ls rest)) : W p l e R s m args below meth c H locs cells slots Q (F0 m pc ls (.int v :: .int i :: .ref (ad k) :: rest)) := by
  obtain ⟨h1, h2⟩ := vp_in9 hi hj hl
  have h3 := hP.2.2 k ha
  rw [hy] at h3
  exact w_iast E hS h3 (hP.1.2 k ha).1 h1 hd fun H1 locs1 e1 z oq hS1 => kk H1 locs1 hS1 (hP.ast ha (by rw [hy]; rw [h2] at e1; exact e1) oq)
theorem msc (E : EN p s m c cc nL args RX5 g F) (hS : va_S (nF F) H0 H locs) (hP : PM g F o ad M H) (k j : Nat) {i v : Int32} (hd : decode cc pc = .ok (.castore, 1)) (hi : i = nI j) (hj : j < mL k) (hn : narrow .char (.int v) = .int v) (ha : mA k = true := by rfl) (hy : mY k = 1 := by rfl) (hl : Nat.ble (mL k) 100 = true := by rfl)
    (kk : ∀ (H1 : Heap) (locs1 : List Loc), va_S (nF F) H0 H1 locs1 → PM g F o ad (tu M k j v) H1 → W p l e R s m args below meth c H1 locs1 cells slots Q (F0 m (pc + 1) ls rest)) : W p l e R s m args below meth c H locs cells slots Q (F0 m pc ls (.int v :: .int i :: .ref (ad k) :: rest)) := by
  obtain ⟨h1, h2⟩ := vp_in9 hi hj hl
  have h3 := hP.2.2 k ha
  rw [hy] at h3
  exact w_cast E hS h3 (hP.1.2 k ha).1 hn h1 hd fun H1 locs1 e1 z oq hS1 => kk H1 locs1 hS1 (hP.ast ha (by rw [hy]; rw [h2] at e1; exact e1) oq)
theorem msz (E : EN p s m c cc nL args RX5 g F) (hS : va_S (nF F) H0 H locs) (hP : PM g F o ad M H) (k j : Nat) {i v : Int32} (hd : decode cc pc = .ok (.bastore, 1)) (hi : i = nI j) (hj : j < mL k) (hn : narrow .boolean (.int v) = .int v) (ha : mA k = true := by rfl) (hy : mY k = 2 := by rfl) (hl : Nat.ble (mL k) 100 = true := by rfl)
    (kk : ∀ (H1 : Heap) (locs1 : List Loc), va_S (nF F) H0 H1 locs1 → PM g F o ad (tu M k j v) H1 → W p l e R s m args below meth c H1 locs1 cells slots Q (F0 m (pc + 1) ls rest)) : W p l e R s m args below meth c H locs cells slots Q (F0 m pc ls (.int v :: .int i :: .ref (ad k) :: rest)) := by
  obtain ⟨h1, h2⟩ := vp_in9 hi hj hl
  have h3 := hP.2.2 k ha
  rw [hy] at h3
  exact w_zast E hS h3 (hP.1.2 k ha).1 hn h1 hd fun H1 locs1 e1 z oq hS1 => kk H1 locs1 hS1 (hP.ast ha (by rw [hy]; rw [h2] at e1; exact e1) oq)
end MR
section BR
variable {p : Program} {l : Launch} {e : Env} {R : Room} {s : State} {m : MethodId} {args : Array Value} {below : List Frame} {meth : Method} {c : Code} {H : Heap} {locs : List Loc} {cells slots : Nat} {Q : State → Prop}
variable {cc : ByteArray} {pc : Nat} {ls : Array Slot} {rest : List Value} {P : Prop}
theorem bz_eq [Decidable P] (hexec : p.tables.exec = Jvm.exec) (hb : c.code = cc) {off : Int} {tgt : Nat} (hdg : decode cc pc = .ok (.ifCond .eq off, 3)) (ht : (pc : Int) + off = (tgt : Int))
    (kt : ¬ P → W p l e R s m args below meth c H locs cells slots Q (F0 m tgt ls rest)) (kf : P → W p l e R s m args below meth c H locs cells slots Q (F0 m (pc + 3) ls rest)) : W p l e R s m args below meth c H locs cells slots Q (F0 m pc ls (.int (b2i P) :: rest)) :=
  lv_if_eq hexec hb hdg ht (fun h => kt (b2i_0.mp h)) (fun h => kf (Decidable.not_not.mp (fun z => h (b2i_0.mpr z))))
theorem bz_ne [Decidable P] (hexec : p.tables.exec = Jvm.exec) (hb : c.code = cc) {off : Int} {tgt : Nat} (hdg : decode cc pc = .ok (.ifCond .ne off, 3)) (ht : (pc : Int) + off = (tgt : Int))
    (kt : P → W p l e R s m args below meth c H locs cells slots Q (F0 m tgt ls rest)) (kf : ¬ P → W p l e R s m args below meth c H locs cells slots Q (F0 m (pc + 3) ls rest)) : W p l e R s m args below meth c H locs cells slots Q (F0 m pc ls (.int (b2i P) :: rest)) :=
  lv_if_ne hexec hb hdg ht (fun h => kt (Decidable.not_not.mp (fun z => h (b2i_0.mpr z)))) (fun h => kf (b2i_0.mp h))
end BR
