/-! what the desk's methods do, as functions of its table, its present list and the number of its entries -/
def dWhy (t : TT) (b : Nat) (f : Int32) : Int32 :=
  if f ≤ 0 then 110 else if f < 10 then (if t 5 b = 0 then (if t 1 f.toNatClampNeg = -1 then
    (if t 2 f.toNatClampNeg ≤ mTod t then (if mTod t < t 3 f.toNatClampNeg then 110 else 104) else 104)
    else (if t 1 f.toNatClampNeg = t 4 b then 110 else 116)) else 114) else 110
def dHas (t : TT) (pr : List Nat) (b n : Nat) : Bool := exB (fun i => decide (t 7 (pg pr i) = nI b)) n
def dAb (t : TT) (pr : List Nat) (q : Nat) : Nat → Int32
  | 0 => 0
  | i + 1 => dAb t pr q i + (if t 13 (pg pr i) = 97 ∧ t 10 (pg pr i) = nI q then 1 else 0)
abbrev dRoom (t : TT) (pr : List Nat) (q : Nat) : Prop := t 20 q = 115 ∧ dAb t pr q pr.length < t 17 q
def dTf (t : TT) (r : Nat) : Nat → Nat → Int32 → Int32
  | 0, _, c => t 23 0 - c
  | n + 1, i, c => if t 50 i = nI r then (if t 51 i = 119 then dTf t r n (i + 1) (t 52 i) else t 52 i - c) else dTf t r n (i + 1) c
def dSc (t : TT) (pr : List Nat) (q : Nat) (fl : Int32) : Nat → Int32
  | 0 => iabs (t 18 q - fl)
  | i + 1 => dSc t pr q fl i + (if t 10 (pg pr i) = nI q then 2 else 0)
abbrev dScore (t : TT) (pr : List Nat) (q : Nat) (fl : Int32) : Int32 := dSc t pr q fl pr.length
def dBst (t : TT) (pr : List Nat) (fl : Int32) : Nat → Option Nat
  | 0 => none
  | q + 1 => if t 20 q = 115 then (match dBst t pr fl q with
      | none => some q
      | some b => if dScore t pr b fl ≤ dScore t pr q fl then some b else some q) else dBst t pr fl q
def dGive (t : TT) (pr : List Nat) (nl r : Nat) : TT := tu t 10 r (oI (dBst t pr (t 8 r) nl))
def dGs (pr : List Nat) (nl : Nat) (t : TT) (r : Nat) : TT := if t 13 r = 119 then (if t 10 r < 0 then dGive t pr nl r else t) else t
def dGall (t : TT) (pr : List Nat) (nl : Nat) : Nat → TT
  | 0 => t
  | i + 1 => dGs pr nl (dGall t pr nl i) (pg pr i)
def dLs (q : Nat) (t : TT) (n : Int32) (r : Nat) : TT × Int32 := if t 13 r = 119 ∧ t 10 r = nI q then (tu t 10 r (-1), n + 1) else (t, n)
def dLose (t : TT) (pr : List Nat) (q : Nat) : Nat → TT × Int32
  | 0 => (t, 0)
  | i + 1 => dLs q (dLose t pr q i).1 (dLose t pr q i).2 (pg pr i)
def dLall (t : TT) (pr : List Nat) : Nat → TT
  | 0 => t
  | q + 1 => (dLose (dLall t pr q) pr q pr.length).1
def dTs (pr : List Nat) (nl : Nat) (f : Int32) (t : TT) (r : Nat) : TT := if t 13 r = 119 then (if t 8 r = f then dGive t pr nl r else t) else t
def dTall (t : TT) (pr : List Nat) (nl : Nat) (f : Int32) : Nat → TT
  | 0 => t
  | i + 1 => dTs pr nl f (dTall t pr nl f i) (pg pr i)
def dWt (t : TT) (pr : List Nat) (f : Int32) : Bool := exB (fun i => decide (t 13 (pg pr i) = 119) && decide (t 8 (pg pr i) = f)) pr.length
def dTn (t : TT) (pr : List Nat) : Nat → Nat → Int32
  | 0, _ => -1
  | n + 1, k => if dWt t pr (t 60 0 + nI k) = true then t 60 0 + nI k else if dWt t pr (t 60 0 - nI k) = true then t 60 0 - nI k else dTn t pr n (k + 1)
def dTurn (t : TT) (pr : List Nat) : Int32 := if t 60 0 = -1 then -1 else dTn t pr 10 0
def dInT (t : TT) (pr : List Nat) (nl : Nat) : TT := dTall (dLall t pr nl) pr nl (dTurn t pr) pr.length
def dCs (t : TT) (r : Nat) : TT := if t 13 r = 119 then tu t 40 r (t 40 r + 1) else t
def dCw (t : TT) (pr : List Nat) : Nat → TT
  | 0 => t
  | i + 1 => dCs (dCw t pr i) (pg pr i)
def dNote (t : TT) (ne r : Nat) : TT := tu (tu (tu t 50 ne (nI r)) 51 ne (t 13 r)) 52 ne (t 23 0)
def dAbo (t : TT) (ne r : Nat) : TT := dNote (tu t 13 r 97) ne r
def dFin (t : TT) (ne r : Nat) (f : Int32) : TT := dNote (tu (tu (tu t 13 r 100) 8 r f) 10 r (-1)) ne r
/-- a state: the table, the present, how many entries -/
abbrev DS : Type := TT × List Nat × Nat
def dLoS (q k : Nat) (s : DS) : DS :=
  if s.1 13 (pg s.2.1 k) = 97 ∧ s.1 10 (pg s.2.1 k) = nI q then (if s.1 9 (pg s.2.1 k) = s.1 18 q then
    (if dWhy s.1 (s.1 7 (pg s.2.1 k)).toNatClampNeg (s.1 18 q) = 110 then (dFin s.1 s.2.2 (pg s.2.1 k) (s.1 18 q), s.2.1.eraseIdx k, s.2.2 + 1)
      else (tu (tu s.1 9 (pg s.2.1 k) 0) 25 0 (s.1 25 0 + 1), s.2)) else s) else s
def dLo (q : Nat) : Nat → DS → DS
  | 0, s => s
  | k + 1, s => dLo q k (dLoS q k s)
def dLiS (q r : Nat) (s : DS) (a : Int32) : DS × Int32 :=
  if s.1 13 r = 119 ∧ s.1 10 r = nI q then (if s.1 8 r = s.1 18 q then (if dRoom s.1 s.2.1 q then ((dAbo s.1 s.2.2 r, s.2.1, s.2.2 + 1), 1) else (s, a)) else (s, a)) else (s, a)
def dLi (q : Nat) (s : DS) : Nat → DS × Int32
  | 0 => (s, 0)
  | i + 1 => dLiS q (pg s.2.1 i) (dLi q s i).1 (dLi q s i).2
def dAim (t : TT) (pr : List Nat) (q : Nat) (st mo : Int32) : Bool :=
  exB (fun i => (decide (t 13 (pg pr i) = 97 ∧ t 10 (pg pr i) = nI q) && decide (0 < (t 9 (pg pr i) - t 18 q) * st)) || (!decide (mo = 0) && decide (t 13 (pg pr i) = 119 ∧ t 10 (pg pr i) = nI q) && decide (0 < (t 8 (pg pr i) - t 18 q) * st))) pr.length
def dStep (t : TT) (q : Nat) : Int32 := if t 21 q = 0 then -1 else 1
def dMove (t : TT) (pr : List Nat) (q : Nat) : TT :=
  if dAim t pr q (dStep t q) (b2i (dRoom t pr q)) = true then tu t 18 q (t 18 q + dStep t q)
  else if dAim t pr q (-(dStep t q)) (b2i (dRoom t pr q)) = true then tu (tu t 21 q (if t 21 q = 0 then 1 else 0)) 18 q (t 18 q - dStep t q)
  else if t 20 q = 111 then tu (tu t 20 q 99) 19 q 20 else t
def dClean (t : TT) (q : Nat) : TT := tu (tu t 19 q (t 19 q - 1)) 20 q (if 0 < t 19 q - 1 then t 20 q else 115)
def dRun (q : Nat) (s : DS) : DS :=
  if s.1 20 q = 99 then (dClean s.1 q, s.2) else
    if (dLo q s.2.1.length s).2.1.length < s.2.1.length ∨ ¬ (dLi q (dLo q s.2.1.length s) (dLo q s.2.1.length s).2.1.length).2 = 0 then
      (tu (dLi q (dLo q s.2.1.length s) (dLo q s.2.1.length s).2.1.length).1.1 24 0 ((dLi q (dLo q s.2.1.length s) (dLo q s.2.1.length s).2.1.length).1.1 24 0 + 1), (dLi q (dLo q s.2.1.length s) (dLo q s.2.1.length s).2.1.length).1.2)
    else (dMove (dLi q (dLo q s.2.1.length s) (dLo q s.2.1.length s).2.1.length).1.1 (dLi q (dLo q s.2.1.length s) (dLo q s.2.1.length s).2.1.length).1.2.1 q, (dLi q (dLo q s.2.1.length s) (dLo q s.2.1.length s).2.1.length).1.2)
def dRall (s : DS) : Nat → DS
  | 0 => s
  | q + 1 => dRun q (dRall s q)
def dP1 (t : TT) (pr : List Nat) (nl : Nat) : TT := if t 60 0 = -1 then dGall t pr nl pr.length else dInT t pr nl
def dPend (s : DS) : DS := ((if s.2.1.length = 0 then tu (tu (dCw s.1 s.2.1 s.2.1.length) 23 0 (dCw s.1 s.2.1 s.2.1.length 23 0 + 1)) 60 0 (-1) else tu (dCw s.1 s.2.1 s.2.1.length) 23 0 (dCw s.1 s.2.1 s.2.1.length 23 0 + 1)), s.2)
def dTick (nl : Nat) (s : DS) : DS := dPend (dRall (dP1 s.1 s.2.1 nl, s.2) nl)
def dTicks (nl : Nat) (s : DS) : Nat → DS
  | 0 => s
  | n + 1 => dTick nl (dTicks nl s n)
def dSeS (k : Nat) (s : DS) : DS :=
  if s.1 13 (pg s.2.1 k) = 119 then (if s.1 8 (pg s.2.1 k) = 0 then (dFin (tu (tu s.1 9 (pg s.2.1 k) 0) 10 (pg s.2.1 k) (-1)) s.2.2 (pg s.2.1 k) 0, s.2.1.eraseIdx k, s.2.2 + 1)
    else (tu (tu s.1 9 (pg s.2.1 k) 0) 10 (pg s.2.1 k) (-1), s.2)) else (tu s.1 9 (pg s.2.1 k) 0, s.2)
def dSe : Nat → DS → DS
  | 0, s => s
  | k + 1, s => dSe k (dSeS k s)
/-! how many entries may come -/
def dPh (f : Nat → Int32) : List Nat → Nat
  | [] => 0
  | r :: pr => (if f r = 119 then 2 else 1) + dPh f pr
theorem dPh_le {f h : Nat → Int32} (H : ∀ r, h r = 119 → f r = 119) : ∀ pr, dPh h pr ≤ dPh f pr
  | [] => Nat.le_refl _
  | r :: pr => by
    have h1 := dPh_le H pr
    unfold dPh
    by_cases c : h r = 119
    · rw [if_pos c, if_pos (H r c)]; omega
    · rw [if_neg c]; split <;> omega
theorem dPh_er {f : Nat → Int32} : ∀ (pr : List Nat) (i : Nat), i < pr.length → dPh f (pr.eraseIdx i) + (if f (pg pr i) = 119 then 2 else 1) = dPh f pr
  | [], i, h => absurd h (by simp)
  | r :: pr, 0, h => by
    rw [show pg (r :: pr) 0 = r from rfl]
    show dPh f pr + _ = _ + dPh f pr
    omega
  | r :: pr, i + 1, h => by
    have h1 := dPh_er (f := f) pr i (by simpa using h)
    rw [show pg (r :: pr) (i + 1) = pg pr i from rfl]
    show (if f r = 119 then 2 else 1) + dPh f (pr.eraseIdx i) + _ = _ + dPh f pr
    omega
theorem dPh_mem {f h : Nat → Int32} (H : ∀ r, h r = 119 → f r = 119) {r : Nat} (hr : f r = 119) (hr2 : ¬ h r = 119) : ∀ pr, r ∈ pr → dPh h pr + 1 ≤ dPh f pr
  | [], hm => absurd hm (by simp)
  | x :: pr, hm => by
    have h1 := dPh_le H pr
    by_cases c : x = r
    · subst c
      unfold dPh
      rw [if_pos hr, if_neg hr2]; omega
    · have h2 := dPh_mem H hr hr2 pr ((List.mem_cons.mp hm).resolve_left (fun z => c z.symm))
      unfold dPh
      by_cases c2 : h x = 119
      · rw [if_pos c2, if_pos (H x c2)]; omega
      · rw [if_neg c2]; split <;> omega
theorem dPh_up : ∀ (f : Nat → Int32) (pr : List Nat), dPh f pr ≤ 2 * pr.length
  | f, [] => Nat.le_refl _
  | f, r :: pr => by
    have h1 := dPh_up f pr
    unfold dPh
    rw [List.length_cons]
    split <;> omega
theorem tu13 {t : TT} {r j : Nat} {v : Int32} (hv : v ≠ 119) : tu t 13 r v 13 j = 119 → t 13 j = 119 := by
  intro h
  by_cases c : j = r
  · subst c; rw [tu_s] at h; exact absurd h hv
  · rw [tu_i c] at h; exact h
theorem dNote_k {t : TT} {ne r k : Nat} (h : k ≠ 50) (h1 : k ≠ 51) (h2 : k ≠ 52) : dNote t ne r k = t k := by
  unfold dNote; rw [tu_r h2, tu_r h1, tu_r h]
theorem dFin_13 {t : TT} {ne r : Nat} {f : Int32} : dFin t ne r f 13 = tu t 13 r 100 13 := by
  unfold dFin
  rw [dNote_k (by decide) (by decide) (by decide), tu_r (by decide), tu_r (by decide)]
theorem dAbo_13 {t : TT} {ne r : Nat} : dAbo t ne r 13 = tu t 13 r 97 13 := by
  unfold dAbo
  rw [dNote_k (by decide) (by decide) (by decide)]
/-- what a step keeps to: entries only come, and at the present's cost -/
def dOkS (s s2 : DS) : Prop := s.2.2 ≤ s2.2.2 ∧ s2.2.2 + dPh (s2.1 13) s2.2.1 ≤ s.2.2 + dPh (s.1 13) s.2.1 ∧ s2.2.1.length ≤ s.2.1.length
theorem dOkS.rf {s : DS} : dOkS s s := ⟨Nat.le_refl _, Nat.le_refl _, Nat.le_refl _⟩
theorem dOkS.tr {s s2 s3 : DS} (h : dOkS s s2) (h2 : dOkS s2 s3) : dOkS s s3 := ⟨Nat.le_trans h.1 h2.1, Nat.le_trans h2.2.1 h.2.1, Nat.le_trans h2.2.2 h.2.2⟩
theorem dOkS.t {s : DS} {t2 : TT} (h : t2 13 = s.1 13) : dOkS s (t2, s.2) := ⟨Nat.le_refl _, by show s.2.2 + dPh (t2 13) s.2.1 ≤ _; rw [h]; exact Nat.le_refl _, Nat.le_refl _⟩
theorem er_len {pr : List Nat} {k : Nat} (h : k < pr.length) : (pr.eraseIdx k).length = pr.length - 1 := List.length_eraseIdx_of_lt h
theorem dFin_ok {s : DS} {t : TT} {k : Nat} {f : Int32} (ht : t 13 = s.1 13) (hk : k < s.2.1.length) : dOkS s (dFin t s.2.2 (pg s.2.1 k) f, s.2.1.eraseIdx k, s.2.2 + 1) := by
  refine ⟨Nat.le_succ _, ?_, by show (s.2.1.eraseIdx k).length ≤ _; rw [er_len hk]; omega⟩
  show s.2.2 + 1 + dPh (dFin t s.2.2 (pg s.2.1 k) f 13) (s.2.1.eraseIdx k) ≤ _
  have h1 := dPh_er (f := s.1 13) s.2.1 k hk
  have h2 := dPh_le (f := s.1 13) (h := dFin t s.2.2 (pg s.2.1 k) f 13) (fun r h => by rw [dFin_13] at h; have := tu13 (by decide) h; rw [ht] at this; exact this) (s.2.1.eraseIdx k)
  split at h1 <;> omega
theorem dLoS_ok {q k : Nat} {s : DS} (hk : k < s.2.1.length) : dOkS s (dLoS q k s) := by
  unfold dLoS
  repeat' split
  · exact dFin_ok rfl hk
  · exact dOkS.t (by rw [tu_r (by decide), tu_r (by decide)])
  · exact dOkS.rf
  · exact dOkS.rf
theorem dLoS_len {q k : Nat} {s : DS} (hk : k < s.2.1.length) : k ≤ (dLoS q k s).2.1.length := by
  unfold dLoS
  repeat' split
  · show k ≤ (s.2.1.eraseIdx k).length; rw [er_len hk]; omega
  · exact Nat.le_of_lt hk
  · exact Nat.le_of_lt hk
  · exact Nat.le_of_lt hk
theorem dLo_ok {q : Nat} : ∀ (k : Nat) (s : DS), k ≤ s.2.1.length → dOkS s (dLo q k s)
  | 0, s, _ => dOkS.rf
  | k + 1, s, h => (dLoS_ok h).tr (dLo_ok k _ (dLoS_len h))
theorem dLiS_ok {q r : Nat} {s : DS} {a : Int32} (hr : r ∈ s.2.1) : dOkS s (dLiS q r s a).1 ∧ (dLiS q r s a).1.2.1 = s.2.1 := by
  unfold dLiS
  by_cases c1 : s.1 13 r = 119 ∧ s.1 10 r = nI q
  · by_cases c2 : s.1 8 r = s.1 18 q
    · by_cases c3 : dRoom s.1 s.2.1 q
      · simp only [if_pos c1, if_pos c2, if_pos c3]
        refine ⟨⟨Nat.le_succ _, ?_, Nat.le_refl _⟩, trivial⟩
        show s.2.2 + 1 + dPh (dAbo s.1 s.2.2 r 13) s.2.1 ≤ _
        have := dPh_mem (f := s.1 13) (h := dAbo s.1 s.2.2 r 13) (fun r h => by rw [dAbo_13] at h; exact tu13 (by decide) h) c1.1 (by rw [dAbo_13, tu_s]; decide) s.2.1 hr
        omega
      · simp only [if_pos c1, if_pos c2, if_neg c3]; exact ⟨dOkS.rf, trivial⟩
    · simp only [if_pos c1, if_neg c2]; exact ⟨dOkS.rf, trivial⟩
  · simp only [if_neg c1]; exact ⟨dOkS.rf, trivial⟩
theorem pg_mem {pr : List Nat} {i : Nat} (h : i < pr.length) : pg pr i ∈ pr := by
  rw [pg_of (List.getElem?_eq_getElem h)]; exact List.getElem_mem h
theorem dLi_ok {q : Nat} {s : DS} : ∀ (i : Nat), i ≤ s.2.1.length → dOkS s (dLi q s i).1 ∧ (dLi q s i).1.2.1 = s.2.1
  | 0, _ => ⟨dOkS.rf, rfl⟩
  | i + 1, h => by
    obtain ⟨h1, h2⟩ := dLi_ok (q := q) (s := s) i (by omega)
    obtain ⟨h3, h4⟩ := dLiS_ok (q := q) (r := pg s.2.1 i) (s := (dLi q s i).1) (a := (dLi q s i).2) (by rw [h2]; exact pg_mem h)
    exact ⟨h1.tr h3, h4.trans h2⟩
theorem dMove_13 {t : TT} {pr : List Nat} {q : Nat} : dMove t pr q 13 = t 13 := by
  unfold dMove
  repeat' split
  all_goals first | rfl | rw [tu_r (by decide)] | rw [tu_r (by decide), tu_r (by decide)]
theorem dRun_ok {q : Nat} {s : DS} : dOkS s (dRun q s) := by
  have h1 := dLo_ok (q := q) s.2.1.length s (Nat.le_refl _)
  have h2 := dLi_ok (q := q) (s := dLo q s.2.1.length s) (dLo q s.2.1.length s).2.1.length (Nat.le_refl _)
  unfold dRun
  split
  · exact dOkS.t (by unfold dClean; rw [tu_r (by decide), tu_r (by decide)])
  · split
    · exact (h1.tr h2.1).tr (dOkS.t (by rw [tu_r (by decide)]))
    · exact (h1.tr h2.1).tr (dOkS.t dMove_13)
theorem dRall_ok {s : DS} : ∀ n, dOkS s (dRall s n)
  | 0 => dOkS.rf
  | n + 1 => (dRall_ok n).tr dRun_ok
theorem dGive_k {t : TT} {pr : List Nat} {nl r k : Nat} (h : k ≠ 10) : dGive t pr nl r k = t k := tu_r h
theorem dGs_k {t : TT} {pr : List Nat} {nl r k : Nat} (h : k ≠ 10) : dGs pr nl t r k = t k := by
  unfold dGs
  repeat' split
  all_goals first | rfl | exact dGive_k h
theorem dGall_k {t : TT} {pr : List Nat} {nl k : Nat} (h : k ≠ 10) : ∀ n, dGall t pr nl n k = t k
  | 0 => rfl
  | n + 1 => (dGs_k h).trans (dGall_k h n)
theorem dLose_k {t : TT} {pr : List Nat} {q k : Nat} (h : k ≠ 10) : ∀ n, (dLose t pr q n).1 k = t k
  | 0 => rfl
  | n + 1 => by
    show (dLs q _ _ _).1 k = _
    unfold dLs
    split
    · exact (tu_r h).trans (dLose_k h n)
    · exact dLose_k h n
theorem dLall_k {t : TT} {pr : List Nat} {k : Nat} (h : k ≠ 10) : ∀ n, dLall t pr n k = t k
  | 0 => rfl
  | n + 1 => (dLose_k h _).trans (dLall_k h n)
theorem dTall_k {t : TT} {pr : List Nat} {nl k : Nat} {f : Int32} (h : k ≠ 10) : ∀ n, dTall t pr nl f n k = t k
  | 0 => rfl
  | n + 1 => by
    show dTs pr nl f _ _ k = _
    unfold dTs
    repeat' split
    · exact (dGive_k h).trans (dTall_k h n)
    · exact dTall_k h n
    · exact dTall_k h n
theorem dP1_k {t : TT} {pr : List Nat} {nl k : Nat} (h : k ≠ 10) : dP1 t pr nl k = t k := by
  unfold dP1
  split
  · exact dGall_k h _
  · exact (dTall_k h _).trans (dLall_k h _)
theorem dCw_k {t : TT} {pr : List Nat} {k : Nat} (h : k ≠ 40) : ∀ n, dCw t pr n k = t k
  | 0 => rfl
  | n + 1 => by
    show dCs _ _ k = _
    unfold dCs
    split
    · exact (tu_r h).trans (dCw_k h n)
    · exact dCw_k h n
theorem dTick_ok {nl : Nat} {s : DS} : dOkS s (dTick nl s) := by
  have h1 : dOkS s (dP1 s.1 s.2.1 nl, s.2) := dOkS.t (dP1_k (by decide))
  refine (h1.tr (dRall_ok (s := (dP1 s.1 s.2.1 nl, s.2)) nl)).tr ?_
  show dOkS _ (dPend _)
  unfold dPend
  refine dOkS.t ?_
  split
  · rw [tu_r (by decide), tu_r (by decide), dCw_k (by decide)]
  · rw [tu_r (by decide), dCw_k (by decide)]
theorem dTicks_ok {nl : Nat} {s : DS} : ∀ n, dOkS s (dTicks nl s n)
  | 0 => dOkS.rf
  | n + 1 => (dTicks_ok n).tr dTick_ok
theorem dSeS_ok {k : Nat} {s : DS} (hk : k < s.2.1.length) : dOkS s (dSeS k s) := by
  unfold dSeS
  repeat' split
  · exact dFin_ok (by rw [tu_r (by decide), tu_r (by decide)]) hk
  · exact dOkS.t (by rw [tu_r (by decide), tu_r (by decide)])
  · exact dOkS.t (by rw [tu_r (by decide)])
theorem dSeS_len {k : Nat} {s : DS} (hk : k < s.2.1.length) : k ≤ (dSeS k s).2.1.length := by
  unfold dSeS
  repeat' split
  · show k ≤ (s.2.1.eraseIdx k).length; rw [er_len hk]; omega
  · exact Nat.le_of_lt hk
  · exact Nat.le_of_lt hk
theorem dSe_ok : ∀ (k : Nat) (s : DS), k ≤ s.2.1.length → dOkS s (dSe k s)
  | 0, s, _ => dOkS.rf
  | k + 1, s, h => (dSeS_ok h).tr (dSe_ok k _ (dSeS_len h))
/-! small things -/
theorem badge_iff {g : cG} {F : Nat → Prop} {A : Nat → Nat → Nat} {nb nl nr ne : Nat} {pr : List Nat} {t : TT} {H : Heap} (h : PD g F A nb nl nr ne pr t H) {r b : Nat} (hr : r < nr) (hb : b < nb) : some (A 4 (t 7 r).toNatClampNeg) = some (A 4 b) ↔ t 7 r = nI b := by
  have hl := h.di.1.1
  obtain ⟨b2, hb2, e⟩ := h.di.2.2.2.1 r hr
  rw [e, nI_clamp (by omega)]
  constructor
  · intro z
    rw [h.inj (k := 4) (by decide) (by decide) (by exact hb2) (by exact hb) (Option.some.inj z)]
  · intro z
    rw [(nI_eq (by omega) (by omega)).mp z]
theorem lref_n {A : Nat → Nat → Nat} {x : Int32} : lref A x = none ↔ x < 0 := by
  unfold lref
  split <;> simp [*]
theorem lref_m1 {A : Nat → Nat → Nat} : lref A (-1) = none := lref_n.mpr (by decide)
theorem lref_oI {A : Nat → Nat → Nat} {bo : Option Nat} (h : ∀ b, bo = some b → b < 100) : lref A (oI bo) = bo.map (A 5) := by
  cases bo with
  | none => exact lref_m1
  | some b =>
    have := h b rfl
    show lref A (nI b) = _
    rw [lref, if_neg (nI_pos (by omega)), nI_clamp (by omega)]
    rfl
theorem hs_10n {A : Nat → Nat → Nat} {t : TT} {i : Nat} : (dO A t 6 i).2.set 5 .null = (dO A (tu t 10 i (-1)) 6 i).2 := by
  have := hs_10 (A := A) (t := t) (i := i) (x := -1)
  rw [lref_m1] at this
  exact this
theorem hs_10o {A : Nat → Nat → Nat} {t : TT} {i : Nat} {bo : Option Nat} (h : ∀ b, bo = some b → b < 100) : (dO A t 6 i).2.set 5 (va_rf (bo.map (A 5))) = (dO A (tu t 10 i (oI bo)) 6 i).2 := by
  rw [← lref_oI h]; exact hs_10
section NL
variable {p : Program} {l : Launch} {e : Env} {R : Room} {s : State} {m : MethodId} {args : Array Value} {below : List Frame} {meth : Method} {c : Code} {H : Heap} {locs : List Loc} {cells slots : Nat} {Q : State → Prop}
variable {cc : ByteArray} {pc : Nat} {ls : Array Slot} {rest : List Value} {A : Nat → Nat → Nat}
theorem lv_ifnullL (hexec : p.tables.exec = Jvm.exec) (hb : c.code = cc) {x : Int32} {off : Int} {tgt : Nat} (hdg : decode cc pc = .ok (.ifnull off, 3)) (ht : (pc : Int) + off = (tgt : Int))
    (kt : x < 0 → W p l e R s m args below meth c H locs cells slots Q (F0 m tgt ls rest)) (kf : ¬ x < 0 → W p l e R s m args below meth c H locs cells slots Q (F0 m (pc + 3) ls rest)) : W p l e R s m args below meth c H locs cells slots Q (F0 m pc ls (va_rf (lref A x) :: rest)) :=
  lv_ifnullR hexec hb hdg ht (fun z => kt (lref_n.mp z)) (fun y z => kf (fun w => by rw [lref_n.mpr w] at z; cases z))
theorem lv_ifnonnullL (hexec : p.tables.exec = Jvm.exec) (hb : c.code = cc) {x : Int32} {off : Int} {tgt : Nat} (hdg : decode cc pc = .ok (.ifnonnull off, 3)) (ht : (pc : Int) + off = (tgt : Int))
    (kt : ¬ x < 0 → W p l e R s m args below meth c H locs cells slots Q (F0 m tgt ls rest)) (kf : x < 0 → W p l e R s m args below meth c H locs cells slots Q (F0 m (pc + 3) ls rest)) : W p l e R s m args below meth c H locs cells slots Q (F0 m pc ls (va_rf (lref A x) :: rest)) :=
  lv_ifnonnullR hexec hb hdg ht (fun y z => kt (fun w => by rw [lref_n.mpr w] at z; cases z)) (fun z => kf (lref_n.mp z))
end NL
