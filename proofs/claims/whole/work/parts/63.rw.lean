/-! those who are done within a loop: the desk goes down its present list, the model up its riders -/
def loK (k : Nat) : Bool := !(k == 8 || k == 9 || k == 10 || k == 13 || k == 25 || k == 50 || k == 51 || k == 52)
def DInv (F G : Nat → Bool) (N8 N9 N10 : Nat → Int32) (t0 : TT) (pr0 : List Nat) (ne0 k : Nat) (s : DS) : Prop :=
  s.2.1 = pr0.take k ++ (pr0.drop k).filter (fun j => !F j) ∧ s.2.2 = ne0 + (pr0.drop k).countP F ∧
  (∀ j, s.1 13 j = if j ∈ pr0.drop k ∧ F j = true then 100 else t0 13 j) ∧
  (∀ j, s.1 8 j = if j ∈ pr0.drop k then N8 j else t0 8 j) ∧ (∀ j, s.1 9 j = if j ∈ pr0.drop k then N9 j else t0 9 j) ∧ (∀ j, s.1 10 j = if j ∈ pr0.drop k then N10 j else t0 10 j) ∧
  s.1 25 0 = t0 25 0 + nI ((pr0.drop k).countP G) ∧
  (∀ r, r < 1000 → ∀ c, dTg s.1 r s.2.2 0 c = if r ∈ pr0.drop k ∧ F r = true then lgN (dTg t0 r ne0 0 c) True 100 (t0 23 0) else dTg t0 r ne0 0 c) ∧
  (∀ k9, loK k9 = true → s.1 k9 = t0 k9)
theorem er_app : ∀ (a : List Nat) (x : Nat) (b : List Nat), (a ++ x :: b).eraseIdx a.length = a ++ b
  | [], _, _ => rfl
  | y :: a, x, b => by
    show y :: (a ++ x :: b).eraseIdx a.length = y :: (a ++ b)
    rw [er_app a x b]
section DI9
variable {F G : Nat → Bool} {N8 N9 N10 : Nat → Int32} {t0 t1 : TT} {pr0 : List Nat} {ne0 k r : Nat} {s : DS} {f : Int32}
theorem DInv.start : DInv F G N8 N9 N10 t0 pr0 ne0 pr0.length (t0, pr0, ne0) := by
  unfold DInv
  rw [List.drop_length, List.take_length]
  refine ⟨by simp, rfl, fun j => ?_, fun j => ?_, fun j => ?_, fun j => ?_, ?_, fun r _ c => ?_, fun _ _ => rfl⟩
  · rw [if_neg (fun z => by simp at z)]
  · rw [if_neg (fun z => by simp at z)]
  · rw [if_neg (fun z => by simp at z)]
  · rw [if_neg (fun z => by simp at z)]
  · show t0 25 0 = t0 25 0 + 0
    rw [Int32.add_zero]
  · rw [if_neg (fun z => by simp at z)]
theorem dr_not (hk : k < pr0.length) (hnd : pr0.Nodup) : pg pr0 k ∉ pr0.drop (k + 1) := by
  have h1 : (pr0.drop k).Nodup := List.Pairwise.sublist (List.drop_sublist k pr0) hnd
  rw [dr_succ pr0 k hk] at h1
  exact (List.nodup_cons.mp h1).1
theorem DInv.pg (h : DInv F G N8 N9 N10 t0 pr0 ne0 (k + 1) s) (hk : k < pr0.length) : pg s.2.1 k = pg pr0 k := by
  rw [h.1]
  have h1 : (pr0.take (k + 1) ++ (pr0.drop (k + 1)).filter (fun j => !F j))[k]? = some pr0[k] := by
    rw [List.getElem?_append_left (by rw [List.length_take]; omega), List.getElem?_take, if_pos (Nat.lt_succ_self k), List.getElem?_eq_getElem hk]
  rw [pg_of h1, pg_of (List.getElem?_eq_getElem hk)]
theorem DInv.col (h : DInv F G N8 N9 N10 t0 pr0 ne0 (k + 1) s) (hk : k < pr0.length) (hnd : pr0.Nodup) (hr : r = Jvm.Pilot.CLiftDeskLaw_law_r1592_5db394.pg pr0 k) : s.1 13 r = t0 13 r ∧ s.1 8 r = t0 8 r ∧ s.1 9 r = t0 9 r ∧ s.1 10 r = t0 10 r := by
  have hn := dr_not hk hnd
  rw [← hr] at hn
  obtain ⟨h1, h2, h3, h4, h5, h6, h7, h8, h9⟩ := h
  exact ⟨by rw [h3, if_neg (fun z => hn z.1)], by rw [h4, if_neg hn], by rw [h5, if_neg hn], by rw [h6, if_neg hn]⟩
theorem DInv.fin (h : DInv F G N8 N9 N10 t0 pr0 ne0 (k + 1) s) (hk : k < pr0.length) (hnd : pr0.Nodup) (h1000 : ∀ r, r ∈ pr0 → r < 1000) (hr : r = Jvm.Pilot.CLiftDeskLaw_law_r1592_5db394.pg pr0 k) (hF : F r = true) (hG : G r = false) (e1 : ∀ k9, k9 ≠ 9 → k9 ≠ 10 → t1 k9 = s.1 k9) (e9 : ∀ j, j ≠ r → t1 9 j = s.1 9 j) (e10 : ∀ j, j ≠ r → t1 10 j = s.1 10 j) (n9 : t1 9 r = N9 r) (n10 : N10 r = -1) (n8 : f = N8 r) :
    DInv F G N8 N9 N10 t0 pr0 ne0 k (dFin t1 s.2.2 r f, s.2.1.eraseIdx k, s.2.2 + 1) := by
  have hn := dr_not hk hnd
  have hm : r ∈ pr0 := by rw [hr]; exact pg_mem hk
  have hr9 := h1000 r hm
  rw [← hr] at hn
  obtain ⟨h1, h2, h3, h4, h5, h6, h7, h8, h9⟩ := h
  have hD := dr_succ pr0 k hk
  rw [← hr] at hD
  have g13 : ∀ j, dFin t1 s.2.2 r f 13 j = if j = r then 100 else s.1 13 j := fun j => by
    rw [dFin_13]
    by_cases c : j = r
    · subst c; rw [tu_s, if_pos rfl]
    · rw [tu_i c, if_neg c, e1 13 (by decide) (by decide)]
  have g8 : ∀ j, dFin t1 s.2.2 r f 8 j = if j = r then f else s.1 8 j := fun j => by
    unfold dFin
    rw [dNote_k (by decide) (by decide) (by decide), tu_k (by decide)]
    by_cases c : j = r
    · subst c; rw [tu_s, if_pos rfl]
    · rw [tu_i c, if_neg c, tu_k (by decide), e1 8 (by decide) (by decide)]
  have g10 : ∀ j, dFin t1 s.2.2 r f 10 j = if j = r then -1 else s.1 10 j := fun j => by
    unfold dFin
    rw [dNote_k (by decide) (by decide) (by decide)]
    by_cases c : j = r
    · subst c; rw [tu_s, if_pos rfl]
    · rw [tu_i c, if_neg c, tu_k (by decide), tu_k (by decide), e10 j c]
  have g9 : ∀ j, dFin t1 s.2.2 r f 9 j = if j = r then N9 r else s.1 9 j := fun j => by
    unfold dFin
    rw [dNote_k (by decide) (by decide) (by decide), tu_k (by decide), tu_k (by decide), tu_k (by decide)]
    by_cases c : j = r
    · subst c; rw [if_pos rfl, n9]
    · rw [if_neg c, e9 j c]
  have gk : ∀ k9, k9 ≠ 8 → k9 ≠ 9 → k9 ≠ 10 → k9 ≠ 13 → k9 ≠ 50 → k9 ≠ 51 → k9 ≠ 52 → dFin t1 s.2.2 r f k9 = s.1 k9 := fun k9 a1 a2 a3 a4 a5 a6 a7 => by
    unfold dFin
    rw [dNote_k a5 a6 a7, tu_r a3, tu_r a1, tu_r a4, e1 k9 a2 a3]
  unfold DInv
  rw [hD]
  refine ⟨?_, ?_, fun j => ?_, fun j => ?_, fun j => ?_, fun j => ?_, ?_, fun r2 hr2 c => ?_, fun k9 hk9 => ?_⟩
  · show s.2.1.eraseIdx k = _
    rw [h1, tk_succ pr0 k hk, ← hr, List.append_assoc]
    have hl : (pr0.take k).length = k := by rw [List.length_take]; omega
    have := er_app (pr0.take k) r ((pr0.drop (k + 1)).filter (fun j => !F j))
    rw [hl] at this
    rw [List.filter_cons]
    simp only [hF, Bool.not_true, Bool.false_eq_true, if_false]
    exact this
  · show s.2.2 + 1 = _
    rw [h2, List.countP_cons, hF, if_pos rfl, Nat.add_assoc]
  · show dFin t1 s.2.2 r f 13 j = _
    rw [g13]
    by_cases c : j = r
    · subst c; rw [if_pos rfl, if_pos ⟨List.mem_cons_self, hF⟩]
    · rw [if_neg c, h3]
      by_cases d : j ∈ pr0.drop (k + 1) ∧ F j = true
      · rw [if_pos d, if_pos ⟨List.mem_cons_of_mem _ d.1, d.2⟩]
      · rw [if_neg d, if_neg (fun z => d ⟨(List.mem_cons.mp z.1).resolve_left c, z.2⟩)]
  · show dFin t1 s.2.2 r f 8 j = _
    rw [g8]
    by_cases c : j = r
    · subst c; rw [if_pos rfl, if_pos List.mem_cons_self, n8]
    · rw [if_neg c, h4]
      by_cases d : j ∈ pr0.drop (k + 1)
      · rw [if_pos d, if_pos (List.mem_cons_of_mem _ d)]
      · rw [if_neg d, if_neg (fun z => d ((List.mem_cons.mp z).resolve_left c))]
  · show dFin t1 s.2.2 r f 9 j = _
    rw [g9]
    by_cases c : j = r
    · subst c; rw [if_pos rfl, if_pos List.mem_cons_self]
    · rw [if_neg c, h5]
      by_cases d : j ∈ pr0.drop (k + 1)
      · rw [if_pos d, if_pos (List.mem_cons_of_mem _ d)]
      · rw [if_neg d, if_neg (fun z => d ((List.mem_cons.mp z).resolve_left c))]
  · show dFin t1 s.2.2 r f 10 j = _
    rw [g10]
    by_cases c : j = r
    · subst c; rw [if_pos rfl, if_pos List.mem_cons_self, n10]
    · rw [if_neg c, h6]
      by_cases d : j ∈ pr0.drop (k + 1)
      · rw [if_pos d, if_pos (List.mem_cons_of_mem _ d)]
      · rw [if_neg d, if_neg (fun z => d ((List.mem_cons.mp z).resolve_left c))]
  · show dFin t1 s.2.2 r f 25 0 = _
    rw [gk 25 (by decide) (by decide) (by decide) (by decide) (by decide) (by decide) (by decide), h7, List.countP_cons, hG, if_neg (by decide)]
    rfl
  · show dTg (dFin t1 s.2.2 r f) r2 (s.2.2 + 1) 0 c = _
    unfold dFin
    rw [dTg_note hr2 hr9, tu_k (show (13 : Nat) ≠ 10 by decide), tu_k (show (13 : Nat) ≠ 8 by decide), tu_s, tu_k (show (23 : Nat) ≠ 10 by decide), tu_k (show (23 : Nat) ≠ 8 by decide), tu_k (show (23 : Nat) ≠ 13 by decide), e1 23 (by decide) (by decide), h9 23 rfl,
      dTg_cg (t := s.1) s.2.2 0 c (fun j _ _ => ⟨by rw [tu_r (by decide), tu_r (by decide), tu_r (by decide), e1 _ (by decide) (by decide)], by rw [tu_r (by decide), tu_r (by decide), tu_r (by decide), e1 _ (by decide) (by decide)], by rw [tu_r (by decide), tu_r (by decide), tu_r (by decide), e1 _ (by decide) (by decide)]⟩), h8 r2 hr2 c]
    by_cases e : r = r2
    · subst e
      rw [if_neg (fun z => hn z.1), if_pos ⟨List.mem_cons_self, hF⟩]
      unfold lgN
      simp
    · have : ∀ x : Bool × Int32, lgN x (r = r2) 100 (t0 23 0) = x := fun x => by
        unfold lgN
        split
        · rfl
        · first | rfl | rw [if_neg e]
      rw [this]
      by_cases d : r2 ∈ pr0.drop (k + 1) ∧ F r2 = true
      · rw [if_pos d, if_pos ⟨List.mem_cons_of_mem _ d.1, d.2⟩]
      · rw [if_neg d, if_neg (fun z => d ⟨(List.mem_cons.mp z.1).resolve_left (fun y => e y.symm), z.2⟩)]
  · show dFin t1 s.2.2 r f k9 = _
    rw [gk k9 (by rintro rfl; cases hk9) (by rintro rfl; cases hk9) (by rintro rfl; cases hk9) (by rintro rfl; cases hk9) (by rintro rfl; cases hk9) (by rintro rfl; cases hk9) (by rintro rfl; cases hk9)]
    exact h9 k9 hk9
theorem DInv.alt (h : DInv F G N8 N9 N10 t0 pr0 ne0 (k + 1) s) (hk : k < pr0.length) (hnd : pr0.Nodup) (hr : r = Jvm.Pilot.CLiftDeskLaw_law_r1592_5db394.pg pr0 k) (hF : F r = false) (e1 : ∀ k9, k9 ≠ 9 → k9 ≠ 10 → k9 ≠ 25 → t1 k9 = s.1 k9) (e9 : ∀ j, j ≠ r → t1 9 j = s.1 9 j) (e10 : ∀ j, j ≠ r → t1 10 j = s.1 10 j) (n9 : t1 9 r = N9 r) (n10 : t1 10 r = N10 r) (n8 : t0 8 r = N8 r) (e25 : t1 25 0 = s.1 25 0 + (if G r = true then 1 else 0)) :
    DInv F G N8 N9 N10 t0 pr0 ne0 k (t1, s.2) := by
  have hn := dr_not hk hnd
  obtain ⟨x1, x2, x3, x4⟩ := h.col hk hnd hr
  rw [← hr] at hn
  obtain ⟨h1, h2, h3, h4, h5, h6, h7, h8, h9⟩ := h
  have hD := dr_succ pr0 k hk
  rw [← hr] at hD
  unfold DInv
  rw [hD]
  refine ⟨?_, ?_, fun j => ?_, fun j => ?_, fun j => ?_, fun j => ?_, ?_, fun r2 hr2 c => ?_, fun k9 hk9 => ?_⟩
  · show s.2.1 = _
    rw [h1, tk_succ pr0 k hk, ← hr, List.append_assoc, List.filter_cons]
    simp [hF]
  · show s.2.2 = _
    rw [h2, List.countP_cons, hF, if_neg (by decide)]
    rfl
  · show t1 13 j = _
    rw [e1 13 (by decide) (by decide) (by decide), h3]
    by_cases d : j ∈ pr0.drop (k + 1) ∧ F j = true
    · rw [if_pos d, if_pos ⟨List.mem_cons_of_mem _ d.1, d.2⟩]
    · rw [if_neg d, if_neg (fun z => d ⟨(List.mem_cons.mp z.1).resolve_left (fun y => by rw [y, hF] at z; cases z.2), z.2⟩)]
  · show t1 8 j = _
    rw [e1 8 (by decide) (by decide) (by decide)]
    by_cases c : j = r
    · subst c; rw [x2, if_pos List.mem_cons_self, n8]
    · rw [h4]
      by_cases d : j ∈ pr0.drop (k + 1)
      · rw [if_pos d, if_pos (List.mem_cons_of_mem _ d)]
      · rw [if_neg d, if_neg (fun z => d ((List.mem_cons.mp z).resolve_left c))]
  · show t1 9 j = _
    by_cases c : j = r
    · subst c; rw [if_pos List.mem_cons_self, n9]
    · rw [e9 j c, h5]
      by_cases d : j ∈ pr0.drop (k + 1)
      · rw [if_pos d, if_pos (List.mem_cons_of_mem _ d)]
      · rw [if_neg d, if_neg (fun z => d ((List.mem_cons.mp z).resolve_left c))]
  · show t1 10 j = _
    by_cases c : j = r
    · subst c; rw [if_pos List.mem_cons_self, n10]
    · rw [e10 j c, h6]
      by_cases d : j ∈ pr0.drop (k + 1)
      · rw [if_pos d, if_pos (List.mem_cons_of_mem _ d)]
      · rw [if_neg d, if_neg (fun z => d ((List.mem_cons.mp z).resolve_left c))]
  · show t1 25 0 = _
    rw [e25, h7, List.countP_cons]
    cases G r with
    | true => rw [if_pos rfl, if_pos rfl, Int32.add_assoc, nI_1]
    | false =>
      rw [if_neg (by decide), if_neg (by decide), Int32.add_zero]
      rfl
  · show dTg t1 r2 s.2.2 0 c = _
    rw [dTg_cg (t := s.1) s.2.2 0 c (fun j _ _ => ⟨by rw [e1 _ (by decide) (by decide) (by decide)], by rw [e1 _ (by decide) (by decide) (by decide)], by rw [e1 _ (by decide) (by decide) (by decide)]⟩), h8 r2 hr2 c]
    by_cases d : r2 ∈ pr0.drop (k + 1) ∧ F r2 = true
    · rw [if_pos d, if_pos ⟨List.mem_cons_of_mem _ d.1, d.2⟩]
    · rw [if_neg d, if_neg (fun z => d ⟨(List.mem_cons.mp z.1).resolve_left (fun y => by rw [y, hF] at z; cases z.2), z.2⟩)]
  · show t1 k9 = _
    rw [e1 k9 (by rintro rfl; cases hk9) (by rintro rfl; cases hk9) (by rintro rfl; cases hk9)]
    exact h9 k9 hk9
end DI9
/-! the model's side -/
def MInv (F G : Nat → Bool) (N8 N9 N10 : Nat → Int32) (M0 : TT) (k : Nat) (M : TT) : Prop :=
  (∀ j, M 13 j = if j < k ∧ F j = true then 100 else M0 13 j) ∧
  (∀ j, M 8 j = if j < k then N8 j else M0 8 j) ∧ (∀ j, M 9 j = if j < k then N9 j else M0 9 j) ∧ (∀ j, M 10 j = if j < k then N10 j else M0 10 j) ∧
  (∀ j, M 12 j = if (j < k ∧ F j = true) ∧ M0 13 j = 119 then M0 23 0 else M0 12 j) ∧
  M 15 0 = M0 15 0 + nI (cB F k) ∧ M 16 0 = M0 16 0 + nI (cB F k) ∧ M 25 0 = M0 25 0 + nI (cB G k) ∧ (∀ k9, mOk k9 = true → M k9 = M0 k9)
section MI9
variable {F G : Nat → Bool} {N8 N9 N10 : Nat → Int32} {M0 M M1 : TT} {k : Nat} {f : Int32}
theorem MInv.start : MInv F G N8 N9 N10 M0 0 M0 := by
  refine ⟨fun j => ?_, fun j => ?_, fun j => ?_, fun j => ?_, fun j => ?_, ?_, ?_, ?_, fun _ _ => rfl⟩
  · rw [if_neg (fun z => absurd z.1 (by omega))]
  · rw [if_neg (by omega)]
  · rw [if_neg (by omega)]
  · rw [if_neg (by omega)]
  · rw [if_neg (fun z => absurd z.1.1 (by omega))]
  all_goals exact (Int32.add_zero _).symm
theorem MInv.col (h : MInv F G N8 N9 N10 M0 k M) : M 13 k = M0 13 k ∧ M 8 k = M0 8 k ∧ M 9 k = M0 9 k ∧ M 10 k = M0 10 k := by
  obtain ⟨h1, h2, h3, h4, -⟩ := h
  exact ⟨by rw [h1, if_neg (fun z => absurd z.1 (by omega))], by rw [h2, if_neg (by omega)], by rw [h3, if_neg (by omega)], by rw [h4, if_neg (by omega)]⟩
theorem ltk_s {j k : Nat} (h : j ≠ k) : j < k + 1 ↔ j < k := by omega
theorem MInv.fin (h : MInv F G N8 N9 N10 M0 k M) (hF : F k = true) (hG : G k = false) (e1 : ∀ k9, k9 ≠ 9 → M1 k9 = M k9) (e9 : ∀ j, j ≠ k → M1 9 j = M 9 j) (n9 : M1 9 k = N9 k) (n10 : N10 k = -1) (n8 : f = N8 k) : MInv F G N8 N9 N10 M0 (k + 1) (mEnds M1 k f) := by
  obtain ⟨x1, x2, x3, x4⟩ := h.col
  obtain ⟨h1, h2, h3, h4, h5, h6, h7, h8, h9⟩ := h
  have m13 : M1 13 k = M0 13 k := by rw [e1 13 (by decide)]; exact x1
  have m23 : M1 23 0 = M0 23 0 := by rw [e1 23 (by decide), h9 23 rfl]
  refine ⟨fun j => ?_, fun j => ?_, fun j => ?_, fun j => ?_, fun j => ?_, ?_, ?_, ?_, fun k9 hk9 => ?_⟩
  · unfold mEnds
    rw [tu_k (by decide), tu_k (by decide), tu_k (by decide), tu_k (by decide)]
    by_cases c : j = k
    · subst c; rw [tu_s, if_pos ⟨Nat.lt_succ_self j, hF⟩]
    · rw [tu_i c]
      have : (if M1 13 k = 119 then tu M1 12 k (M1 23 0) else M1) 13 j = M 13 j := by
        split
        · rw [tu_k (by decide), e1 13 (by decide)]
        · rw [e1 13 (by decide)]
      rw [this, h1]
      simp only [ltk_s c]
  · unfold mEnds
    rw [tu_k (by decide), tu_k (by decide), tu_k (by decide)]
    by_cases c : j = k
    · subst c; rw [tu_s, if_pos (Nat.lt_succ_self j), n8]
    · rw [tu_i c, tu_k (by decide)]
      have : (if M1 13 k = 119 then tu M1 12 k (M1 23 0) else M1) 8 j = M 8 j := by
        split
        · rw [tu_k (by decide), e1 8 (by decide)]
        · rw [e1 8 (by decide)]
      rw [this, h2]
      simp only [ltk_s c]
  · unfold mEnds
    rw [tu_k (by decide), tu_k (by decide), tu_k (by decide), tu_k (by decide), tu_k (by decide)]
    have : (if M1 13 k = 119 then tu M1 12 k (M1 23 0) else M1) 9 j = M1 9 j := by
      split
      · rw [tu_k (by decide)]
      · rfl
    rw [this]
    by_cases c : j = k
    · subst c; rw [n9, if_pos (Nat.lt_succ_self j)]
    · rw [e9 j c, h3]
      simp only [ltk_s c]
  · unfold mEnds
    rw [tu_k (by decide), tu_k (by decide)]
    by_cases c : j = k
    · subst c; rw [tu_s, if_pos (Nat.lt_succ_self j), n10]
    · rw [tu_i c, tu_k (by decide), tu_k (by decide)]
      have : (if M1 13 k = 119 then tu M1 12 k (M1 23 0) else M1) 10 j = M 10 j := by
        split
        · rw [tu_k (by decide), e1 10 (by decide)]
        · rw [e1 10 (by decide)]
      rw [this, h4]
      simp only [ltk_s c]
  · unfold mEnds
    rw [tu_k (by decide), tu_k (by decide), tu_k (by decide), tu_k (by decide), tu_k (by decide), m13, m23]
    by_cases c : j = k
    · subst c
      by_cases d : M0 13 j = 119
      · rw [if_pos d, tu_s, if_pos ⟨⟨Nat.lt_succ_self j, hF⟩, d⟩]
      · rw [if_neg d, if_neg (fun z => d z.2), e1 12 (by decide), h5, if_neg (fun z => d z.2)]
    · have : (if M0 13 k = 119 then tu M1 12 k (M0 23 0) else M1) 12 j = M 12 j := by
        split
        · rw [tu_i c, e1 12 (by decide)]
        · rw [e1 12 (by decide)]
      rw [this, h5]
      simp only [ltk_s c]
  · unfold mEnds
    rw [tu_k (by decide), tu_s, cB, hF, if_pos rfl, e1 15 (by decide), h6, Int32.add_assoc, nI_1]
  · unfold mEnds
    rw [tu_s, cB, hF, if_pos rfl, e1 16 (by decide), h7, Int32.add_assoc, nI_1]
  · unfold mEnds
    rw [tu_k (by decide), tu_k (by decide), tu_k (by decide), tu_k (by decide), tu_k (by decide)]
    have : (if M1 13 k = 119 then tu M1 12 k (M1 23 0) else M1) 25 0 = M 25 0 := by
      split
      · rw [tu_k (by decide), e1 25 (by decide)]
      · rw [e1 25 (by decide)]
    rw [this, h8, cB, hG, if_neg (show ¬ (false = true) by decide)]
    rfl
  · rw [mEnds_k hk9, e1 k9 (by rintro rfl; cases hk9)]
    exact h9 k9 hk9
theorem MInv.alt (h : MInv F G N8 N9 N10 M0 k M) (hF : F k = false) (e1 : ∀ k9, k9 ≠ 9 → k9 ≠ 25 → M1 k9 = M k9) (e9 : ∀ j, j ≠ k → M1 9 j = M 9 j) (n9 : M1 9 k = N9 k) (n10 : M0 10 k = N10 k) (n8 : M0 8 k = N8 k) (e25 : M1 25 0 = M 25 0 + (if G k = true then 1 else 0)) : MInv F G N8 N9 N10 M0 (k + 1) M1 := by
  obtain ⟨x1, x2, x3, x4⟩ := h.col
  obtain ⟨h1, h2, h3, h4, h5, h6, h7, h8, h9⟩ := h
  have hFn : ∀ j, (j < k + 1 ∧ F j = true) ↔ (j < k ∧ F j = true) := fun j => by
    refine ⟨fun z => ⟨?_, z.2⟩, fun z => ⟨by omega, z.2⟩⟩
    have : j ≠ k := by rintro rfl; rw [hF] at z; cases z.2
    omega
  refine ⟨fun j => ?_, fun j => ?_, fun j => ?_, fun j => ?_, fun j => ?_, ?_, ?_, ?_, fun k9 hk9 => ?_⟩
  · rw [e1 13 (by decide) (by decide), h1]
    simp only [hFn]
  · rw [e1 8 (by decide) (by decide)]
    by_cases c : j = k
    · subst c; rw [x2, if_pos (Nat.lt_succ_self j), n8]
    · rw [h2]; simp only [ltk_s c]
  · by_cases c : j = k
    · subst c; rw [n9, if_pos (Nat.lt_succ_self j)]
    · rw [e9 j c, h3]; simp only [ltk_s c]
  · rw [e1 10 (by decide) (by decide)]
    by_cases c : j = k
    · subst c; rw [x4, if_pos (Nat.lt_succ_self j), n10]
    · rw [h4]; simp only [ltk_s c]
  · rw [e1 12 (by decide) (by decide), h5]
    simp only [hFn]
  · rw [e1 15 (by decide) (by decide), h6, cB, hF, if_neg (by decide), Nat.add_zero]
  · rw [e1 16 (by decide) (by decide), h7, cB, hF, if_neg (by decide), Nat.add_zero]
  · rw [e25, h8, cB]
    cases G k with
    | true => rw [if_pos rfl, if_pos rfl, Int32.add_assoc, nI_1]
    | false => rw [if_neg (by decide), if_neg (by decide), Int32.add_zero, Nat.add_zero]
  · rw [e1 k9 (by rintro rfl; cases hk9) (by rintro rfl; cases hk9)]
    exact h9 k9 hk9
end MI9
