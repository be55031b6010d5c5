/-! the desk and the model side by side: words, and what both sides compute out of the same rows -/
theorem tu_cg {t M : TT} {k i k9 : Nat} {v : Int32} (h : t k9 = M k9) : tu t k i v k9 = tu M k i v k9 := by
  funext j; simp only [tu, h]
theorem tu_c3 {t M : TT} {k i k9 i9 : Nat} {v : Int32} (h : t k9 i9 = M k9 i9) : tu t k i v k9 i9 = tu M k i v k9 i9 := by
  simp only [tu, h]
theorem tu_same {t : TT} {k i : Nat} {v : Int32} (h : t k i = v) : tu t k i v = t := by
  funext a b
  unfold tu
  by_cases c : a = k ∧ b = i
  · rw [if_pos c]; obtain ⟨rfl, rfl⟩ := c; exact h.symm
  · rw [if_neg c]
theorem tk_succ : ∀ (l : List Nat) (n : Nat), n < l.length → l.take (n + 1) = l.take n ++ [pg l n]
  | [], n, h => absurd h (by simp)
  | a :: l, 0, _ => rfl
  | a :: l, n + 1, h => by
    show a :: l.take (n + 1) = a :: (l.take n ++ [pg l n])
    rw [tk_succ l n (by simpa using h)]
theorem dr_succ : ∀ (l : List Nat) (n : Nat), n < l.length → l.drop n = pg l n :: l.drop (n + 1)
  | [], n, h => absurd h (by simp)
  | a :: l, 0, _ => rfl
  | a :: l, n + 1, h => by
    show l.drop n = pg l n :: l.drop (n + 1)
    exact dr_succ l n (by simpa using h)
theorem ix_take {α : Type} {pr : List Nat} {f : α → Nat → α} {F : Nat → α} (h : ∀ i, F (i + 1) = f (F i) (pg pr i)) : ∀ n, n ≤ pr.length → F n = (pr.take n).foldl f (F 0)
  | 0, _ => by simp
  | n + 1, hn => by
    rw [h n, ix_take h n (by omega), tk_succ pr n (by omega), List.foldl_append]
    rfl
theorem ix_fold {α : Type} {pr : List Nat} {f : α → Nat → α} {F : Nat → α} (h : ∀ i, F (i + 1) = f (F i) (pg pr i)) : F pr.length = pr.foldl f (F 0) := by
  rw [ix_take h _ (Nat.le_refl _), List.take_length]
theorem rg_fold {β : Type} {g : β → Nat → β} {G : Nat → β} (h : ∀ r, G (r + 1) = g (G r) r) : ∀ n, G n = (List.range n).foldl g (G 0)
  | 0 => rfl
  | n + 1 => by
    rw [h n, rg_fold h n, List.range_succ, List.foldl_append]
    rfl
theorem sim_f {α β : Type} {P : Nat → Bool} {f : α → Nat → α} {g : β → Nat → β} {Rel : Nat → α → β → Prop} {a : α} {b : β} : ∀ n, Rel 0 a b → (∀ r a b, r < n → P r = true → Rel r a b → Rel (r + 1) (f a r) (g b r)) → (∀ r a b, r < n → P r = false → Rel r a b → Rel (r + 1) a (g b r)) → Rel n (((List.range n).filter P).foldl f a) ((List.range n).foldl g b)
  | 0, h0, _, _ => h0
  | n + 1, h0, hp, hn => by
    have h := sim_f (f := f) (g := g) (P := P) n h0 (fun r a b hr => hp r a b (by omega)) (fun r a b hr => hn r a b (by omega))
    rw [List.range_succ, List.filter_append, List.foldl_append, List.foldl_append]
    cases c : P n with
    | true =>
      rw [show [n].filter P = [n] by simp [c]]
      exact hp n _ _ (Nat.lt_succ_self n) c h
    | false =>
      rw [show [n].filter P = [] by simp [c]]
      exact hn n _ _ (Nat.lt_succ_self n) c h
theorem sim2 {α β : Type} {pr : List Nat} {n : Nat} {P : Nat → Bool} (hpr : pr = (List.range n).filter P) (f : α → Nat → α) (F : Nat → α) (hF : ∀ i, F (i + 1) = f (F i) (pg pr i)) (g : β → Nat → β) (G : Nat → β) (hG : ∀ r, G (r + 1) = g (G r) r) (Rel : Nat → α → β → Prop) (h0 : Rel 0 (F 0) (G 0))
    (hp : ∀ r a b, r < n → P r = true → Rel r a b → Rel (r + 1) (f a r) (g b r)) (hn : ∀ r a b, r < n → P r = false → Rel r a b → Rel (r + 1) a (g b r)) : Rel n (F pr.length) (G n) := by
  rw [ix_fold hF, rg_fold hG n, hpr]
  exact sim_f n h0 hp hn
/-- who is present -/
def isP (t : TT) (r : Nat) : Bool := !decide (t 13 r = 100)
theorem isP_t {t : TT} {r : Nat} : isP t r = true ↔ ¬ t 13 r = 100 := by simp [isP]
theorem isP_f {t : TT} {r : Nat} (h : isP t r = false) : t 13 r = 100 := by simpa [isP] using h
abbrev prs (t : TT) (n : Nat) : List Nat := (List.range n).filter (isP t)
theorem isP_cg {t M : TT} (h : t 13 = M 13) : isP t = isP M := by funext r; simp only [isP, h]
theorem prs_cg {t M : TT} {n : Nat} (h : t 13 = M 13) : prs t n = prs M n := by unfold prs; rw [isP_cg h]
theorem prs_mem {t : TT} {n r : Nat} : r ∈ prs t n ↔ r < n ∧ ¬ t 13 r = 100 := by
  rw [List.mem_filter, List.mem_range, isP_t]
theorem prs_lt {t : TT} {n r : Nat} (h : r ∈ prs t n) : r < n := (prs_mem.mp h).1
theorem prs_len {t : TT} {n : Nat} : (prs t n).length ≤ n := by
  have := List.length_filter_le (isP t) (List.range n)
  rw [List.length_range] at this
  exact this
theorem prs_nodup {t : TT} {n : Nat} : (prs t n).Nodup := List.Pairwise.sublist List.filter_sublist List.nodup_range
/-! counts -/
def cA (t : TT) (l : Nat) : Nat → Nat
  | 0 => 0
  | r + 1 => cA t l r + (if t 13 r = 97 ∧ t 10 r = nI l then 1 else 0)
theorem mAb_n {M : TT} {l : Nat} : ∀ n, mAb M l n = nI (cA M l n)
  | 0 => rfl
  | n + 1 => by
    rw [mAb, cA, mAb_n n]
    by_cases c : M 13 n = 97
    · by_cases d : M 10 n = nI l
      · rw [if_pos c, if_pos d, if_pos ⟨c, d⟩, nI_1]
      · rw [if_pos c, if_neg d, if_neg (fun z => d z.2), Int32.add_zero, Nat.add_zero]
    · rw [if_neg c, if_neg (fun z => c z.1), Int32.add_zero, Nat.add_zero]
theorem cA_mono {t M : TT} {l : Nat} : ∀ n, (∀ r, r < n → t 13 r = 97 → t 10 r = nI l → M 13 r = 97 ∧ M 10 r = nI l) → cA t l n ≤ cA M l n
  | 0, _ => Nat.le_refl _
  | n + 1, h => by
    have h1 := cA_mono (t := t) (M := M) (l := l) n (fun r hr => h r (by omega))
    rw [cA, cA]
    by_cases c : t 13 n = 97 ∧ t 10 n = nI l
    · rw [if_pos c, if_pos (h n (Nat.lt_succ_self n) c.1 c.2)]; omega
    · rw [if_neg c]; omega
theorem cA_one {t M : TT} {l r0 : Nat} : ∀ n, (∀ r, r < n → r ≠ r0 → t 13 r = 97 → t 10 r = nI l → M 13 r = 97 ∧ M 10 r = nI l) → cA t l n ≤ cA M l n + (if r0 < n then 1 else 0)
  | 0, _ => Nat.zero_le _
  | n + 1, h => by
    have h1 := cA_one (t := t) (M := M) (l := l) (r0 := r0) n (fun r hr => h r (by omega))
    rw [cA, cA]
    by_cases e : n = r0
    · subst e
      rw [if_neg (Nat.lt_irrefl n)] at h1
      rw [if_pos (Nat.lt_succ_self n)]
      split <;> split <;> omega
    · have h2 : (if r0 < n + 1 then 1 else 0) = (if r0 < n then 1 else 0 : Nat) := by
        by_cases c : r0 < n
        · rw [if_pos c, if_pos (by omega)]
        · rw [if_neg c, if_neg (by omega)]
      rw [h2]
      by_cases c : t 13 n = 97 ∧ t 10 n = nI l
      · rw [if_pos c, if_pos (h n (Nat.lt_succ_self n) e c.1 c.2)]; omega
      · rw [if_neg c]; omega
def cB (p : Nat → Bool) : Nat → Nat
  | 0 => 0
  | n + 1 => cB p n + (if p n = true then 1 else 0)
theorem cB_0 {p : Nat → Bool} : ∀ n, cB p n = 0 ↔ ∀ r, r < n → p r = false
  | 0 => ⟨fun _ r h => absurd h (Nat.not_lt_zero r), fun _ => rfl⟩
  | n + 1 => by
    rw [cB]
    have h := cB_0 (p := p) n
    cases c : p n with
    | true =>
      rw [if_pos rfl]
      exact ⟨fun z => by omega, fun z => by rw [z n (Nat.lt_succ_self n)] at c; cases c⟩
    | false =>
      rw [if_neg (by decide), Nat.add_zero, h]
      refine ⟨fun z r hr => ?_, fun z r hr => z r (by omega)⟩
      by_cases e : r = n
      · rw [e]; exact c
      · exact z r (by omega)
theorem cB_cg {p q : Nat → Bool} : ∀ n, (∀ r, r < n → p r = q r) → cB p n = cB q n
  | 0, _ => rfl
  | n + 1, h => by rw [cB, cB, cB_cg n (fun r hr => h r (by omega)), h n (Nat.lt_succ_self n)]
theorem cB_pr {P p : Nat → Bool} : ∀ n, (∀ r, r < n → p r = true → P r = true) → ((List.range n).filter P).countP p = cB p n
  | 0, _ => rfl
  | n + 1, h => by
    rw [List.range_succ, List.filter_append, List.countP_append, cB_pr n (fun r hr => h r (by omega)), cB]
    congr 1
    cases c : p n with
    | true => simp [h n (Nat.lt_succ_self n) c, c]
    | false => cases d : P n <;> simp [c, d]
theorem len_cnt (p : Nat → Bool) : ∀ l : List Nat, (l.filter (fun j => !p j)).length + l.countP p = l.length
  | [] => rfl
  | a :: l => by
    have h := len_cnt p l
    rw [List.filter_cons, List.countP_cons]
    cases c : p a <;> simp <;> omega
/-- the rows that both keep alike -/
def rAg (k : Nat) : Bool := k == 1 || k == 2 || k == 3 || k == 4 || k == 5 || k == 7 || k == 8 || k == 9 || k == 10 || k == 13 || k == 17 || k == 18 || k == 19 || k == 20 || k == 21
def RE (t M : TT) : Prop := (∀ k, rAg k = true → t k = M k) ∧ t 23 0 = M 23 0 ∧ t 24 0 = M 24 0 ∧ t 25 0 = M 25 0
theorem RE.r {t M : TT} (h : RE t M) (k : Nat) (hk : rAg k = true := by rfl) : t k = M k := h.1 k hk
theorem RE.tu {t M : TT} (h : RE t M) (k i : Nat) (v : Int32) : RE (tu t k i v) (tu M k i v) :=
  ⟨fun k9 h9 => tu_cg (h.1 k9 h9), tu_c3 h.2.1, tu_c3 h.2.2.1, tu_c3 h.2.2.2⟩
theorem hrs_lt {t : TT} {a : Int32} {f : Nat} (hh : ∃ e, 1 ≤ e ∧ e ≤ 100 ∧ t 3 f = nI e) : a ≤ t 3 f - 1 ↔ a < t 3 f := by
  obtain ⟨e, e1, e2, he⟩ := hh
  rw [he, I32le, pred_toInt (by omega), Int32.lt_iff_toInt_lt, nI_toInt (by omega)]
  omega
theorem why_eq {t M : TT} (h : RE t M) (hh : ∀ f, f < 10 → ∃ e, 1 ≤ e ∧ e ≤ 100 ∧ t 3 f = nI e) {b w : Nat} (hw : w < 10) : dWhy t b (nI w) = mWhy M b w := by
  unfold dWhy mWhy
  have hT : mTod t = mTod M := by unfold mTod; rw [h.2.1]
  rw [nI_clamp (by omega)]
  rcases Nat.eq_zero_or_pos w with h0 | h0
  · subst h0
    rw [if_pos (show nI 0 ≤ 0 by decide), if_pos (show nI 0 = 0 by decide)]
  · have hl := hrs_lt (a := mTod M) (hh w hw)
    rw [if_neg (nI_nle h0 (by omega)), if_pos (show nI w < 10 from nI_lt (b := 10) hw (by omega)), if_neg (nI_ne0 h0 (by omega)), hT]
    rw [h.r 3] at hl ⊢
    rw [h.r 5, h.r 1, h.r 2, h.r 4]
    by_cases c1 : M 2 w ≤ mTod M <;> by_cases c2 : mTod M < M 3 w <;> simp [hl, c1, c2]
section EQS
variable {t M : TT} {n : Nat} {pr : List Nat}
theorem ab_eq {q : Nat} (h13 : t 13 = M 13) (h10 : t 10 = M 10) (hpr : pr = prs t n) : dAb t pr q pr.length = mAb M q n :=
  sim2 (α := Int32) (β := Int32) hpr (fun a r => a + (if t 13 r = 97 ∧ t 10 r = nI q then 1 else 0)) (dAb t pr q) (fun _ => rfl) (fun a r => a + (if M 13 r = 97 then (if M 10 r = nI q then 1 else 0) else 0)) (mAb M q) (fun _ => rfl) (fun _ a b => a = b) rfl
    (fun r a b _ _ e => by
      subst e
      show a + _ = a + _
      rw [h13, h10]
      by_cases c : M 13 r = 97 <;> by_cases d : M 10 r = nI q <;> simp [c, d])
    (fun r a b _ hc e => by
      subst e
      show a = a + _
      have := isP_f hc
      rw [h13] at this
      rw [if_neg (by rw [this]; decide), Int32.add_zero])
theorem rsc_eq {q : Nat} {fl : Int32} (h13 : t 13 = M 13) (h10 : t 10 = M 10) (h18 : t 18 = M 18) (hpr : pr = prs t n) : dScore t pr q fl = mScore M n q fl :=
  sim2 (α := Int32) (β := Int32) hpr (fun a r => a + (if t 10 r = nI q then 2 else 0)) (dSc t pr q fl) (fun _ => rfl) (fun a r => a + (if M 13 r = 100 then 0 else (if M 10 r = nI q then 1 else 0))) (mSn M q) (fun _ => rfl) (fun _ a b => a = iabs (M 18 q - fl) + 2 * b)
    (by show iabs (t 18 q - fl) = _ + 2 * 0; rw [h18, Int32.mul_zero, Int32.add_zero])
    (fun r a b _ hc e => by
      show a + _ = _ + 2 * (b + _)
      have h1 := isP_t.mp hc
      rw [h13] at h1
      rw [e, h10, if_neg h1]
      by_cases d : M 10 r = nI q
      · rw [if_pos d, if_pos d, Int32.mul_add, Int32.mul_one, Int32.add_assoc]
      · rw [if_neg d, if_neg d, Int32.add_zero, Int32.add_zero])
    (fun r a b _ hc e => by
      show a = _ + 2 * (b + _)
      have := isP_f hc
      rw [h13] at this
      rw [if_pos this, Int32.add_zero]
      exact e)
theorem bst_eq {fl : Int32} (h13 : t 13 = M 13) (h10 : t 10 = M 10) (h18 : t 18 = M 18) (h20 : t 20 = M 20) (hpr : pr = prs t n) : ∀ k, dBst t pr fl k = mBst M n fl k
  | 0 => rfl
  | k + 1 => by
    rw [dBst, mBst, bst_eq h13 h10 h18 h20 hpr k, h20]
    cases mBst M n fl k with
    | none => rfl
    | some b => simp only [rsc_eq h13 h10 h18 hpr]
theorem exB_pr {P : Nat → Bool} (p q : Nat → Bool) (hpr : pr = (List.range n).filter P) (h1 : ∀ r, r < n → P r = true → p r = q r) (h2 : ∀ r, r < n → P r = false → q r = false) : exB (fun i => p (pg pr i)) pr.length = exB q n :=
  sim2 (α := Bool) (β := Bool) hpr (fun a r => a || p r) (exB (fun i => p (pg pr i))) (fun _ => rfl) (fun a r => a || q r) (exB q) (fun _ => rfl) (fun _ a b => a = b) rfl
    (fun r a b hr hc e => by subst e; show (a || p r) = (a || q r); rw [h1 r hr hc])
    (fun r a b hr hc e => by subst e; show a = (a || q r); rw [h2 r hr hc, Bool.or_false])
theorem has_eq {b : Nat} (h13 : t 13 = M 13) (h7 : t 7 = M 7) (hpr : pr = prs t n) : dHas t pr b pr.length = mIsOut M b n :=
  exB_pr (fun r => decide (t 7 r = nI b)) (fun r => decide (M 7 r = nI b) && !decide (M 13 r = 100)) hpr
    (fun r _ hc => by
      have h1 := isP_t.mp hc
      rw [h13] at h1
      show decide (t 7 r = nI b) = _
      rw [h7]
      simp [h1])
    (fun r _ hc => by
      have h1 := isP_f hc
      rw [h13] at h1
      show (_ && _) = false
      simp [h1])
theorem wt_eq {f : Int32} (h13 : t 13 = M 13) (h8 : t 8 = M 8) (hpr : pr = prs t n) : dWt t pr f = mWaitsOn M n f :=
  exB_pr (fun r => decide (t 13 r = 119) && decide (t 8 r = f)) (fun r => decide (M 13 r = 119) && decide (M 8 r = f)) hpr
    (fun r _ hc => by show (_ && _) = (_ && _); rw [h13, h8])
    (fun r _ hc => by
      have h1 := isP_f hc
      rw [h13] at h1
      show (_ && _) = false
      rw [h1]
      simp)
theorem tn_eq (h13 : t 13 = M 13) (h8 : t 8 = M 8) (h60 : t 60 0 = M 26 0) (hpr : pr = prs t n) : ∀ m k, dTn t pr m k = mTn M n m k
  | 0, _ => rfl
  | m + 1, k => by rw [dTn, mTn, h60, wt_eq h13 h8 hpr, wt_eq h13 h8 hpr, tn_eq h13 h8 h60 hpr m (k + 1)]
end EQS
