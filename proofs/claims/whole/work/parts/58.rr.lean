/-! the log: what a look through the entries finds -/
def dTg (t : TT) (r : Nat) : Nat → Nat → Int32 → Bool × Int32
  | 0, _, c => (false, c)
  | n + 1, i, c => if t 50 i = nI r then (if t 51 i = 119 then dTg t r n (i + 1) (t 52 i) else (true, t 52 i - c)) else dTg t r n (i + 1) c
theorem dTf_g {t : TT} {r : Nat} : ∀ n i c, dTf t r n i c = if (dTg t r n i c).1 = true then (dTg t r n i c).2 else t 23 0 - (dTg t r n i c).2
  | 0, _, _ => rfl
  | n + 1, i, c => by
    rw [dTf, dTg]
    by_cases h1 : t 50 i = nI r
    · by_cases h2 : t 51 i = 119
      · rw [if_pos h1, if_pos h2, if_pos h1, if_pos h2, dTf_g n]
      · rw [if_pos h1, if_neg h2, if_pos h1, if_neg h2]; rfl
    · rw [if_neg h1, if_neg h1, dTf_g n]
theorem dTg_cg {t t2 : TT} {r : Nat} : ∀ n i c, (∀ j, i ≤ j → j < i + n → t2 50 j = t 50 j ∧ t2 51 j = t 51 j ∧ t2 52 j = t 52 j) → dTg t2 r n i c = dTg t r n i c
  | 0, _, _, _ => rfl
  | n + 1, i, c, h => by
    obtain ⟨h1, h2, h3⟩ := h i (Nat.le_refl _) (by omega)
    have ih := fun c2 => dTg_cg (t := t) (t2 := t2) (r := r) n (i + 1) c2 (fun j a b => h j (by omega) (by omega))
    rw [dTg, dTg, h1, h2, h3, ih, ih]
def lgN (s : Bool × Int32) (c : Prop) [Decidable c] (st tm : Int32) : Bool × Int32 := if s.1 = true then s else if c then (if st = 119 then (false, tm) else (true, tm - s.2)) else s
theorem dTg_app {t : TT} {r : Nat} : ∀ n i c, dTg t r (n + 1) i c = lgN (dTg t r n i c) (t 50 (i + n) = nI r) (t 51 (i + n)) (t 52 (i + n))
  | 0, i, c => by simp [dTg, lgN]
  | n + 1, i, c => by
    have e : i + (n + 1) = i + 1 + n := by omega
    have h0 : ∀ m c, dTg t r (m + 1) i c = if t 50 i = nI r then (if t 51 i = 119 then dTg t r m (i + 1) (t 52 i) else (true, t 52 i - c)) else dTg t r m (i + 1) c := fun _ _ => rfl
    rw [h0 (n + 1) c, h0 n c, e]
    by_cases h1 : t 50 i = nI r
    · by_cases h2 : t 51 i = 119
      · rw [if_pos h1, if_pos h2, if_pos h1, if_pos h2, dTg_app n]
      · rw [if_pos h1, if_neg h2, if_pos h1, if_neg h2, lgN, if_pos rfl]
    · rw [if_neg h1, if_neg h1, dTg_app n]
/-- a note of the rider r0 behind ne entries -/
theorem dTg_note {t : TT} {ne r r0 : Nat} {c : Int32} (hr : r < 1000) (hr0 : r0 < 1000) : dTg (dNote t ne r0) r (ne + 1) 0 c = lgN (dTg t r ne 0 c) (r0 = r) (t 13 r0) (t 23 0) := by
  have h50 : dNote t ne r0 50 ne = nI r0 := by unfold dNote; rw [tu_k (by decide), tu_k (by decide), tu_s]
  have h51 : dNote t ne r0 51 ne = t 13 r0 := by unfold dNote; rw [tu_k (by decide), tu_s]
  have h52 : dNote t ne r0 52 ne = t 23 0 := by unfold dNote; rw [tu_s]
  rw [dTg_app, Nat.zero_add, h50, h51, h52]
  rw [dTg_cg (t := t) ne 0 c (fun j _ hj => by
    have hj2 : j ≠ ne := by omega
    unfold dNote
    refine ⟨?_, ?_, ?_⟩
    · rw [tu_k (by decide), tu_k (by decide), tu_i hj2]
    · rw [tu_k (by decide), tu_i hj2, tu_k (by decide)]
    · rw [tu_i hj2, tu_k (by decide), tu_k (by decide)])]
  unfold lgN
  simp only [nI_eq (show r0 < 2 ^ 31 by omega) (show r < 2 ^ 31 by omega)]
def lgE (M : TT) (r : Nat) : Bool × Int32 := if M 13 r = 119 then (false, M 11 r) else (true, M 12 r - M 11 r)
/-! what both sides keep to -/
def RBr (t : TT) (nb nl r : Nat) : Prop := (t 13 r = 119 ∨ t 13 r = 97 ∨ t 13 r = 100) ∧ (∃ b, b < nb ∧ t 7 r = nI b) ∧ (∃ f, f < 10 ∧ t 8 r = nI f) ∧ (∃ f, f < 10 ∧ t 9 r = nI f) ∧ (t 10 r = -1 ∨ ∃ q, q < nl ∧ t 10 r = nI q) ∧ (t 13 r = 97 → ∃ q, q < nl ∧ t 10 r = nI q)
def RCl (t : TT) (nr l : Nat) : Prop := (∃ w, w < 10 ∧ t 18 l = nI w) ∧ (∃ c, c ≤ 4 ∧ t 17 l = nI c ∧ cA t l nr ≤ c) ∧ (t 20 l = 115 ∨ t 20 l = 111 ∨ t 20 l = 99) ∧ (t 20 l = 99 → ∃ k, 1 ≤ k ∧ k ≤ 20 ∧ t 19 l = nI k) ∧ (t 21 l = 0 ∨ t 21 l = 1)
def RZ (t : TT) (nb nl : Nat) : Prop := (∀ l, nl ≤ l → t 18 l = 0 ∧ t 19 l = 0) ∧ (∀ b, nb ≤ b → t 5 b = 0) ∧ (∀ b, b < nb → t 5 b = 0 ∨ t 5 b = 1) ∧ (∀ f, f < 10 → ∃ e, 1 ≤ e ∧ e ≤ 100 ∧ t 3 f = nI e)
def RA (t M : TT) : Prop := (t 60 0 = -1 ∧ M 27 0 = 0) ∨ (∃ f, f < 10 ∧ t 60 0 = nI f ∧ M 27 0 = 1 ∧ M 26 0 = nI f)
def RN (nb nl nr ne : Nat) (pr : List Nat) (M : TT) : Prop := M 6 0 = nI nb ∧ M 14 0 = nI nr ∧ M 22 0 = nI nl ∧ M 15 0 = nI ne ∧ M 16 0 = nI (nr - pr.length)
def RW (t M : TT) (nr : Nat) : Prop := ∀ r, r < nr → t 40 r = mWb M r
def RLg (t M : TT) (nr ne : Nat) : Prop := ∀ r, r < 1000 → ∀ c, dTg t r ne 0 c = if r < nr then lgE M r else (false, c)
def RS (nb nl nr ne : Nat) (pr : List Nat) (t : TT) : Prop := nb ≤ 8 ∧ nl ≤ 3 ∧ nr ≤ 30 ∧ ne + dPh (t 13) pr ≤ 3 * nr
def RR (nb nl nr ne : Nat) (pr : List Nat) (t M : TT) : Prop :=
  RE t M ∧ RN nb nl nr ne pr M ∧ pr = prs t nr ∧ RS nb nl nr ne pr t ∧ (∀ r, r < nr → RBr t nb nl r) ∧ (∀ l, l < nl → RCl t nr l) ∧ RZ t nb nl ∧ RA t M ∧ RW t M nr ∧ RLg t M nr ne
theorem RBr.cg {t t2 : TT} {nb nl r : Nat} (h : RBr t nb nl r) (e7 : t2 7 r = t 7 r) (e8 : t2 8 r = t 8 r) (e9 : t2 9 r = t 9 r) (e10 : t2 10 r = t 10 r) (e13 : t2 13 r = t 13 r) : RBr t2 nb nl r := by
  unfold RBr at h ⊢
  rw [e7, e8, e9, e10, e13]; exact h
theorem RCl.cg {t t2 : TT} {nr l : Nat} (h : RCl t nr l) (e17 : t2 17 l = t 17 l) (e18 : t2 18 l = t 18 l) (e19 : t2 19 l = t 19 l) (e20 : t2 20 l = t 20 l) (e21 : t2 21 l = t 21 l) (hc : cA t2 l nr ≤ cA t l nr) : RCl t2 nr l := by
  unfold RCl at h ⊢
  rw [e17, e18, e19, e20, e21]
  obtain ⟨h1, ⟨c, c1, c2, c3⟩, h3⟩ := h
  exact ⟨h1, ⟨c, c1, c2, Nat.le_trans hc c3⟩, h3⟩
theorem RZ.cg {t t2 : TT} {nb nl : Nat} (h : RZ t nb nl) (e3 : t2 3 = t 3) (e5 : t2 5 = t 5) (e18 : ∀ l, nl ≤ l → t2 18 l = t 18 l) (e19 : ∀ l, nl ≤ l → t2 19 l = t 19 l) : RZ t2 nb nl := by
  obtain ⟨h1, h2, h3, h4⟩ := h
  exact ⟨fun l hl => by rw [e18 l hl, e19 l hl]; exact h1 l hl, by rw [e5]; exact h2, by rw [e5]; exact h3, by rw [e3]; exact h4⟩
theorem RA.cg {t t2 M M2 : TT} (h : RA t M) (e60 : t2 60 0 = t 60 0) (e27 : M2 27 0 = M 27 0) (e26 : M2 26 0 = M 26 0) : RA t2 M2 := by
  unfold RA at h ⊢
  rw [e60, e27, e26]; exact h
theorem RN.cg {nb nl nr ne : Nat} {pr : List Nat} {M M2 : TT} (h : RN nb nl nr ne pr M) (e6 : M2 6 0 = M 6 0) (e14 : M2 14 0 = M 14 0) (e22 : M2 22 0 = M 22 0) (e15 : M2 15 0 = M 15 0) (e16 : M2 16 0 = M 16 0) : RN nb nl nr ne pr M2 := by
  unfold RN at h ⊢
  rw [e6, e14, e22, e15, e16]; exact h
theorem RW.cg {t t2 M M2 : TT} {nr : Nat} (h : RW t M nr) (e40 : t2 40 = t 40) (e13 : M2 13 = M 13) (e11 : M2 11 = M 11) (e12 : M2 12 = M 12) (e23 : M2 23 0 = M 23 0) : RW t2 M2 nr := fun r hr => by
  have := h r hr
  unfold mWb at this ⊢
  rw [e40, e13, e11, e12, e23]; exact this
theorem RLg.cg {t t2 M M2 : TT} {nr ne : Nat} (h : RLg t M nr ne) (e50 : t2 50 = t 50) (e51 : t2 51 = t 51) (e52 : t2 52 = t 52) (e13 : M2 13 = M 13) (e11 : M2 11 = M 11) (e12 : M2 12 = M 12) : RLg t2 M2 nr ne := fun r hr c => by
  rw [dTg_cg (t := t) ne 0 c (fun j _ _ => ⟨by rw [e50], by rw [e51], by rw [e52]⟩), h r hr c]
  unfold lgE
  rw [e13, e11, e12]
theorem cA_cg {t t2 : TT} {l : Nat} (e13 : t2 13 = t 13) (e10 : t2 10 = t 10) (n : Nat) : cA t2 l n ≤ cA t l n := cA_mono n (fun r _ a b => by rw [e13] at a; rw [e10] at b; exact ⟨a, b⟩)
theorem RS.cg {nb nl nr ne : Nat} {pr : List Nat} {t t2 : TT} (h : RS nb nl nr ne pr t) (e13 : t2 13 = t 13) : RS nb nl nr ne pr t2 := by
  unfold RS at h ⊢
  rw [e13]; exact h
section RRL
variable {nb nl nr ne : Nat} {pr : List Nat} {t M t2 M2 : TT}
theorem RR.whyE (h : RR nb nl nr ne pr t M) {b w : Nat} (hw : w < 10) : dWhy t b (nI w) = mWhy M b w := why_eq h.1 h.2.2.2.2.2.2.1.2.2.2 hw
theorem RR.lt (h : RR nb nl nr ne pr t M) {r : Nat} (hr : r ∈ pr) : r < nr := by rw [h.2.2.1] at hr; exact prs_lt hr
/-- the model's first row is of no interest -/
theorem RR.m0 (h : RR nb nl nr ne pr t M) (v : Int32) : RR nb nl nr ne pr t (tu M 0 0 v) := by
  obtain ⟨hE, hN, hp, hS, hB, hC, hZ, hA, hW, hL⟩ := h
  have e : ∀ k, k ≠ 0 → tu M 0 0 v k = M k := fun k hk => tu_r hk
  refine ⟨⟨fun k hk => ?_, ?_, ?_, ?_⟩, hN.cg ?_ ?_ ?_ ?_ ?_, hp, hS, hB, hC, hZ, hA.cg rfl ?_ ?_, hW.cg rfl ?_ ?_ ?_ ?_, hL.cg rfl rfl rfl ?_ ?_ ?_⟩
  · rw [e k (by rintro rfl; cases hk)]; exact hE.1 k hk
  all_goals rw [e _ (by decide)]
  · exact hE.2.1
  · exact hE.2.2.1
  · exact hE.2.2.2
/-- a rider who waits gets a lift, or none -/
theorem RR.s10 (h : RR nb nl nr ne pr t M) {r : Nat} {v : Int32} (hr : r < nr) (hw : t 13 r = 119) (hv : v = -1 ∨ ∃ q, q < nl ∧ v = nI q) : RR nb nl nr ne pr (tu t 10 r v) (tu M 10 r v) := by
  obtain ⟨hE, hN, hp, hS, hB, hC, hZ, hA, hW, hL⟩ := h
  have e : ∀ (T : TT) k, k ≠ 10 → tu T 10 r v k = T k := fun T k hk => tu_r hk
  refine ⟨hE.tu 10 r v, hN.cg ?_ ?_ ?_ ?_ ?_, hp.trans (prs_cg (e t 13 (by decide)).symm), hS.cg (e t 13 (by decide)), fun j hj => ?_, fun l hl => (hC l hl).cg ?_ ?_ ?_ ?_ ?_ ?_, hZ.cg ?_ ?_ ?_ ?_, hA.cg ?_ ?_ ?_, hW.cg ?_ ?_ ?_ ?_ ?_, hL.cg ?_ ?_ ?_ ?_ ?_ ?_⟩
  case refine_6 =>
    obtain ⟨b1, b2, b3, b4, b5, b6⟩ := hB j hj
    refine ⟨by rw [e t 13 (by decide)]; exact b1, by rw [e t 7 (by decide)]; exact b2, by rw [e t 8 (by decide)]; exact b3, by rw [e t 9 (by decide)]; exact b4, ?_, ?_⟩
    · by_cases c : j = r
      · subst c; rw [tu_s]; exact hv
      · rw [tu_i c]; exact b5
    · rw [e t 13 (by decide)]
      intro z
      by_cases c : j = r
      · subst c; rw [hw] at z; exact absurd z (by decide)
      · rw [tu_i c]; exact b6 z
  case refine_12 =>
    refine cA_mono nr (fun j _ a b => ?_)
    rw [e t 13 (by decide)] at a
    by_cases c : j = r
    · subst c; rw [hw] at a; exact absurd a (by decide)
    · rw [tu_i c] at b; exact ⟨a, b⟩
  all_goals first | (intro l9 _; rw [e _ _ (by decide)]) | rw [e _ _ (by decide)]
theorem RR.score (h : RR nb nl nr ne pr t M) {q : Nat} {fl : Int32} : dScore t pr q fl = mScore M nr q fl := rsc_eq (h.1.r 13) (h.1.r 10) (h.1.r 18) h.2.2.1
theorem RR.best (h : RR nb nl nr ne pr t M) {fl : Int32} (k : Nat) : dBst t pr fl k = mBst M nr fl k := bst_eq (h.1.r 13) (h.1.r 10) (h.1.r 18) (h.1.r 20) h.2.2.1 k
theorem mBst_lt {fl : Int32} {n : Nat} : ∀ k b, mBst M n fl k = some b → b < k
  | 0, b, h => by cases h
  | k + 1, b, h => by
    rw [mBst] at h
    have ih := mBst_lt (fl := fl) (n := n) k
    cases c : mBst M n fl k with
    | none =>
      rw [c] at h
      split at h
      · cases h; omega
      · cases h
    | some b2 =>
      rw [c] at h
      have := ih b2 c
      split at h
      · simp only at h
        split at h <;> cases h <;> omega
      · cases h; omega
theorem oI_ok {bo : Option Nat} (h : ∀ b, bo = some b → b < nl) : oI bo = -1 ∨ ∃ q, q < nl ∧ oI bo = nI q := by
  cases bo with
  | none => exact Or.inl rfl
  | some b => exact Or.inr ⟨b, h b rfl, rfl⟩
theorem RR.give (h : RR nb nl nr ne pr t M) {r : Nat} (hr : r < nr) (hw : t 13 r = 119) : RR nb nl nr ne pr (dGive t pr nl r) (mGives M nr nl r) := by
  unfold dGive mGives
  rw [h.best, h.1.r 8]
  exact h.s10 hr hw (oI_ok (fun b hb => mBst_lt _ b hb))
end RRL
