/-! ===== a row comes ===== -/
abbrev mm_E : Type := Int × Nat × List Nat
def mm_key (e : mm_E) : List Nat := e.2.1 :: e.2.2.reverse
def mm_eR (e e' : mm_E) : Prop := e'.1 < e.1 ∨ e.1 = e'.1 ∧ px_cm (mm_key e) (mm_key e') = 0
def mm_eok (e : mm_E) : Prop := e.2.1 < 30 ∧ e.2.2.length ≤ 64 ∧ (∀ a ∈ e.2.2, a < 150) ∧ e.1.natAbs ≤ 2 ^ 40
def mm_en (s : mm_S) (r : Nat) (e : mm_E) : Prop := s.2.2 20 r = e.1 ∧ mm_row s e.2.1 e.2.2 r
def mm_pl (s : mm_S) (P : Nat) (L : List mm_E) : Prop := s.2.1 21 P = L.length ∧ ∀ k e, L[k]? = some e → mm_en s (40 * P + k) e
def mm_tl (s : mm_S) (b w i : Nat) : List Nat → Prop
  | [] => b = 0 ∧ w = i
  | a :: as => ∃ r', r' < 26400 ∧ r' / 440 = s.2.1 3 a ∧ b = r' + 1 ∧ w = a ∧ mm_row s i as r'
theorem mm_row_tl {s : mm_S} {i r : Nat} {as : List Nat} : mm_row s i as r ↔ mm_tl s (s.2.1 18 r) (s.2.1 19 r) i as := by cases as <;> exact Iff.rfl
theorem mm_tl.fr {s s' : mm_S} {p : Nat} (h3 : s'.2.1 3 = s.2.1 3) (hx : ∀ r, r < 26400 → r / 440 ≠ p → s'.2.1 18 r = s.2.1 18 r ∧ s'.2.1 19 r = s.2.1 19 r) {i : Nat} : ∀ {as : List Nat} {b w : Nat}, (∀ a ∈ as, s.2.1 3 a ≠ p) → mm_tl s b w i as → mm_tl s' b w i as := by
  intro as
  induction as with
  | nil => intro b w _ h; exact h
  | cons a as ih =>
    intro b w hp h
    obtain ⟨r', h1, h2, hb, hw, h4⟩ := h
    obtain ⟨e1, e2⟩ := hx r' h1 (by rw [h2]; exact hp a List.mem_cons_self)
    refine ⟨r', h1, by rw [h3]; exact h2, hb, hw, mm_row_tl.mpr ?_⟩
    rw [e1, e2]
    exact ih (fun c hc => hp c (List.mem_cons_of_mem _ hc)) (mm_row_tl.mp h4)
/-- the state but for the rows 18, 19, 20 and what is scratch -/
def mm_K (s : mm_S) (B W : Nat → Nat) (T : Nat → Int) (t : mm_S) : Prop := t.1 = s.1 ∧ (∀ k, k ≠ 18 → k ≠ 19 → k ≠ 27 → k ≠ 28 → t.2.1 k = s.2.1 k) ∧ (∀ k, k ≠ 20 → t.2.2 k = s.2.2 k) ∧ t.2.1 18 = B ∧ t.2.1 19 = W ∧ t.2.2 20 = T
theorem mm_K.B {s t : mm_S} {B W : Nat → Nat} {T : Nat → Int} (h : mm_K s B W T t) (j x : Nat) : mm_K s (px_upN B j x) W T (mm_A t 18 j x) :=
  ⟨h.1, fun k h1 h2 h3 h4 => (if_neg h1).trans (h.2.1 k h1 h2 h3 h4), h.2.2.1, by rw [mr_A0, h.2.2.2.1], (if_neg (by decide)).trans h.2.2.2.2.1, h.2.2.2.2.2⟩
theorem mm_K.W {s t : mm_S} {B W : Nat → Nat} {T : Nat → Int} (h : mm_K s B W T t) (j x : Nat) : mm_K s B (px_upN W j x) T (mm_A t 19 j x) :=
  ⟨h.1, fun k h1 h2 h3 h4 => (if_neg h2).trans (h.2.1 k h1 h2 h3 h4), h.2.2.1, (if_neg (by decide)).trans h.2.2.2.1, by rw [mr_A0, h.2.2.2.2.1], h.2.2.2.2.2⟩
theorem mr_D0 (s : mm_S) (k j : Nat) (x : Int) : (mm_D s k j x).2.2 k = px_upN (s.2.2 k) j x := if_pos rfl
theorem mm_K.T {s t : mm_S} {B W : Nat → Nat} {T : Nat → Int} (h : mm_K s B W T t) (j : Nat) (x : Int) : mm_K s B W (px_upN T j x) (mm_D t 20 j x) :=
  ⟨h.1, h.2.1, fun k h1 => (if_neg h1).trans (h.2.2.1 k h1), h.2.2.2.1, h.2.2.2.2.1, by rw [mr_D0, h.2.2.2.2.2]⟩
theorem mm_K.R {s t : mm_S} {B W : Nat → Nat} {T : Nat → Int} (h : mm_K s B W T t) (f g : Nat → Nat) : mm_K s B W T (mm_R (mm_R t 27 f) 28 g) :=
  ⟨h.1, fun k h1 h2 h3 h4 => ((if_neg h4).trans (if_neg h3)).trans (h.2.1 k h1 h2 h3 h4), h.2.2.1, ((if_neg (by decide)).trans (if_neg (by decide))).trans h.2.2.2.1, ((if_neg (by decide)).trans (if_neg (by decide))).trans h.2.2.2.2.1, h.2.2.2.2.2⟩
def mm_cq (s s' : mm_S) (P : Nat) : Prop := s'.1 = s.1 ∧ (∀ k, k ≠ 18 → k ≠ 19 → k ≠ 21 → k ≠ 27 → k ≠ 28 → s'.2.1 k = s.2.1 k) ∧ (∀ k, k ≠ 20 → s'.2.2 k = s.2.2 k) ∧ (∀ r, r < 26400 → r / 40 ≠ P → s'.2.1 18 r = s.2.1 18 r ∧ s'.2.1 19 r = s.2.1 19 r ∧ s'.2.2 20 r = s.2.2 20 r) ∧ ∀ p, p ≠ P → s'.2.1 21 p = s.2.1 21 p
def mq_come (s : mm_S) (X : px_M) (P m : Nat) (L : List mm_E) (y : mm_E) : px_Q := fun o M' => o = .inl none ∧ ∃ (s' : mm_S) (A B : List mm_E), L = A ++ B ∧ (∀ e ∈ A, mm_eR e y) ∧ (∀ e, B.head? = some e → ¬ mm_eR e y) ∧ M' = mm_M s' X ∧ mm_cq s s' P ∧ mm_pl s' P ((A ++ y :: B).take m)
/-- row j of what a place is after the row y came at k: from where it is taken -/
theorem mm_ins_get {L : List mm_E} {y : mm_E} {k m j : Nat} {e : mm_E} (hk : k ≤ L.length) (h : ((L.take k ++ y :: L.drop k).take m)[j]? = some e) : (j < k ∧ L[j]? = some e) ∨ (j = k ∧ e = y) ∨ (k < j ∧ L[j - 1]? = some e) := by
  have hl : (L.take k).length = k := by rw [List.length_take]; omega
  rw [List.getElem?_take] at h
  split at h
  · by_cases h1 : j < k
    · rw [List.getElem?_append_left (by omega), List.getElem?_take_of_lt h1] at h
      exact Or.inl ⟨h1, h⟩
    · rw [List.getElem?_append_right (by omega), hl] at h
      by_cases h2 : j = k
      · subst h2
        rw [Nat.sub_self] at h
        exact Or.inr (Or.inl ⟨rfl, (Option.some.inj h).symm⟩)
      · obtain ⟨d, hd⟩ : ∃ d, j - k = d + 1 := ⟨j - k - 1, by omega⟩
        rw [hd] at h
        replace h : (L.drop k)[d]? = some e := h
        rw [List.getElem?_drop] at h
        refine Or.inr (Or.inr ⟨by omega, ?_⟩)
        rw [show j - 1 = k + d by omega]; exact h
  · cases h
