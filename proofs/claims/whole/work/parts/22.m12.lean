/-! ===== the greatest sum of delays ===== -/
theorem px_nodup_len : ∀ (n : Nat) (l : List Nat), l.Nodup → (∀ a ∈ l, a < n) → l.length ≤ n := by
  intro n
  induction n with
  | zero =>
    intro l _ h
    cases l with
    | nil => exact Nat.le_refl _
    | cons a l => exact absurd (h a List.mem_cons_self) (Nat.not_lt_zero _)
  | succ n ih =>
    intro l hn h
    have key : ∀ l : List Nat, l.Nodup → l.length ≤ (l.filter (fun a => !(a == n))).length + 1 ∧ (n ∉ l → l.length ≤ (l.filter (fun a => !(a == n))).length) := by
      intro l
      induction l with
      | nil => intro _; exact ⟨Nat.zero_le _, fun _ => Nat.le_refl _⟩
      | cons a l ihl =>
        intro hn
        obtain ⟨h1, h2⟩ := List.nodup_cons.mp hn
        obtain ⟨i1, i2⟩ := ihl h2
        by_cases e : a = n
        · subst e
          rw [List.filter_cons_of_neg (by simp)]
          exact ⟨by have := i2 h1; simp only [List.length_cons]; omega, fun z => absurd List.mem_cons_self z⟩
        · rw [List.filter_cons_of_pos (by simp [e])]
          refine ⟨by simp only [List.length_cons]; omega, fun z => ?_⟩
          have := i2 (fun z' => z (List.mem_cons_of_mem _ z'))
          simp only [List.length_cons]; omega
    have := (key l hn).1
    have h3 := ih (l.filter (fun a => !(a == n))) (hn.sublist List.filter_sublist) (fun a ha => by
      obtain ⟨ha1, ha2⟩ := List.mem_filter.mp ha
      have := h a ha1
      have : a ≠ n := fun e => by simp [e] at ha2
      omega)
    omega
/-- along a walk the ranks rise: no arc comes twice -/
theorem mm_wk_rk {s : mm_S} {b : Nat} {rk : Nat → Nat} (hr : ∀ a, a < s.1 6 → rk (s.2.1 3 a) < rk (s.2.1 4 a)) : ∀ (as : List Nat) (p q : Nat), mm_wk s b p as q → rk p ≤ rk q ∧ as.Nodup ∧ ∀ a ∈ as, a < s.1 6 ∧ rk p ≤ rk (s.2.1 3 a) ∧ rk (s.2.1 4 a) ≤ rk q := by
  intro as
  induction as with
  | nil => intro p q h; cases h; exact ⟨Nat.le_refl _, List.nodup_nil, fun a h => absurd h List.not_mem_nil⟩
  | cons a as ih =>
    intro p q h
    obtain ⟨h1, h2, h3, h4⟩ := h
    obtain ⟨i1, i2, i3⟩ := ih _ _ h4
    have := hr a h1
    rw [h3] at this
    refine ⟨by omega, List.nodup_cons.mpr ⟨fun z => ?_, i2⟩, fun a' ha => ?_⟩
    · have := (i3 a z).2.1
      rw [h3] at this; omega
    · rcases List.mem_cons.mp ha with e | e
      · subst e; exact ⟨h1, by rw [h3]; exact Nat.le_refl _, i1⟩
      · have := i3 a' e
        exact ⟨this.1, by omega, this.2.2⟩
theorem mm_wk_len {s : mm_S} (ok : mm_ok s) {b p q : Nat} {as : List Nat} (h : mm_wk s b p as q) : as.length ≤ s.1 6 ∧ as.length ≤ 150 := by
  obtain ⟨rk, hr⟩ := ok.2.2.2.2.2.2.2
  obtain ⟨-, h2, h3⟩ := mm_wk_rk hr as p q h
  have := px_nodup_len _ as h2 fun a ha => (h3 a ha).1
  have := ok.1.2.1
  omega
def mm_ln (s : mm_S) : List Nat → Int
  | [] => 0
  | a :: as => s.2.2 5 a + mm_ln s as
theorem mm_ln_ap (s : mm_S) (as bs : List Nat) : mm_ln s (as ++ bs) = mm_ln s as + mm_ln s bs := by
  induction as with
  | nil => exact (Int.zero_add _).symm
  | cons a as ih => show s.2.2 5 a + mm_ln s (as ++ bs) = s.2.2 5 a + mm_ln s as + mm_ln s bs; rw [ih]; omega
theorem mm_ln_bd {s : mm_S} (ok : mm_ok s) : ∀ (as : List Nat), (∀ a ∈ as, a < s.1 6) → 0 ≤ mm_ln s as ∧ mm_ln s as ≤ as.length * 8388608 := by
  intro as
  induction as with
  | nil => intro _; exact ⟨Int.le_refl _, by show (0 : Int) ≤ _; simp⟩
  | cons a as ih =>
    intro h
    have := ih fun b hb => h b (List.mem_cons_of_mem _ hb)
    have h2 := (ok.2.1 a (h a List.mem_cons_self)).2.2
    show 0 ≤ s.2.2 5 a + mm_ln s as ∧ s.2.2 5 a + mm_ln s as ≤ ((as.length + 1 : Nat) : Int) * 8388608
    omega
theorem mm_wk_mem {s : mm_S} {b : Nat} : ∀ {as : List Nat} {p q : Nat}, mm_wk s b p as q → ∀ a ∈ as, a < s.1 6 := by
  intro as
  induction as with
  | nil => intro p q _ a h; exact absurd h List.not_mem_nil
  | cons a as ih =>
    intro p q h c hc
    rcases List.mem_cons.mp hc with e | e
    · subst e; exact h.1
    · exact ih h.2.2.2 c e
theorem mm_wk_bd {s : mm_S} (ok : mm_ok s) {b p q : Nat} {as : List Nat} (h : mm_wk s b p as q) : 0 ≤ mm_ln s as ∧ mm_ln s as ≤ 1258291200 := by
  have h1 := mm_ln_bd ok as (mm_wk_mem h)
  have h2 := (mm_wk_len ok h).2
  omega
/-- the greatest sum from p to q inside a block -/
def mm_gr (s : mm_S) (b p q : Nat) (v : Int) : Prop := (∃ as, mm_wk s b p as q ∧ mm_ln s as = v) ∧ ∀ as, mm_wk s b p as q → mm_ln s as ≤ v
theorem mm_gr.uq {s : mm_S} {b p q : Nat} {v w : Int} (h : mm_gr s b p q v) (g : mm_gr s b p q w) : v = w := by
  obtain ⟨⟨as, h1, h2⟩, h3⟩ := h
  obtain ⟨⟨bs, g1, g2⟩, g3⟩ := g
  have := h3 bs g1
  have := g3 as h1
  omega
def mm_rdv (s : mm_S) (b p q : Nat) (v : Int) : Prop := (mm_red s b p q → mm_gr s b p q v) ∧ (¬ mm_red s b p q → v = -8)
def kc_reduced (s : mm_S) (x y z : Int32) : Nat := if ¬ px_ix x 8 then 1 else if ¬ px_ix y (s.1 1) then 1 else if ¬ px_ix z (s.1 1) then 1 else 0
def mq_reduced (s : mm_S) (X : px_M) (x y z : Int32) : px_Q := fun o M' => ∃ v : Int, (kc_reduced s x y z = 0 → mm_rdv s (px_oc x) (px_tn y) (px_tn z) v) ∧ mqd X (kc_reduced s x y z) (dz v) s o M'
theorem px_sum_lt {f g : Nat → Nat} {q : Nat} : ∀ {k : Nat}, q < k → (∀ i, i ≠ q → f i = g i) → f q < g q → px_sum f k < px_sum g k := by
  intro k
  induction k with
  | zero => intro h; omega
  | succ k ih =>
    intro h h1 h2
    show px_sum f k + f k < px_sum g k + g k
    by_cases e : k = q
    · subst e
      rw [px_sum_same (g := g) fun i hi => h1 i (by omega)]
      omega
    · have := ih (by omega) h1 h2
      rw [h1 k e]; omega
/-- what the row of greatest sums holds on the way -/
def mm_gi (s : mm_S) (b p : Nat) (g : Nat → Int) : Prop := 0 ≤ g p ∧ ∀ q, q < 60 → (g q = -8 ∨ ∃ as, mm_wk s b p as q ∧ mm_ln s as = g q)
theorem mm_gi.bd {s : mm_S} (ok : mm_ok s) {b p : Nat} {g : Nat → Int} (h : mm_gi s b p g) {q : Nat} (hq : q < 60) : -8 ≤ g q ∧ g q ≤ 1258291200 := by
  rcases h.2 q hq with e | ⟨as, h1, h2⟩
  · omega
  · have := mm_wk_bd ok h1; omega
theorem mm_gi.fin {s : mm_S} {b p q : Nat} {g : Nat → Int} (h : mm_gi s b p g) (hc : ∀ a, a < s.1 6 → mm_in s b a → 0 ≤ g (s.2.1 3 a) → g (s.2.1 3 a) + s.2.2 5 a ≤ g (s.2.1 4 a)) (ok : mm_ok s) (hq : q < 60) (hr : mm_rch s b p q) : mm_gr s b p q (g q) := by
  have key : ∀ (as : List Nat) (r : Nat), 0 ≤ g r → mm_wk s b r as q → g r + mm_ln s as ≤ g q := by
    intro as
    induction as with
    | nil => intro r h0 h1; cases h1; show g q + 0 ≤ g q; omega
    | cons a as ih =>
      intro r h0 h1
      obtain ⟨h1, h2, h3, h4⟩ := h1
      subst h3
      have h5 := hc a h1 h2 h0
      have h6 := (ok.2.1 a h1).2.2.1
      have := ih _ (by omega) h4
      show _ + (s.2.2 5 a + mm_ln s as) ≤ _
      omega
  obtain ⟨as, ha⟩ := hr
  have h0 := key as p h.1 ha
  have h1 := (mm_wk_bd ok ha).1
  have hp := h.1
  refine ⟨?_, fun bs hb => by have := key bs p h.1 hb; omega⟩
  rcases h.2 q hq with e | e
  · omega
  · exact e
