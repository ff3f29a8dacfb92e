/-! ===== what holds while the rows are gathered ===== -/
theorem mm_pl.fr {t t' : mm_S} {P P' : Nat} {L : List mm_E} (hc : mm_cq t t' P) (hne : P' ≠ P) (hP' : P' < 660) (hL : L.length ≤ 40) (h : mm_pl t P' L) (hF : ∀ e ∈ L, ∀ a ∈ e.2.2, t.2.1 3 a ≠ P / 11) : mm_pl t' P' L := by
  obtain ⟨c1, c2, c3, c4, c5⟩ := hc
  refine ⟨by rw [c5 P' hne]; exact h.1, fun k e he => ?_⟩
  obtain ⟨d1, d2⟩ := h.2 k e he
  have hk : k < L.length := by obtain ⟨h, -⟩ := List.getElem?_eq_some_iff.mp he; exact h
  obtain ⟨a1, a2, a3⟩ := c4 (40 * P' + k) (by omega) (by omega)
  refine ⟨a3.trans d1, mm_row_tl.mpr ?_⟩
  rw [a1, a2]
  refine (mm_row_tl.mp d2).fr (c2 3 (by decide) (by decide) (by decide) (by decide) (by decide)) fun r r1 r2 => ?_
  obtain ⟨a, ha, hr⟩ := r2
  have := hF e (List.mem_of_getElem? he) a ha
  obtain ⟨b1, b2, -⟩ := c4 r r1 (by omega)
  exact ⟨b1, b2⟩
theorem mm_pv.dn {s : mm_S} {f g : Nat → Nat} {N : Nat} (ho : mm_ord s f g N) {i : Nat} : ∀ {as : List Nat} {j : Nat}, j < N → mm_pv s i as (g j) → ∀ a ∈ as, ∃ j', j' < j ∧ g j' = s.2.1 3 a := by
  intro as
  induction as with
  | nil => intro j _ _ a h; exact absurd h List.not_mem_nil
  | cons b as ih =>
    intro j hj h a ha
    obtain ⟨h1, h2, h3⟩ := h
    obtain ⟨j', q1, q2⟩ := (ho.2.1 j hj).2.2 b h1 h2
    rcases List.mem_cons.mp ha with e | e
    · rw [e]; exact ⟨j', q1, q2⟩
    · rw [← q2] at h3
      obtain ⟨j2, w1, w2⟩ := ih (by omega) h3 a e
      exact ⟨j2, by omega, w2⟩
def mm_gq (s t : mm_S) : Prop := t.1 = s.1 ∧ (∀ k, k ≠ 18 → k ≠ 19 → k ≠ 21 → k ≠ 26 → k ≠ 27 → k ≠ 28 → k ≠ 29 → t.2.1 k = s.2.1 k) ∧ ∀ k, k ≠ 20 → t.2.2 k = s.2.2 k
theorem mm_gq.cq {s t t' : mm_S} {P : Nat} (h : mm_gq s t) (c : mm_cq t t' P) : mm_gq s t' := ⟨c.1.trans h.1, fun k h1 h2 h3 h4 h5 h6 h7 => (c.2.1 k h1 h2 h3 h5 h6).trans (h.2.1 k h1 h2 h3 h4 h5 h6 h7), fun k h1 => (c.2.2.1 k h1).trans (h.2.2 k h1)⟩
def mm_gd (s : mm_S) (m : Nat) (g : Nat → Nat) (n : Nat) (LL : Nat → Nat → List mm_E) (t : mm_S) : Prop := ∀ j, j < n → ∀ c, c ≤ 10 → mm_pl t (11 * g j + c) (LL (g j) c) ∧ px_L1 m (mm_F s (g j) c) (LL (g j) c)
def mm_g0 (g : Nat → Nat) (n : Nat) (t : mm_S) : Prop := ∀ q, q < 60 → (∀ j, j < n → g j ≠ q) → ∀ c, c ≤ 10 → t.2.1 21 (11 * q + c) = 0
def mm_gs (s : mm_S) (m : Nat) (g : Nat → Nat) (n : Nat) (LL : Nat → Nat → List mm_E) (O : Nat → mm_E → Prop) (t : mm_S) : Prop := mm_gq s t ∧ mm_gd s m g n LL t ∧ mm_g0 g (n + 1) t ∧ (∀ c, c ≤ 10 → ∃ L, mm_pl t (11 * g n + c) L ∧ px_L1 m (O c) L) ∧ t.2.1 29 = g
theorem mm_gs.congr {s t : mm_S} {m n : Nat} {g : Nat → Nat} {LL : Nat → Nat → List mm_E} {O O' : Nat → mm_E → Prop} (h : mm_gs s m g n LL O t) (hO : ∀ c e, O' c e ↔ O c e) : mm_gs s m g n LL O' t := ⟨h.1, h.2.1, h.2.2.1, fun c hc => by
  obtain ⟨L, h1, h2⟩ := h.2.2.2.1 c hc
  exact ⟨L, h1, h2.congr (hO c)⟩, h.2.2.2.2⟩
theorem mm_gs.step {s t t' : mm_S} (ok : mm_ok s) {m n : Nat} {f g : Nat → Nat} {LL : Nat → Nat → List mm_E} {O : Nat → mm_E → Prop} (h : mm_gs s m g n LL O t) (hm : m ≤ 40) (ho : mm_ord s f g (s.1 1)) (hn : n < s.1 1) (hO : ∀ c e, O c e → mm_F s (g n) c e) {c1 : Nat} {y : mm_E} (hc1 : c1 ≤ 10) (hny : ¬ O c1 y) {A B : List mm_E} (hL : px_L1 m (O c1) (A ++ B)) (hA : ∀ e ∈ A, mm_eR e y) (hB : ∀ e, B.head? = some e → ¬ mm_eR e y) (hcq : mm_cq t t' (11 * g n + c1)) (hpl : mm_pl t' (11 * g n + c1) ((A ++ y :: B).take m)) : mm_gs s m g n LL (fun c e => O c e ∨ (c = c1 ∧ e = y)) t' := by
  obtain ⟨h1, h2, h3, h4, h5⟩ := h
  have hN := ok.1.1
  have r3 : t.2.1 3 = s.2.1 3 := h1.2.1 3 (by decide) (by decide) (by decide) (by decide) (by decide) (by decide) (by decide)
  have hP : (11 * g n + c1) / 11 = g n := by omega
  have gj : ∀ j, j < s.1 1 → g j < s.1 1 := fun j hj => (ho.2.1 j hj).1
  refine ⟨h1.cq hcq, fun j hj c hc => ?_, fun q hq hj c hc => ?_, fun c hc => ?_, ?_⟩
  · obtain ⟨p1, p2⟩ := h2 j hj c hc
    have hne := ho.2.2.1 j n hj hn
    have := gj j (by omega)
    refine ⟨mm_pl.fr hcq (by omega) (by omega) (by have := p2.2.2.1; omega) p1 fun e he a ha => ?_, p2⟩
    obtain ⟨j', j1, j2⟩ := (p2.2.1 e he).1.dn ho (by omega) a ha
    rw [hP, r3, ← j2]
    exact ho.2.2.1 j' n (by omega) hn
  · have := hj n (by omega)
    rw [hcq.2.2.2.2 _ (by omega)]
    exact h3 q hq hj c hc
  · by_cases e : c = c1
    · subst e
      refine ⟨_, hpl, (hL.ins hny hA hB).congr fun e => ?_⟩
      exact ⟨fun z => z.imp id And.right, fun z => z.imp id fun z => ⟨rfl, z⟩⟩
    · obtain ⟨L, p1, p2⟩ := h4 c hc
      have := gj n hn
      refine ⟨L, mm_pl.fr hcq (by omega) (by omega) (by have := p2.2.2.1; omega) p1 fun e' he a ha => ?_, p2.congr fun e' => ⟨fun z => z.elim id fun z => (e z.1).elim, Or.inl⟩⟩
      obtain ⟨j', j1, j2⟩ := (hO c e' (p2.2.1 e' he)).1.dn ho hn a ha
      rw [hP, r3, ← j2]
      exact ho.2.2.1 j' n j1 hn
  · rw [hcq.2.1 29 (by decide) (by decide) (by decide) (by decide) (by decide)]; exact h5
/-- a pin's beginning -/
theorem mm_gs.beg {s t : mm_S} {m n : Nat} {g : Nat → Nat} {LL : Nat → Nat → List mm_E} (h1 : mm_gq s t) (h2 : mm_gd s m g n LL t) (h3 : mm_g0 g n t) (h5 : t.2.1 29 = g) (hg : g n < 60) (hne : ∀ j, j < n → g j ≠ g n) : mm_gs s m g n LL (fun _ _ => False) t :=
  ⟨h1, h2, fun q hq hj => h3 q hq fun j hjn => hj j (by omega), fun c hc => ⟨[], ⟨h3 (g n) hg hne c hc, fun k e he => by cases he⟩, px_L1.nil fun e he => he⟩, h5⟩
/-- a pin's end -/
theorem mm_gs.fin {s t : mm_S} (ok : mm_ok s) {m n : Nat} {f g : Nat → Nat} {LL : Nat → Nat → List mm_E} (ho : mm_ord s f g (s.1 1)) (hn : n < s.1 1) (h : mm_gs s m g n LL (mm_C s LL (g n)) t) : ∃ LL', mm_gd s m g (n + 1) LL' t := by
  obtain ⟨h1, h2, h3, h4, h5⟩ := h
  have hch : ∀ c, ∃ L, c ≤ 10 → mm_pl t (11 * g n + c) L ∧ px_L1 m (mm_C s LL (g n) c) L := by
    intro c
    by_cases hc : c ≤ 10
    · obtain ⟨L, q⟩ := h4 c hc
      exact ⟨L, fun _ => q⟩
    · exact ⟨[], fun z => (hc z).elim⟩
  refine ⟨fun q c => if q = g n then Classical.choose (hch c) else LL q c, fun j hj c hc => ?_⟩
  by_cases e : j = n
  · subst e
    show mm_pl t _ (if g j = g j then _ else _) ∧ px_L1 m _ (if g j = g j then _ else _)
    rw [if_pos rfl]
    obtain ⟨q1, q2⟩ := Classical.choose_spec (hch c) hc
    refine ⟨q1, mm_C.close ok (fun a a1 a2 c0 hc0 => ?_) q2⟩
    obtain ⟨i, i1, i2⟩ := (ho.2.1 j hn).2.2 a a1 a2
    rw [← i2]
    exact (h2 i i1 c0 hc0).2
  · show mm_pl t _ (if g j = g n then _ else _) ∧ px_L1 m _ (if g j = g n then _ else _)
    rw [if_neg (ho.2.2.1 j n (by omega) hn)]
    exact h2 j (by omega) c hc
