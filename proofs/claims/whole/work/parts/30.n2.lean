/-! ===== ways so far: from a start by arcs (the latest first) to a pin; how many orders are met, what time it is ===== -/
def mm_mt (s : mm_S) (p k : Nat) : Nat := mm_met (s.2.1 14) p 11 k
theorem mm_met_le (t : Nat → Nat) (p : Nat) : ∀ (f k : Nat), k ≤ 10 → mm_met t p f k ≤ 10 := by
  intro f
  induction f with
  | zero => intro k h; exact h
  | succ f ih =>
    intro k h
    rw [mm_met]
    split
    · rename_i h1; exact ih (k + 1) (by omega)
    · exact h
theorem mm_mt_le (s : mm_S) (p : Nat) {k : Nat} (h : k ≤ 10) : mm_mt s p k ≤ 10 := mm_met_le _ _ _ _ h
def mm_pv (s : mm_S) (i : Nat) : List Nat → Nat → Prop
  | [], p => i < s.1 9 ∧ s.2.1 7 i = p
  | a :: as, p => a < s.1 6 ∧ s.2.1 4 a = p ∧ mm_pv s i as (s.2.1 3 a)
def mm_pc (s : mm_S) (i : Nat) : List Nat → Nat
  | [] => mm_mt s (s.2.1 7 i) 0
  | a :: as => mm_mt s (s.2.1 4 a) (mm_pc s i as)
def mm_pt (s : mm_S) (i : Nat) : List Nat → Int
  | [] => s.2.2 8 i
  | a :: as => mm_pt s i as + s.2.2 5 a
def mm_F (s : mm_S) (p c : Nat) (e : mm_E) : Prop := mm_pv s e.2.1 e.2.2 p ∧ mm_pc s e.2.1 e.2.2 = c ∧ e.1 = mm_pt s e.2.1 e.2.2
def mm_x (s : mm_S) (a : Nat) (e : mm_E) : mm_E := (e.1 + s.2.2 5 a, e.2.1, a :: e.2.2)
theorem mm_pc_le (s : mm_S) (i : Nat) : ∀ as, mm_pc s i as ≤ 10 := by
  intro as
  induction as with
  | nil => exact mm_mt_le _ _ (Nat.zero_le _)
  | cons a as ih => exact mm_mt_le _ _ ih
theorem mm_pv.rk {s : mm_S} {rk : Nat → Nat} (hr : ∀ a, a < s.1 6 → rk (s.2.1 3 a) < rk (s.2.1 4 a)) {i : Nat} : ∀ {as : List Nat} {p : Nat}, mm_pv s i as p → i < s.1 9 ∧ (as.map (s.2.1 3)).Nodup ∧ ∀ a ∈ as, a < s.1 6 ∧ rk (s.2.1 3 a) < rk p := by
  intro as
  induction as with
  | nil => intro p h; exact ⟨h.1, List.nodup_nil, fun a h => absurd h List.not_mem_nil⟩
  | cons a as ih =>
    intro p h
    obtain ⟨h1, h2, h3⟩ := h
    obtain ⟨i0, i1, i2⟩ := ih h3
    have := hr a h1
    rw [h2] at this
    refine ⟨i0, List.nodup_cons.mpr ⟨fun z => ?_, i1⟩, fun c hc => ?_⟩
    · obtain ⟨b, hb, e⟩ := List.mem_map.mp z
      have := (i2 b hb).2
      rw [e] at this
      omega
    · rcases List.mem_cons.mp hc with e | e
      · rw [e]; exact ⟨h1, this⟩
      · have := i2 c e
        exact ⟨this.1, by omega⟩
theorem mm_pv.len {s : mm_S} (ok : mm_ok s) {i p : Nat} {as : List Nat} (h : mm_pv s i as p) : as.length ≤ 60 := by
  obtain ⟨rk, hr⟩ := ok.2.2.2.2.2.2.2
  obtain ⟨-, h1, h2⟩ := h.rk hr
  have := px_nodup_len 60 (as.map (s.2.1 3)) h1 fun a ha => by
    obtain ⟨b, hb, e⟩ := List.mem_map.mp ha
    have := (ok.2.1 b (h2 b hb).1).1
    have := ok.1.1
    omega
  rw [List.length_map] at this
  exact this
theorem mm_pt_bd {s : mm_S} (ok : mm_ok s) {i : Nat} (hi : i < s.1 9) : ∀ (as : List Nat), (∀ a ∈ as, a < s.1 6) → -8388608 ≤ mm_pt s i as ∧ mm_pt s i as ≤ 8388608 + as.length * 8388608 := by
  intro as
  induction as with
  | nil => intro _; have := ok.2.2.1 i hi; exact ⟨this.2.1, by show s.2.2 8 i ≤ 8388608 + ((0 : Nat) : Int) * 8388608; omega⟩
  | cons a as ih =>
    intro h
    have := ih fun b hb => h b (List.mem_cons_of_mem _ hb)
    have h2 := (ok.2.1 a (h a List.mem_cons_self)).2.2
    show -8388608 ≤ mm_pt s i as + s.2.2 5 a ∧ mm_pt s i as + s.2.2 5 a ≤ 8388608 + ((as.length + 1 : Nat) : Int) * 8388608
    omega
theorem mm_F.bd {s : mm_S} (ok : mm_ok s) {p c : Nat} {e : mm_E} (h : mm_F s p c e) : e.2.1 < s.1 9 ∧ e.2.2.length ≤ 60 ∧ (∀ a ∈ e.2.2, a < s.1 6) ∧ -8388608 ≤ e.1 ∧ e.1 ≤ 511705088 := by
  obtain ⟨rk, hr⟩ := ok.2.2.2.2.2.2.2
  obtain ⟨h0, h1, h2⟩ := h.1.rk hr
  have hl := h.1.len ok
  have hb := mm_pt_bd ok h0 e.2.2 fun a ha => (h2 a ha).1
  rw [← h.2.2] at hb
  exact ⟨h0, hl, fun a ha => (h2 a ha).1, by omega, by omega⟩
theorem mm_F.eok {s : mm_S} (ok : mm_ok s) {p c : Nat} {e : mm_E} (h : mm_F s p c e) : mm_eok e := by
  obtain ⟨h0, h1, h2, h3, h4⟩ := h.bd ok
  have := ok.1.2.1
  have := ok.1.2.2.1
  exact ⟨by omega, by omega, fun a ha => by have := h2 a ha; omega, by omega⟩
theorem mm_pv.fn {s : mm_S} {i p q : Nat} {as : List Nat} (h : mm_pv s i as p) (g : mm_pv s i as q) : p = q := by
  cases as with
  | nil => exact h.2.symm.trans g.2
  | cons a as => exact h.2.1.symm.trans g.2.1
theorem mm_pv.pre {s : mm_S} (ok : mm_ok s) {i p : Nat} {as bs : List Nat} (h : mm_pv s i as p) (g : mm_pv s i (bs ++ as) p) : bs = [] := by
  obtain ⟨rk, hr⟩ := ok.2.2.2.2.2.2.2
  have key : ∀ (bs : List Nat) (q : Nat), mm_pv s i (bs ++ as) q → rk p ≤ rk q ∧ (bs ≠ [] → rk p < rk q) := by
    intro bs
    induction bs with
    | nil => intro q g; rw [h.fn g]; exact ⟨Nat.le_refl _, fun z => (z rfl).elim⟩
    | cons b bs ih =>
      intro q g
      have g' : b < s.1 6 ∧ s.2.1 4 b = q ∧ mm_pv s i (bs ++ as) (s.2.1 3 b) := g
      have := (ih _ g'.2.2).1
      have h2 := hr b g'.1
      rw [g'.2.1] at h2
      exact ⟨by omega, fun _ => by omega⟩
  cases bs with
  | nil => rfl
  | cons b bs => exact absurd ((key (b :: bs) p g).2 (by simp)) (Nat.lt_irrefl _)
theorem px_cm_ap : ∀ (x y u v : List Nat), px_cm x y = 0 → (∀ z, y ≠ x ++ z) → px_cm (x ++ u) (y ++ v) = 0 := by
  intro x
  induction x with
  | nil => intro y u v _ h; exact absurd rfl (h y)
  | cons a x ih =>
    intro y u v h1 h2
    cases y with
    | nil => exact absurd h1 (by simp [px_cm])
    | cons b y =>
      replace h1 : (if a < b then 0 else if b < a then 2 else px_cm x y) = 0 := h1
      show (if a < b then 0 else if b < a then 2 else px_cm (x ++ u) (y ++ v)) = 0
      by_cases e1 : a < b
      · rw [if_pos e1]
      · rw [if_neg e1] at h1 ⊢
        by_cases e2 : b < a
        · rw [if_pos e2] at h1; exact absurd h1 (by decide)
        · rw [if_neg e2] at h1 ⊢
          refine ih y u v h1 fun z e => h2 z ?_
          rw [e, show a = b by omega]; rfl
theorem mm_key_x (s : mm_S) (a : Nat) (e : mm_E) : mm_key (mm_x s a e) = mm_key e ++ [a] := by
  show e.2.1 :: (a :: e.2.2).reverse = e.2.1 :: e.2.2.reverse ++ [a]
  rw [List.reverse_cons]; rfl
theorem mm_x_R {s : mm_S} (ok : mm_ok s) {q a : Nat} {e e' : mm_E} (h : mm_pv s e.2.1 e.2.2 q) (h' : mm_pv s e'.2.1 e'.2.2 q) (hR : mm_eR e e') : mm_eR (mm_x s a e) (mm_x s a e') := by
  rcases hR with hR | ⟨h1, h2⟩
  · refine Or.inl ?_
    show e'.1 + s.2.2 5 a < e.1 + s.2.2 5 a
    omega
  · refine Or.inr ⟨?_, ?_⟩
    · show e.1 + s.2.2 5 a = e'.1 + s.2.2 5 a
      omega
    · rw [mm_key_x, mm_key_x]
      refine px_cm_ap _ _ _ _ h2 fun z e0 => ?_
      obtain ⟨t, i, as⟩ := e
      obtain ⟨t', i', as'⟩ := e'
      have e1 : i' :: as'.reverse = i :: (as.reverse ++ z) := e0
      obtain ⟨e2, e3⟩ := List.cons.inj e1
      have e4 : as' = z.reverse ++ as := by
        have := congrArg List.reverse e3
        rw [List.reverse_reverse, List.reverse_append, List.reverse_reverse] at this
        exact this
      have hp : mm_pv s i as q := h
      have hp' : mm_pv s i' as' q := h'
      rw [e2, e4] at hp'
      have z0 := hp.pre ok hp'
      have h2' : px_cm (i :: as.reverse) (i' :: as'.reverse) = 0 := h2
      rw [e4, z0, e2, List.nil_append, (px_cm_eq _ _).mpr rfl] at h2'
      exact absurd h2' (by decide)
theorem mm_x_inj {s : mm_S} {a : Nat} {e e' : mm_E} (h : mm_x s a e = mm_x s a e') : e = e' := by
  obtain ⟨t, i, as⟩ := e
  obtain ⟨t', i', as'⟩ := e'
  have h' : (t + s.2.2 5 a, i, a :: as) = (t' + s.2.2 5 a, i', a :: as') := h
  obtain ⟨h1, h2⟩ := Prod.mk.inj h'
  obtain ⟨h3, h4⟩ := Prod.mk.inj h2
  obtain ⟨-, h5⟩ := List.cons.inj h4
  rw [h3, h5, show t = t' by omega]
/-- what is offered at a pin: its starts, and the rows of the pins before, an arc further -/
def mm_C (s : mm_S) (LL : Nat → Nat → List mm_E) (p c : Nat) (e : mm_E) : Prop := (∃ i, i < s.1 9 ∧ s.2.1 7 i = p ∧ c = mm_mt s p 0 ∧ e = (s.2.2 8 i, i, [])) ∨ ∃ a c0 e0, a < s.1 6 ∧ s.2.1 4 a = p ∧ c0 ≤ 10 ∧ e0 ∈ LL (s.2.1 3 a) c0 ∧ c = mm_mt s p c0 ∧ e = mm_x s a e0
theorem mm_C.close {s : mm_S} (ok : mm_ok s) {m p c : Nat} {LL : Nat → Nat → List mm_E} {L : List mm_E} (hLL : ∀ a, a < s.1 6 → s.2.1 4 a = p → ∀ c0, c0 ≤ 10 → px_L1 m (mm_F s (s.2.1 3 a) c0) (LL (s.2.1 3 a) c0)) (h : px_L1 m (mm_C s LL p c) L) : px_L1 m (mm_F s p c) L := by
  refine h.close (fun e he => ?_) fun e he hn => ?_
  · rcases he with ⟨i, h1, h2, h3, rfl⟩ | ⟨a, c0, e0, h1, h2, h3, h4, h5, rfl⟩
    · refine ⟨⟨h1, h2⟩, ?_, rfl⟩
      rw [h3]
      show mm_mt s (s.2.1 7 i) 0 = _
      rw [h2]
    · obtain ⟨f1, f2, f3⟩ := (hLL a h1 h2 c0 h3).2.1 e0 h4
      refine ⟨⟨h1, h2, f1⟩, ?_, ?_⟩
      · show mm_mt s (s.2.1 4 a) (mm_pc s e0.2.1 e0.2.2) = c
        rw [f2, h2, h5]
      · show e0.1 + s.2.2 5 a = mm_pt s e0.2.1 e0.2.2 + s.2.2 5 a
        rw [f3]
  · obtain ⟨t, i, as⟩ := e
    obtain ⟨f1, f2, f3⟩ := he
    cases as with
    | nil =>
      refine absurd (Or.inl ⟨i, f1.1, f1.2, ?_, ?_⟩) hn
      · rw [← f2]; show mm_mt s (s.2.1 7 i) 0 = _; rw [show s.2.1 7 i = p from f1.2]
      · rw [show t = s.2.2 8 i from f3]
    | cons a as =>
      obtain ⟨g1, g2, g3⟩ := f1
      have f3' : t = mm_pt s i as + s.2.2 5 a := f3
      have f2' : mm_mt s (s.2.1 4 a) (mm_pc s i as) = c := f2
      have hF0 : mm_F s (s.2.1 3 a) (mm_pc s i as) (mm_pt s i as, i, as) := ⟨g3, rfl, rfl⟩
      have hc0 := mm_pc_le s i as
      have hL := hLL a g1 g2 _ hc0
      have hx : ((t, i, a :: as) : mm_E) = mm_x s a (mm_pt s i as, i, as) := by rw [f3']; rfl
      have hcc : ∀ e0 ∈ LL (s.2.1 3 a) (mm_pc s i as), mm_C s LL p c (mm_x s a e0) := fun e0 he0 => Or.inr ⟨a, _, e0, g1, g2, hc0, he0, by rw [← f2', g2], rfl⟩
      have hnot : (mm_pt s i as, i, as) ∉ LL (s.2.1 3 a) (mm_pc s i as) := fun z => hn (by rw [hx]; exact hcc _ z)
      obtain ⟨q1, q2⟩ := hL.2.2.2 _ hF0 hnot
      refine ⟨(LL (s.2.1 3 a) (mm_pc s i as)).map (mm_x s a), ?_, by rw [List.length_map]; exact q1, fun x hx' => ?_⟩
      · refine List.nodup_iff_pairwise_ne.mpr (List.pairwise_map.mpr (hL.nd.imp fun {u v} huv z => huv (mm_x_inj z)))
      · obtain ⟨e0, he0, rfl⟩ := List.mem_map.mp hx'
        refine ⟨hcc e0 he0, ?_⟩
        rw [hx]
        exact mm_x_R ok (hL.2.1 e0 he0).1 g3 (q2 e0 he0)
