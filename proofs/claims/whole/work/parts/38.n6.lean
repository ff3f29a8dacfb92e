/-! ===== the ways of a group; what the whole list is ===== -/
def mm_Fu (s : mm_S) (g : Nat) (x : mm_P) : Prop := x.2.2.2 < s.1 13 ∧ s.2.1 12 x.2.2.2 = g ∧ mm_F s (s.2.1 10 x.2.2.2) 10 (mm_pe s x)
def mm_mk (s : mm_S) (e : Nat) (e0 : mm_E) : mm_P := (s.2.2 11 e - e0.1, e0.2.1, e0.2.2, e)
theorem mm_pe_mk (s : mm_S) (e : Nat) (e0 : mm_E) : mm_pe s (mm_mk s e e0) = e0 := by
  refine Prod.ext ?_ rfl
  show s.2.2 11 e - (s.2.2 11 e - e0.1) = e0.1
  omega
theorem mm_mk_pe (s : mm_S) (x : mm_P) : mm_mk s x.2.2.2 (mm_pe s x) = x := by
  refine Prod.ext ?_ rfl
  show s.2.2 11 x.2.2.2 - (s.2.2 11 x.2.2.2 - x.1) = x.1
  omega
theorem mm_mk_R {s : mm_S} {e : Nat} {e0 e1 : mm_E} (h : mm_eR e0 e1) : mm_pR (mm_mk s e e0) (mm_mk s e e1) := by
  rcases h with h | ⟨h1, h2⟩
  · refine Or.inl ?_
    show s.2.2 11 e - e0.1 < s.2.2 11 e - e1.1
    omega
  · refine Or.inr ⟨?_, Or.inl h2⟩
    show s.2.2 11 e - e0.1 = s.2.2 11 e - e1.1
    omega
theorem mm_mk_inj {s : mm_S} {e e' : Nat} {e0 e1 : mm_E} (h : mm_mk s e e0 = mm_mk s e' e1) : e = e' ∧ e0 = e1 := by
  have h1 : e = e' := congrArg (fun x : mm_P => x.2.2.2) h
  subst h1
  refine ⟨rfl, ?_⟩
  rw [← mm_pe_mk s e e0, h, mm_pe_mk]
def mm_OG (s : mm_S) (LL : Nat → Nat → List mm_E) (g e r : Nat) (x : mm_P) : Prop := ∃ e' r' e0, (e' < e ∨ e' = e ∧ r' < r) ∧ e' < s.1 13 ∧ s.2.1 12 e' = g ∧ (LL (s.2.1 10 e') 10)[r']? = some e0 ∧ x = mm_mk s e' e0
theorem mm_OG.close {s : mm_S} (ok : mm_ok s) {m g : Nat} {LL : Nat → Nat → List mm_E} (hLL : ∀ q, q < s.1 1 → px_L1 m (mm_F s q 10) (LL q 10)) {S : List mm_P} (h : px_LG mm_pR m (mm_OG s LL g (s.1 13) 0) S) : px_LG mm_pR m (mm_Fu s g) S := by
  refine px_LG.close mm_pR_od h (fun x hx => ?_) fun x hx hn => ?_
  · obtain ⟨e', r', e0, h1, h2, h3, h4, rfl⟩ := hx
    refine ⟨h2, h3, ?_⟩
    rw [mm_pe_mk]
    exact (hLL _ (ok.2.2.2.1 e' h2).1).2.1 e0 (List.mem_of_getElem? h4)
  · obtain ⟨h1, h2, h3⟩ := hx
    have hq := (ok.2.2.2.1 _ h1).1
    have hL := hLL _ hq
    have hc : ∀ e0 ∈ LL (s.2.1 10 x.2.2.2) 10, mm_OG s LL g (s.1 13) 0 (mm_mk s x.2.2.2 e0) := by
      intro e0 he0
      obtain ⟨r', hr'⟩ := List.getElem?_of_mem he0
      exact ⟨_, r', e0, Or.inl h1, h1, h2, hr', rfl⟩
    have hnot : mm_pe s x ∉ LL (s.2.1 10 x.2.2.2) 10 := fun z => hn (by have := hc _ z; rw [mm_mk_pe] at this; exact this)
    obtain ⟨q1, q2⟩ := hL.2.2.2 _ h3 hnot
    refine ⟨(LL (s.2.1 10 x.2.2.2) 10).map (mm_mk s x.2.2.2), ?_, by rw [List.length_map]; exact q1, fun z hz => ?_⟩
    · exact List.nodup_iff_pairwise_ne.mpr (List.pairwise_map.mpr (hL.nd.imp fun {u v} huv z => huv (mm_mk_inj z).2))
    · obtain ⟨e0, he0, rfl⟩ := List.mem_map.mp hz
      refine ⟨hc e0 he0, ?_⟩
      have := mm_mk_R (s := s) (e := x.2.2.2) (q2 e0 he0)
      rw [mm_mk_pe] at this
      exact this
theorem mm_OG.new {s : mm_S} {m g e r : Nat} {LL : Nat → Nat → List mm_E} {e0 : mm_E} (hL : px_L1 m (mm_F s (s.2.1 10 e) 10) (LL (s.2.1 10 e) 10)) (he0 : (LL (s.2.1 10 e) 10)[r]? = some e0) : ¬ mm_OG s LL g e r (mm_mk s e e0) := by
  rintro ⟨e', r', e1, h1, h2, h3, h4, h5⟩
  obtain ⟨q1, q2⟩ := mm_mk_inj h5
  subst q1 q2
  obtain ⟨k1, -⟩ := List.getElem?_eq_some_iff.mp he0
  have := (List.getElem?_inj k1 hL.nd).mp (he0.trans h4.symm)
  omega
/-- the list that a call of run makes -/
def mm_sp (s : mm_S) (m : Nat) (Z : List mm_P) : Prop := Z.Pairwise mm_pR ∧ (∀ x ∈ Z, s.2.1 12 x.2.2.2 < 8) ∧ ∀ g, g < 8 → px_LG mm_pR m (mm_Fu s g) (Z.filter fun x => s.2.1 12 x.2.2.2 == g)
/-- the list of the groups before g -/
def mm_ac (s : mm_S) (m g : Nat) (A : List mm_P) : Prop := A.Nodup ∧ (∀ x ∈ A, s.2.1 12 x.2.2.2 < g) ∧ (∀ g', g' < g → px_LG mm_pR m (mm_Fu s g') (A.filter fun x => s.2.1 12 x.2.2.2 == g')) ∧ A.length ≤ 40 * g
theorem mm_ac.ext {s : mm_S} {m g : Nat} {A S : List mm_P} (hm : m ≤ 40) (h : mm_ac s m g A) (hS : px_LG mm_pR m (mm_Fu s g) S) : mm_ac s m (g + 1) (A ++ S) := by
  obtain ⟨h1, h2, h3, h4⟩ := h
  have hg : ∀ x ∈ S, s.2.1 12 x.2.2.2 = g := fun x hx => (hS.2.1 x hx).2.1
  refine ⟨?_, fun x hx => ?_, fun g' hg' => ?_, ?_⟩
  · refine List.nodup_append.mpr ⟨h1, hS.nd mm_pR_od, fun a ha b hb e => ?_⟩
    have := h2 a ha
    rw [e, hg b hb] at this
    omega
  · rcases List.mem_append.mp hx with z | z
    · have := h2 x z; omega
    · rw [hg x z]; omega
  · rw [List.filter_append]
    by_cases e : g' = g
    · subst e
      rw [List.filter_eq_nil_iff.mpr fun x hx => by have := h2 x hx; simp; omega, List.filter_eq_self.mpr fun x hx => by simp [hg x hx], List.nil_append]
      exact hS
    · rw [show S.filter (fun x => s.2.1 12 x.2.2.2 == g') = [] from List.filter_eq_nil_iff.mpr fun x hx => by rw [hg x hx]; simp; omega, List.append_nil]
      exact h3 g' (by omega)
  · have := hS.2.2.1
    rw [List.length_append]; omega
theorem mm_ac.fin {s : mm_S} {m : Nat} {A Z : List mm_P} (h : mm_ac s m 8 A) (hZ : Z.Pairwise mm_pR) (hm : ∀ x, x ∈ Z ↔ x ∈ A) : mm_sp s m Z := by
  refine ⟨hZ, fun x hx => h.2.1 x ((hm x).mp hx), fun g hg => ?_⟩
  have h3 := h.2.2.1 g hg
  rw [px_same mm_pR_od (hZ.filter _) h3.1 fun x => by rw [List.mem_filter, List.mem_filter, hm x]]
  exact h3
theorem mm_sp.uq {s : mm_S} {m : Nat} {Z Z' : List mm_P} (h : mm_sp s m Z) (h' : mm_sp s m Z') : Z = Z' := by
  have key : ∀ {Z Z' : List mm_P}, mm_sp s m Z → mm_sp s m Z' → ∀ x, x ∈ Z → x ∈ Z' := by
    intro Z Z' h h' x hx
    have hg := h.2.1 x hx
    have := px_LG.uq mm_pR_od (h.2.2 _ hg) (h'.2.2 _ hg) x (List.mem_filter.mpr ⟨hx, by simp⟩)
    exact (List.mem_filter.mp this).1
  exact px_same mm_pR_od h.1 h'.1 fun x => ⟨key h h' x, key h' h x⟩
theorem mm_ok.gq {s t : mm_S} (h : mm_ok s) (q : mm_gq s t) : mm_ok t := by
  obtain ⟨h1, h2, h3⟩ := q
  unfold mm_ok
  rw [h1, h2 2 (by decide) (by decide) (by decide) (by decide) (by decide) (by decide) (by decide), h2 3 (by decide) (by decide) (by decide) (by decide) (by decide) (by decide) (by decide), h2 4 (by decide) (by decide) (by decide) (by decide) (by decide) (by decide) (by decide), h2 7 (by decide) (by decide) (by decide) (by decide) (by decide) (by decide) (by decide), h2 10 (by decide) (by decide) (by decide) (by decide) (by decide) (by decide) (by decide), h2 12 (by decide) (by decide) (by decide) (by decide) (by decide) (by decide) (by decide), h2 14 (by decide) (by decide) (by decide) (by decide) (by decide) (by decide) (by decide), h2 15 (by decide) (by decide) (by decide) (by decide) (by decide) (by decide) (by decide), h3 5 (by decide), h3 8 (by decide), h3 11 (by decide), h3 16 (by decide)]
  exact h
