/-! ===== ways to the sink, merged: the first k of each group ===== -/
def cKl (w w' : cW) : Prop := px_cm w.2.1 w'.2.1 = 0 ∨ w.2.1 = w'.2.1 ∧ w.2.2 < w'.2.2
def cWR (w w' : cW) : Prop := w.1 < w'.1 ∨ w.1 = w'.1 ∧ cKl w w'
theorem cKl_od : px_od cKl → px_od cWR := fun ⟨h1, h2, h3⟩ => by
  refine ⟨fun a h => ?_, fun a b c h g => ?_, fun a b h => ?_⟩
  · rcases h with h | h
    · omega
    · exact h1 a h.2
  · rcases h with h | h <;> rcases g with g | g
    · exact Or.inl (by omega)
    · exact Or.inl (by omega)
    · exact Or.inl (by omega)
    · exact Or.inr ⟨by omega, h2 a b c h.2 g.2⟩
  · rcases Int.lt_trichotomy a.1 b.1 with e | e | e
    · exact Or.inl (Or.inl e)
    · rcases h3 a b h with g | g
      · exact Or.inl (Or.inr ⟨e, g⟩)
      · exact Or.inr (Or.inr ⟨e.symm, g⟩)
    · exact Or.inr (Or.inl e)
theorem cKl_ir (a : cW) : ¬ cKl a a := by
  rintro (h | ⟨-, h⟩)
  · rw [(px_cm_eq _ _).mpr rfl] at h; cases h
  · exact Nat.lt_irrefl _ h
theorem cKl_tr {a b c : cW} (h : cKl a b) (g : cKl b c) : cKl a c := by
  rcases h with h | ⟨h, h'⟩ <;> rcases g with g | ⟨g, g'⟩
  · exact Or.inl (px_cm_tr _ _ _ h g)
  · rw [g] at h; exact Or.inl h
  · rw [← h] at g; exact Or.inl g
  · exact Or.inr ⟨h.trans g, Nat.lt_trans h' g'⟩
theorem cWR_ir (a : cW) : ¬ cWR a a := by
  rintro (h | ⟨-, h⟩)
  · omega
  · exact cKl_ir a h
theorem cWR_tr {a b c : cW} (h : cWR a b) (g : cWR b c) : cWR a c := by
  rcases h with h | h <;> rcases g with g | g
  · exact Or.inl (by omega)
  · exact Or.inl (by omega)
  · exact Or.inl (by omega)
  · exact Or.inr ⟨by omega, cKl_tr h.2 g.2⟩
theorem cWR_od : px_od cWR := by
  refine ⟨cWR_ir, fun a b c h g => cWR_tr h g, fun a b h => ?_⟩
  rcases Int.lt_trichotomy a.1 b.1 with e | e | e
  · exact Or.inl (Or.inl e)
  · have h4 := px_cm_le a.2.1 b.2.1
    rcases (show px_cm a.2.1 b.2.1 = 0 ∨ px_cm a.2.1 b.2.1 = 1 ∨ px_cm a.2.1 b.2.1 = 2 by omega) with g | g | g
    · exact Or.inl (Or.inr ⟨e, Or.inl g⟩)
    · have e2 := (px_cm_eq _ _).mp g
      rcases Nat.lt_trichotomy a.2.2 b.2.2 with e3 | e3 | e3
      · exact Or.inl (Or.inr ⟨e, Or.inr ⟨e2, e3⟩⟩)
      · exact absurd (Prod.ext e (Prod.ext e2 e3)) h
      · exact Or.inr (Or.inr ⟨e.symm, Or.inr ⟨e2.symm, e3⟩⟩)
    · exact Or.inr (Or.inr ⟨e.symm, Or.inl ((px_cm_sw _ _).mp g)⟩)
  · exact Or.inr (Or.inl e)
def cWd : cW := (0, [], 0)
section CMG
variable (L : List Nat) (cd : Nat → List cW) (st : Nat → Nat) (gr : cW → Nat) (k : Nat)
def cWy (a : Nat × Nat) : cW := (cd a.1).getD a.2 cWd
def cCt (A : List (Nat × Nat)) (g : Nat) : Nat := (A.filter fun a => gr (cWy cd a) == g).length
/-- the candidates, as they are merged -/
def cMg : Prop := L.Nodup ∧ (∀ b ∈ L, (cd b).Pairwise cWR ∧ st b ≤ (cd b).length ∧ ∀ w ∈ cd b, gr w < 8) ∧ ∀ T1 b T2, L = T1 ++ b :: T2 → ∀ c ∈ T2, ∀ w ∈ cd b, ∀ w' ∈ cd c, cKl w w'
def cMI (A : List (Nat × Nat)) (nx : Nat → Nat) : Prop :=
  (∀ a ∈ A, a.1 ∈ L ∧ st a.1 ≤ a.2 ∧ a.2 < nx a.1) ∧ (∀ b ∈ L, st b ≤ nx b ∧ nx b ≤ (cd b).length) ∧ A.Pairwise (fun a b => cWR (cWy cd a) (cWy cd b)) ∧ (∀ g, cCt cd gr A g ≤ k) ∧
  (∀ b ∈ L, ∀ r, st b ≤ r → r < nx b → (b, r) ∈ A ∨ (cCt cd gr A (gr (cWy cd (b, r))) = k ∧ ∀ a ∈ A, gr (cWy cd a) = gr (cWy cd (b, r)) → cWR (cWy cd a) (cWy cd (b, r)))) ∧
  ∀ a ∈ A, ∀ b ∈ L, ∀ r, nx b ≤ r → r < (cd b).length → cWR (cWy cd a) (cWy cd (b, r))
end CMG
section CMH
variable {L : List Nat} {cd : Nat → List cW} {st : Nat → Nat} {gr : cW → Nat} {k : Nat} {A : List (Nat × Nat)} {nx nx' : Nat → Nat}
theorem cWy_get {b r : Nat} (h : r < (cd b).length) : (cd b)[r]? = some (cWy cd (b, r)) := by
  unfold cWy
  rw [List.getD_eq_getElem?_getD, List.getElem?_eq_getElem h]; rfl
theorem cWy_mem {b r : Nat} (h : r < (cd b).length) : cWy cd (b, r) ∈ cd b := List.mem_of_getElem? (cWy_get h)
theorem cWy_lt {b r r' : Nat} (hp : (cd b).Pairwise cWR) (h : r < r') (h' : r' < (cd b).length) : cWR (cWy cd (b, r)) (cWy cd (b, r')) := by
  have e1 := cWy_get (cd := cd) (b := b) (r := r) (by omega)
  have e2 := cWy_get (cd := cd) h'
  have h1 := List.getElem?_eq_some_iff.mp e1
  have h2 := List.getElem?_eq_some_iff.mp e2
  obtain ⟨g1, g2⟩ := h1
  obtain ⟨g3, g4⟩ := h2
  rw [← g2, ← g4]
  exact List.pairwise_iff_getElem.mp hp r r' g1 g3 h
theorem cMI.beg (hM : cMg L cd st gr) : cMI L cd st gr k [] st :=
  ⟨fun a h => absurd h List.not_mem_nil, fun b hb => ⟨Nat.le_refl _, (hM.2.1 b hb).2.1⟩, List.Pairwise.nil, fun g => Nat.zero_le _, fun b hb r h1 h2 => absurd h2 (by omega), fun a h => absurd h List.not_mem_nil⟩
theorem cMI.skip (h : cMI L cd st gr k A nx) (hle : ∀ b ∈ L, nx b ≤ nx' b ∧ nx' b ≤ (cd b).length) (hf : ∀ b ∈ L, ∀ r, nx b ≤ r → r < nx' b → k ≤ cCt cd gr A (gr (cWy cd (b, r)))) : cMI L cd st gr k A nx' := by
  obtain ⟨h1, h2, h3, h4, h5, h6⟩ := h
  refine ⟨fun a ha => ?_, fun b hb => ?_, h3, h4, fun b hb r g1 g2 => ?_, fun a ha b hb r g1 g2 => ?_⟩
  · obtain ⟨g1, g2, g3⟩ := h1 a ha
    exact ⟨g1, g2, Nat.lt_of_lt_of_le g3 (hle _ g1).1⟩
  · have := h2 b hb
    have := hle b hb
    omega
  · rcases Nat.lt_or_ge r (nx b) with g3 | g3
    · exact h5 b hb r g1 g3
    · have := hle b hb
      exact Or.inr ⟨Nat.le_antisymm (h4 _) (hf b hb r g3 g2), fun a ha _ => h6 a ha b hb r g3 (by omega)⟩
  · exact h6 a ha b hb r (by have := hle b hb; omega) g2
theorem cCt_app (cd : Nat → List cW) (gr : cW → Nat) (A : List (Nat × Nat)) (x : Nat × Nat) (g : Nat) : cCt cd gr (A ++ [x]) g = cCt cd gr A g + (if gr (cWy cd x) = g then 1 else 0) := by
  unfold cCt
  rw [List.filter_append, List.length_append]
  congr 1
  by_cases e : gr (cWy cd x) = g
  · rw [if_pos e]; simp [e]
  · rw [if_neg e]; simp [e]
theorem cMI.take (hM : cMg L cd st gr) (h : cMI L cd st gr k A nx) {b : Nat} {T1 T2 : List Nat} (hL : L = T1 ++ b :: T2) (hb : nx b < (cd b).length) (hc : cCt cd gr A (gr (cWy cd (b, nx b))) < k) (hm1 : ∀ m ∈ T1, nx m < (cd m).length → (cWy cd (b, nx b)).1 < (cWy cd (m, nx m)).1) (hm2 : ∀ m ∈ T2, nx m < (cd m).length → (cWy cd (b, nx b)).1 ≤ (cWy cd (m, nx m)).1) :
    cMI L cd st gr k (A ++ [(b, nx b)]) (px_upN nx b (nx b + 1)) := by
  obtain ⟨h1, h2, h3, h4, h5, h6⟩ := h
  have hbL : b ∈ L := by rw [hL]; simp
  have upb : px_upN nx b (nx b + 1) b = nx b + 1 := if_pos rfl
  have upn : ∀ m, m ≠ b → px_upN nx b (nx b + 1) m = nx m := fun m hm => if_neg hm
  have hge : ∀ m, nx m ≤ px_upN nx b (nx b + 1) m := fun m => by
    by_cases e : m = b
    · rw [e, upb]; omega
    · rw [upn m e]; exact Nat.le_refl _
  have minw : ∀ m ∈ L, m ≠ b → nx m < (cd m).length → cWR (cWy cd (b, nx b)) (cWy cd (m, nx m)) := fun m hm hne hl => by
    have hm' := hm
    rw [hL] at hm'
    rcases List.mem_append.mp hm' with g | g
    · exact Or.inl (hm1 m g hl)
    · rcases List.mem_cons.mp g with g | g
      · exact absurd g hne
      · have g1 := hm2 m g hl
        rcases Int.lt_or_eq_of_le g1 with g2 | g2
        · exact Or.inl g2
        · exact Or.inr ⟨g2, hM.2.2 T1 b T2 hL m g _ (cWy_mem hb) _ (cWy_mem hl)⟩
  refine ⟨fun a ha => ?_, fun m hm => ?_, ?_, fun g => ?_, fun m hm r g1 g2 => ?_, fun a ha m hm r g1 g2 => ?_⟩
  · rcases List.mem_append.mp ha with g | g
    · obtain ⟨g1, g2, g3⟩ := h1 a g
      exact ⟨g1, g2, Nat.lt_of_lt_of_le g3 (hge _)⟩
    · rw [List.mem_singleton.mp g]
      exact ⟨hbL, (h2 b hbL).1, by show nx b < px_upN nx b (nx b + 1) b; rw [upb]; omega⟩
  · have := h2 m hm
    have := hge m
    by_cases e : m = b
    · have h9 := h2 b hbL
      rw [e, upb]; omega
    · rw [upn m e]; omega
  · refine List.pairwise_append.mpr ⟨h3, List.pairwise_singleton _ _, fun a ha x hx => ?_⟩
    rw [List.mem_singleton.mp hx]
    exact h6 a ha b hbL (nx b) (Nat.le_refl _) hb
  · rw [cCt_app]
    by_cases e : gr (cWy cd (b, nx b)) = g
    · rw [if_pos e]; rw [e] at hc; omega
    · rw [if_neg e]; exact h4 g
  · have old : r < nx m → (m, r) ∈ A ++ [(b, nx b)] ∨ (cCt cd gr (A ++ [(b, nx b)]) (gr (cWy cd (m, r))) = k ∧ ∀ a ∈ A ++ [(b, nx b)], gr (cWy cd a) = gr (cWy cd (m, r)) → cWR (cWy cd a) (cWy cd (m, r))) := fun g3 => by
      rcases h5 m hm r g1 g3 with g | ⟨g, g'⟩
      · exact Or.inl (List.mem_append.mpr (Or.inl g))
      · have hne : gr (cWy cd (b, nx b)) ≠ gr (cWy cd (m, r)) := fun e => by rw [e] at hc; omega
        refine Or.inr ⟨by rw [cCt_app, if_neg hne]; exact g, fun a ha e => ?_⟩
        rcases List.mem_append.mp ha with g4 | g4
        · exact g' a g4 e
        · rw [List.mem_singleton.mp g4] at e; exact absurd e hne
    by_cases e : m = b
    · subst e
      rw [upb] at g2
      rcases Nat.lt_or_ge r (nx m) with g3 | g3
      · exact old g3
      · obtain rfl : r = nx m := by omega
        exact Or.inl (by simp)
    · rw [upn m e] at g2
      exact old g2
  · have g1' : nx m ≤ r := Nat.le_trans (hge m) g1
    rcases List.mem_append.mp ha with g | g
    · exact h6 a g m hm r g1' g2
    · rw [List.mem_singleton.mp g]
      by_cases e : m = b
      · subst e
        rw [upb] at g1
        exact cWy_lt (hM.2.1 m hm).1 (by omega) g2
      · rcases Nat.lt_or_ge (nx m) r with g3 | g3
        · exact cWR_tr (minw m hm e (by omega)) (cWy_lt (hM.2.1 m hm).1 g3 g2)
        · obtain rfl : r = nx m := by omega
          exact minw m hm e g2
/-- eight groups' counts make the length -/
theorem cCt_sum (hg : ∀ a ∈ A, gr (cWy cd a) < 8) : A.length = px_sum (cCt cd gr A) 8 := by
  induction A with
  | nil => rfl
  | cons a A ih =>
    have ih1 := ih fun b hb => hg b (List.mem_cons_of_mem _ hb)
    have ha := hg a List.mem_cons_self
    have e : ∀ g, cCt cd gr (a :: A) g = cCt cd gr A g + (if gr (cWy cd a) = g then 1 else 0) := fun g => by
      unfold cCt
      by_cases e : gr (cWy cd a) = g
      · rw [if_pos e]; simp [e]
      · rw [if_neg e]; simp [e]
    have e2 : ∀ n, px_sum (cCt cd gr (a :: A)) n = px_sum (cCt cd gr A) n + (if gr (cWy cd a) < n then 1 else 0) := by
      intro n
      induction n with
      | zero => rfl
      | succ n ih =>
        show px_sum (cCt cd gr (a :: A)) n + cCt cd gr (a :: A) n = px_sum (cCt cd gr A) n + cCt cd gr A n + _
        rw [ih, e]
        by_cases e3 : gr (cWy cd a) = n
        · rw [if_pos e3, if_neg (by omega), if_pos (by omega)]; omega
        · rw [if_neg e3]
          by_cases e4 : gr (cWy cd a) < n
          · rw [if_pos e4, if_pos (by omega)]; omega
          · rw [if_neg e4, if_neg (by omega)]; omega
    rw [List.length_cons, e2, if_pos ha, ih1]
theorem cMI.full (hM : cMg L cd st gr) (h : cMI L cd st gr k A nx) (hk : k ≤ 40) (hl : A.length = 320) (g : Nat) (hg : g < 8) : cCt cd gr A g = k := by
  have h4 := h.2.2.2.1
  have hs := cCt_sum (cd := cd) (gr := gr) (A := A) fun a ha => by
    obtain ⟨g1, g2, g3⟩ := h.1 a ha
    exact (hM.2.1 _ g1).2.2 _ (cWy_mem (b := a.1) (r := a.2) (by have := (h.2.1 _ g1).2; omega))
  rw [hl] at hs
  have e : px_sum (cCt cd gr A) 8 = cCt cd gr A 0 + cCt cd gr A 1 + cCt cd gr A 2 + cCt cd gr A 3 + cCt cd gr A 4 + cCt cd gr A 5 + cCt cd gr A 6 + cCt cd gr A 7 := by simp [px_sum]
  rw [e] at hs
  have a0 := h4 0
  have a1 := h4 1
  have a2 := h4 2
  have a3 := h4 3
  have a4 := h4 4
  have a5 := h4 5
  have a6 := h4 6
  have a7 := h4 7
  rcases (show g = 0 ∨ g = 1 ∨ g = 2 ∨ g = 3 ∨ g = 4 ∨ g = 5 ∨ g = 6 ∨ g = 7 by omega) with rfl | rfl | rfl | rfl | rfl | rfl | rfl | rfl <;> omega
/-- the end: of each group the first k of all candidates -/
theorem cMI.fin (hM : cMg L cd st gr) (h : cMI L cd st gr k A nx) (hk : k ≤ 40) (he : (∀ b ∈ L, (cd b).length ≤ nx b) ∨ A.length = 320) :
    (A.map (cWy cd)).Pairwise cWR ∧ (∀ w ∈ A.map (cWy cd), gr w < 8) ∧ ∀ g, g < 8 → px_LG cWR k (fun w => gr w = g ∧ ∃ b ∈ L, ∃ r, st b ≤ r ∧ (cd b)[r]? = some w) ((A.map (cWy cd)).filter fun w => gr w == g) := by
  have hfull := h.full hM hk
  obtain ⟨h1, h2, h3, h4, h5, h6⟩ := id h
  have hin : ∀ a ∈ A, (cd a.1)[a.2]? = some (cWy cd a) := fun a ha => by
    obtain ⟨g1, g2, g3⟩ := h1 a ha
    exact cWy_get (by have := (h2 _ g1).2; omega)
  have hpw : (A.map (cWy cd)).Pairwise cWR := List.pairwise_map.mpr h3
  refine ⟨hpw, fun w hw => ?_, fun g hg => ⟨hpw.filter _, fun w hw => ?_, ?_, fun w hw hn => ?_⟩⟩
  · obtain ⟨a, ha, rfl⟩ := List.mem_map.mp hw
    exact (hM.2.1 _ (h1 a ha).1).2.2 _ (List.mem_of_getElem? (hin a ha))
  · obtain ⟨w1, w2⟩ := List.mem_filter.mp hw
    obtain ⟨a, ha, rfl⟩ := List.mem_map.mp w1
    exact ⟨by simpa using w2, a.1, (h1 a ha).1, a.2, (h1 a ha).2.1, hin a ha⟩
  · rw [List.filter_map, List.length_map]
    exact h4 g
  · obtain ⟨w1, b, hb, r, r1, r2⟩ := hw
    have hr := (List.getElem?_eq_some_iff.mp r2).1
    obtain rfl : w = cWy cd (b, r) := Option.some.inj (r2.symm.trans (cWy_get hr))
    have hnA : (b, r) ∉ A := fun hA => hn (List.mem_filter.mpr ⟨List.mem_map.mpr ⟨_, hA, rfl⟩, by simpa using w1⟩)
    have key : cCt cd gr A (gr (cWy cd (b, r))) = k ∧ ∀ a ∈ A, gr (cWy cd a) = gr (cWy cd (b, r)) → cWR (cWy cd a) (cWy cd (b, r)) := by
      rcases Nat.lt_or_ge r (nx b) with g1 | g1
      · exact (h5 b hb r r1 g1).resolve_left hnA
      · rcases he with he | he
        · have := he b hb; omega
        · exact ⟨hfull he _ (by rw [w1]; exact hg), fun a ha _ => h6 a ha b hb r g1 hr⟩
    rw [w1] at key
    refine ⟨by rw [List.filter_map, List.length_map]; exact key.1, fun x hx => ?_⟩
    obtain ⟨x1, x2⟩ := List.mem_filter.mp hx
    obtain ⟨a, ha, rfl⟩ := List.mem_map.mp x1
    exact key.2 a ha (by simpa using x2)
end CMH
