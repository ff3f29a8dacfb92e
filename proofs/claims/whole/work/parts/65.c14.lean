/-! ===== what spread brings: the greatest sums ===== -/
theorem cFur_le (u : cc_U) (b : Nat) (s0 : Int) : ∀ (L : List Nat) (g : Nat → Int) (q : Nat), g q ≤ cFur u b s0 L g q
  | [], g, q => Int.le_refl _
  | n :: L, g, q => by
    refine Int.le_trans ?_ (cFur_le u b s0 L _ q)
    split
    · rename_i h
      unfold px_upN
      split
      · rename_i e; rw [e]; exact Int.le_of_lt h.2
      · exact Int.le_refl _
    · exact Int.le_refl _
theorem cFur_why (u : cc_U) (b : Nat) (s0 : Int) : ∀ (L : List Nat) (g : Nat → Int) (q : Nat), cFur u b s0 L g q = g q ∨ ∃ n ∈ L, cn u 3 n 2 = q ∧ (b = 0 ∨ cn u 2 q 2 = b) ∧ cFur u b s0 L g q = s0 + cz u 3 n 0
  | [], g, q => Or.inl rfl
  | n :: L, g, q => by
    rcases cFur_why u b s0 L (if (b = 0 ∨ cn u 2 (cn u 3 n 2) 2 = b) ∧ g (cn u 3 n 2) < s0 + cz u 3 n 0 then px_upN g (cn u 3 n 2) (s0 + cz u 3 n 0) else g) q with h | ⟨m, h1, h2⟩
    · have h' : cFur u b s0 (n :: L) g q = (if (b = 0 ∨ cn u 2 (cn u 3 n 2) 2 = b) ∧ g (cn u 3 n 2) < s0 + cz u 3 n 0 then px_upN g (cn u 3 n 2) (s0 + cz u 3 n 0) else g) q := h
      rw [h']
      split
      · rename_i hc
        unfold px_upN
        split
        · rename_i e
          exact Or.inr ⟨n, List.mem_cons_self, e.symm, by rw [e]; exact hc.1, rfl⟩
        · exact Or.inl rfl
      · exact Or.inl rfl
    · exact Or.inr ⟨m, List.mem_cons_of_mem _ h1, h2⟩
theorem cFur_ge (u : cc_U) (b : Nat) (s0 : Int) : ∀ (L : List Nat) (g : Nat → Int) (n : Nat), n ∈ L → (b = 0 ∨ cn u 2 (cn u 3 n 2) 2 = b) → s0 + cz u 3 n 0 ≤ cFur u b s0 L g (cn u 3 n 2)
  | [], g, n, h, _ => absurd h List.not_mem_nil
  | m :: L, g, n, h, hb => by
    rcases List.mem_cons.mp h with e | h
    · subst e
      refine Int.le_trans ?_ (cFur_le u b s0 L _ _)
      by_cases hc : g (cn u 3 n 2) < s0 + cz u 3 n 0
      · rw [if_pos ⟨hb, hc⟩]
        unfold px_upN
        rw [if_pos rfl]
        exact Int.le_refl _
      · rw [if_neg (fun z => hc z.2)]
        omega
    · exact cFur_ge u b s0 L _ n h hb
def cSI (s : mm_S) (O : List Nat) (b p0 : Nat) (i : Nat) (f : Nat → Int) : Prop := 0 ≤ f p0 ∧ (∀ q, q < s.1 1 → f q = -8 ∨ ∃ as, mm_wk s b p0 as q ∧ mm_ln s as = f q) ∧ (∀ q, -8 ≤ f q ∧ f q ≤ 2 ^ 31) ∧ (∀ q, q < s.1 1 → 0 ≤ f q → b = 0 ∨ s.2.1 2 q = b) ∧
  ∀ j p a, j < i → O[j]? = some p → a < s.1 6 → s.2.1 3 a = p → mm_in s b a → 0 ≤ f p → f p + s.2.2 5 a ≤ f (s.2.1 4 a)
theorem cSI.step {s : mm_S} {u : cc_U} {O : List Nat} (hR : cRl s u O) (ok : mm_ok s) {b p0 i p : Nat} {f : Nat → Int} (hp : O[i]? = some p) (h : cSI s O b p0 i f) : cSI s O b p0 (i + 1) (if 0 ≤ f p then cFur u b (f p) (cOL s p) f else f) := by
  obtain ⟨h1, h2, h3, h4, h5⟩ := id h
  obtain ⟨hA, hB, hC, hD, hE, hF, hG, hH⟩ := id hR
  have hbd := ok.h1
  have hpP : p < s.1 1 := (hB.2.1 p).mp (List.mem_of_getElem? hp)
  by_cases hfp : 0 ≤ f p
  · rw [if_pos hfp]
    obtain ⟨o1, o2⟩ := hR.outs (Or.inl hpP) hbd.1
    have hle := cFur_le u b (f p) (cOL s p) f
    have hpl : ∀ n ∈ cOL s p, cn u 2 p 0 < cn u 2 (cn u 3 n 2) 0 := fun n hn => by
      have := (hR.stp ok (o2 n hn).1).2.2.2.2.2
      rw [(o2 n hn).2] at this; exact this
    have hself : cFur u b (f p) (cOL s p) f p = f p := cFur_ne fun n hn e => by
      have := hpl n hn
      rw [e] at this; exact Nat.lt_irrefl _ this
    have hearly : ∀ j p', j < i → O[j]? = some p' → cFur u b (f p) (cOL s p) f p' = f p' := fun j p' hj hp' => cFur_ne fun n hn e => by
      have := hpl n hn
      rw [e, hB.2.2.1 j p' hp', hB.2.2.1 i p hp] at this; omega
    -- an arc among the steps out
    have harc : ∀ n ∈ cOL s p, cn u 3 n 2 < s.1 1 → n < s.1 6 ∧ s.2.1 3 n = p ∧ cn u 3 n 2 = s.2.1 4 n ∧ cz u 3 n 0 = s.2.2 5 n := fun n hn hq => by
      rcases (cOL_mem (by omega)).mp hn with ⟨g1, g2, g3⟩ | ⟨g1, g2⟩
      · obtain ⟨e, rfl⟩ : ∃ e, n = 300 + e := ⟨n - 300, by omega⟩
        have := (hD.2.2.2 e (by omega)).2.2.1
        rw [this] at hq; omega
      · obtain ⟨d1, d2, d3, d4⟩ := hD.2.1 n g1
        exact ⟨g1, g2, d3, d4⟩
    have snd : ∀ q, q < s.1 1 → cFur u b (f p) (cOL s p) f q = f q ∨ ((b = 0 ∨ s.2.1 2 q = b) ∧ ∃ as, mm_wk s b p0 as q ∧ mm_ln s as = cFur u b (f p) (cOL s p) f q) := fun q hq => by
      rcases cFur_why u b (f p) (cOL s p) f q with e | ⟨n, n1, n2, n3, n4⟩
      · exact Or.inl e
      · rw [hC.2.2.1 q hq] at n3
        refine Or.inr ⟨n3, ?_⟩
        obtain ⟨a1, a2, a3, a4⟩ := harc n n1 (by rw [n2]; exact hq)
        rcases h2 p hpP with e | ⟨as, w1, w2⟩
        · omega
        · have hin : mm_in s b n := by
            rcases n3 with n3 | n3
            · exact Or.inl n3
            · refine (h4 p hpP hfp).elim Or.inl fun h9 => Or.inr ⟨by rw [a2]; exact h9, by rw [← a3, n2]; exact n3⟩
          refine ⟨as ++ [n], mm_wk_ap w1 ?_, ?_⟩
          · show n < s.1 6 ∧ _
            rw [← a2]
            refine ⟨a1, hin, rfl, ?_⟩
            show s.2.1 4 n = q
            rw [← a3]; exact n2
          · rw [mm_ln_ap, w2, n4, a4]
            show f p + (s.2.2 5 n + 0) = _
            omega
    refine ⟨by have := hle p0; omega, fun q hq => ?_, fun q => ⟨by have := hle q; have := h3 q; omega, ?_⟩, fun q hq hfq => ?_, fun j p' a hj hp' ha ha3 hin hf => ?_⟩
    · rcases snd q hq with e | ⟨-, e⟩
      · rw [e]; exact h2 q hq
      · exact Or.inr e
    · rcases cFur_why u b (f p) (cOL s p) f q with e | ⟨n, n1, n2, n3, n4⟩
      · rw [e]; exact (h3 q).2
      · rw [n4]
        have c1 := (hR.stp ok (o2 n n1).1).2.2.1
        rcases h2 p hpP with e | ⟨as, w1, w2⟩
        · omega
        · have := (mm_wk_bd ok w1).2
          omega
    · rcases snd q hq with e | ⟨e, -⟩
      · rw [e] at hfq; exact h4 q hq hfq
      · exact e
    · rcases Nat.lt_or_ge j i with g | g
      · rw [hearly j p' g hp'] at hf ⊢
        have := h5 j p' a g hp' ha ha3 hin hf
        have := hle (s.2.1 4 a)
        omega
      · obtain rfl : j = i := by omega
        obtain rfl : p' = p := Option.some.inj (hp'.symm.trans hp)
        rw [hself]
        obtain ⟨d1, d2, d3, d4⟩ := hD.2.1 a ha
        have hm : a ∈ cOL s p' := (cOL_mem (by omega)).mpr (Or.inr ⟨ha, ha3⟩)
        have := cFur_ge u b (f p') (cOL s p') f a hm (hin.elim Or.inl fun h9 => Or.inr (by rw [d3, hC.2.2.1 _ (ok.2.1 a ha).2.1]; exact h9.2))
        rw [d3, d4] at this
        exact this
  · rw [if_neg hfp]
    refine ⟨h1, h2, h3, h4, fun j p' a hj hp' ha ha3 hin hf => ?_⟩
    rcases Nat.lt_or_ge j i with g | g
    · exact h5 j p' a g hp' ha ha3 hin hf
    · obtain rfl : j = i := by omega
      obtain rfl : p' = p := Option.some.inj (hp'.symm.trans hp)
      exact absurd hf hfp
/-- what spread leaves -/
def cSp (s : mm_S) (b p0 : Nat) (f : Nat → Int) : Prop := (∀ q, q < s.1 1 → (0 ≤ f q ↔ mm_rch s b p0 q) ∧ (mm_rch s b p0 q → mm_gr s b p0 q (f q)) ∧ (¬ mm_rch s b p0 q → f q = -8)) ∧ ∀ q, -8 ≤ f q ∧ f q ≤ 2 ^ 31
theorem cSI.fin {s : mm_S} {u : cc_U} {O : List Nat} (hR : cRl s u O) (ok : mm_ok s) {b p0 : Nat} {f : Nat → Int} (hp0 : p0 < s.1 1) (h : cSI s O b p0 O.length f) : cSp s b p0 f := by
  obtain ⟨h1, h2, h3, h4, h5⟩ := id h
  have hB := hR.2.1
  have hbd := ok.h1
  refine ⟨fun q hq => ?_, h3⟩
  have gi : mm_gi s b p0 (fun q => if q < s.1 1 then f q else -8) := ⟨by simp only [if_pos hp0]; exact h1, fun q' hq' => by
    by_cases e : q' < s.1 1
    · simp only [if_pos e]; exact h2 q' e
    · simp only [if_neg e]; exact Or.inl trivial⟩
  have cl : ∀ a, a < s.1 6 → mm_in s b a → 0 ≤ (fun q => if q < s.1 1 then f q else -8) (s.2.1 3 a) → (fun q => if q < s.1 1 then f q else -8) (s.2.1 3 a) + s.2.2 5 a ≤ (fun q => if q < s.1 1 then f q else -8) (s.2.1 4 a) := fun a ha hin hf => by
    obtain ⟨b1, b2, -, -⟩ := ok.2.1 a ha
    simp only [if_pos b1, if_pos b2] at hf ⊢
    obtain ⟨j, hj⟩ := List.getElem?_of_mem ((hB.2.1 (s.2.1 3 a)).mpr b1)
    exact h5 j _ a (List.getElem?_eq_some_iff.mp hj).1 hj ha rfl hin hf
  have gr : mm_rch s b p0 q → mm_gr s b p0 q (f q) := fun hr => by
    have := gi.fin cl ok (q := q) (by omega) hr
    simp only [if_pos hq] at this
    exact this
  refine ⟨⟨fun hf => ?_, fun hr => ?_⟩, gr, fun hr => (h2 q hq).resolve_right fun ⟨as, w1, _⟩ => hr ⟨as, w1⟩⟩
  · rcases h2 q hq with e | ⟨as, w1, -⟩
    · omega
    · exact ⟨as, w1⟩
  · obtain ⟨⟨as, w1, w2⟩, -⟩ := gr hr
    have := (mm_wk_bd ok w1).1
    omega
theorem ce_sprd {s : mm_S} {u : cc_U} {X : px_M} (hX : c9 X) (ok : mm_ok s) {O : List Nat} (hR : cRl s u O) {p0 b : Nat} (hp0 : p0 < s.1 1) (hb : b ≤ 60) (hb0 : b = 0 ∨ s.2.1 2 p0 = b) : px_Met 4 0 0 mX4_spread [.inr (14, 0), .inr (2, p0), .inl (.int (px_o b))] (cc_M u X) (fun o M' => o = .inl none ∧ ∃ f, cSp s b p0 f ∧ M' = cc_M (cG u f) X) := by
  have hbd := ok.h1
  have h3 := hR.2.2.2.2.2.2.2.1
  have h := ce_spread (u := u) hX (p0 := p0) (b := b) (O := O) (OL := cOL s) (fun q => cz u 2 q 0) (cSI s O b p0) (hR.obj (by decide)) (hR.obj (by decide)) (hR.obj (by decide)) hR.1.2.1 hR.1.2.2.2.2.2 hbd.1 (by rw [hR.len]; exact hbd.1) (fun p hp => (hR.2.2.1.pn hp).1) (fun p hp => hR.cok ok ((hR.2.1.2.1 p).mp hp)) (hR.2.2.1.pn hp0).1 hb ?_ (fun i p f hp hI => hI.step hR ok hp) (fun i f hI q => by have := hI.2.2.1 q; omega)
  · rw [cG_id] at h
    refine h.mono fun o M' hq => ?_
    obtain ⟨e1, f, hf, e2⟩ := hq
    exact ⟨e1, f, hf.fin hR ok hp0, e2⟩
  · refine ⟨?_, fun q hq => ?_, fun q => ?_, fun q hq hf => ?_, fun j p a hj => absurd hj (by omega)⟩
    · unfold px_upN; rw [if_pos rfl]; exact Int.le_refl _
    · unfold px_upN
      by_cases e : q = p0
      · rw [if_pos e]
        exact Or.inr ⟨[], e.symm, rfl⟩
      · simp only [if_neg e, if_pos hq]; exact Or.inl trivial
    · unfold px_upN
      by_cases e : q = p0
      · rw [if_pos e]; omega
      · simp only [if_neg e]
        by_cases e2 : q < s.1 1
        · simp only [if_pos e2]; omega
        · simp only [if_neg e2]; exact h3 q
    · unfold px_upN at hf
      by_cases e : q = p0
      · rw [e]; exact hb0
      · simp only [if_neg e, if_pos hq] at hf
        exact absurd hf (by decide)
/-! the order anew -/
theorem px_sub2 {p q : Nat} : ∀ {L : List Nat}, [p, q].Sublist L → ∃ i j : Nat, i < j ∧ L[i]? = some p ∧ L[j]? = some q
  | [], h => by cases h
  | a :: L, h => by
    cases h with
    | cons _ h =>
      obtain ⟨i, j, h1, h2, h3⟩ := px_sub2 h
      exact ⟨i + 1, j + 1, by omega, h2, h3⟩
    | cons_cons _ h =>
      obtain ⟨j, hj⟩ := List.getElem?_of_mem (List.singleton_sublist.mp h)
      exact ⟨0, j + 1, by omega, rfl, hj⟩
theorem px_sub2' {p q : Nat} : ∀ {L : List Nat} {i j : Nat}, i < j → L[i]? = some p → L[j]? = some q → [p, q].Sublist L
  | [], i, j, _, h, _ => by simp at h
  | a :: L, 0, j, hij, h1, h2 => by
    obtain ⟨j', rfl⟩ : ∃ j', j = j' + 1 := ⟨j - 1, by omega⟩
    have e : a = p := Option.some.inj h1
    rw [e]
    exact List.Sublist.cons_cons _ (List.singleton_sublist.mpr (List.mem_of_getElem? h2))
  | a :: L, i + 1, j, hij, h1, h2 => by
    obtain ⟨j', rfl⟩ : ∃ j', j = j' + 1 := ⟨j - 1, by omega⟩
    exact List.Sublist.cons _ (px_sub2' (by omega) h1 h2)
theorem px_part {U : Nat → Bool} {O : List Nat} {p q : Nat} (h : [p, q].Sublist O) (hpq : U p = false → U q = false) : [p, q].Sublist (O.filter U ++ O.filter fun p => !U p) := by
  cases hp : U p with
  | true =>
    cases hq : U q with
    | true =>
      have := h.filter U
      simp only [List.filter_cons, hp, hq, if_true, List.filter_nil] at this
      exact this.trans (List.sublist_append_left _ _)
    | false =>
      show ([p] ++ [q]).Sublist _
      refine List.Sublist.append (List.singleton_sublist.mpr ?_) (List.singleton_sublist.mpr ?_)
      · exact List.mem_filter.mpr ⟨h.subset (by simp), hp⟩
      · exact List.mem_filter.mpr ⟨h.subset (by simp), by simp [hq]⟩
  | false =>
    have hq := hpq hp
    have := h.filter (fun p => !U p)
    simp only [List.filter_cons, hp, hq, Bool.not_false, if_true, List.filter_nil] at this
    exact this.trans (List.sublist_append_right _ _)
theorem cRl.reord {s : mm_S} {u : cc_U} {O : List Nat} (hR : cRl s u O) {O' : List Nat} {h : Nat → Nat} (hnd : O'.Nodup) (hm : ∀ p, p ∈ O' ↔ p ∈ O) (hpl : ∀ i p, O'[i]? = some p → h p = i + 1) (hn : ∀ p, p ∉ O → h p = cn u 2 p 0) (ha : ∀ a, a < s.1 6 → h (s.2.1 3 a) < h (s.2.1 4 a)) (h60 : s.1 1 ≤ 60) : cRl s (cP (cL u 14 6 (c2 O')) h) O' := by
  obtain ⟨hA, hB, hC, hD, hE, hF, hG, hH⟩ := id hR
  have r : ∀ k i j, ¬ (k = 2 ∧ j = 0) → cn (cP (cL u 14 6 (c2 O')) h) k i j = cn u k i j := fun k i j h1 => by rw [cnP _ _ _ _ _ h1, cnL]
  have z : ∀ k i j, cz (cP (cL u 14 6 (c2 O')) h) k i j = cz u k i j := fun k i j => by rw [czP, czL]
  have y : ∀ k i j, cs (cP (cL u 14 6 (c2 O')) h) k i j = cs u k i j := fun k i j => by rw [csP, csL]
  have x : ∀ k i, cx (cP (cL u 14 6 (c2 O')) h) k i ↔ cx u k i := fun k i => by rw [cxP, cxL]
  have l : ∀ k i, ¬ (k = 14 ∧ i = 6) → cl (cP (cL u 14 6 (c2 O')) h) k i = cl u k i := fun k i h1 => by rw [clP, clL, if_neg h1]
  have l6 : cl (cP (cL u 14 6 (c2 O')) h) 14 6 = c2 O' := by rw [clP, clL, if_pos ⟨rfl, rfl⟩]
  have p0 : ∀ q, cn (cP (cL u 14 6 (c2 O')) h) 2 q 0 = h q := fun q => cnP2 _ _ _
  generalize cP (cL u 14 6 (c2 O')) h = W at r z y x l l6 p0
  refine ⟨?_, ⟨hnd, fun p => (hm p).trans (hB.2.1 p), fun i p hp => by rw [p0]; exact hpl i p hp, fun a h9 => by rw [p0, p0]; exact ha a h9⟩, ?_, ?_, ?_, ?_, ?_, ?_⟩
  · unfold cRA; simp only [x, l 14 1 (by decide), l 14 2 (by decide), l 14 3 (by decide), l 14 4 (by decide), l6]; exact ⟨hA.1, hA.2.1, hA.2.2.1, hA.2.2.2.1, hA.2.2.2.2.1, trivial⟩
  · refine ⟨fun p hp => ?_, fun p hp k hk => by rw [x]; exact hC.2.1 p hp k hk, fun p hp => by rw [r 2 p 2 (by omega)]; exact hC.2.2.1 p hp, by rw [r 2 60 2 (by omega)]; exact hC.2.2.2.1, by rw [r 2 61 2 (by omega)]; exact hC.2.2.2.2.1, ?_, ?_⟩
    · unfold cPn; simp only [x, r 7 p 0 (by omega)]; exact hC.1 p hp
    · rw [p0, hn 60 (fun h9 => by have := (hB.2.1 60).mp h9; omega)]; exact hC.2.2.2.2.2.1
    · rw [p0, hn 61 (fun h9 => by have := (hB.2.1 61).mp h9; omega)]; exact hC.2.2.2.2.2.2
  · unfold cRD; simp only [x, z, fun i j => r 3 i j (by omega)]; exact hD
  · unfold cRE; simp only [fun i => l 13 i (by omega), fun i => l 12 i (by omega), fun i => r 2 i 1 (by omega)]; exact hE
  · unfold cRF; simp only [fun i j => r 14 i j (by omega)]; exact hF
  · unfold cRG; simp only [x, z, fun i j => r 6 i j (by omega), l 14 5 (by decide)]; exact hG
  · unfold cRH; simp only [z, y, fun i j => r 10 i j (by omega), fun i j => r 7 i j (by omega)]; exact hH
