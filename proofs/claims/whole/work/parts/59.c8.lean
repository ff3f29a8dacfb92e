/-! ===== how the class's world stands to the net s ===== -/
def cPx (s : mm_S) (p : Nat) : Prop := p < s.1 1 ∨ p = 60 ∨ p = 61
def cStp (s : mm_S) (n : Nat) : Prop := n < s.1 6 ∨ (200 ≤ n ∧ n < 200 + s.1 9) ∨ (300 ≤ n ∧ n < 300 + s.1 13)
def cSt (s : mm_S) : List Nat := (List.range (s.1 9)).map (200 + ·)
def cEn (s : mm_S) (p : Nat) : List Nat := ((List.range (s.1 13)).filter fun e => s.2.1 10 e == p).map (300 + ·)
def cAr (s : mm_S) (p : Nat) : List Nat := (List.range (s.1 6)).filter fun a => s.2.1 3 a == p
def cOL (s : mm_S) (p : Nat) : List Nat := if p = 60 then cSt s else cEn s p ++ cAr s p
/-- what the object holds -/
def cRA (s : mm_S) (u : cc_U) (O : List Nat) : Prop := (∀ i, i ≤ 8 → cx u 14 i) ∧ cl u 14 1 = c2 (List.range (s.1 1)) ∧ cl u 14 2 = c3 (List.range (s.1 6)) ∧ cl u 14 3 = c3 (cSt s) ∧ cl u 14 4 = c3 ((List.range (s.1 13)).map (300 + ·)) ∧ cl u 14 6 = c2 O
/-- the places -/
def cRB (s : mm_S) (u : cc_U) (O : List Nat) : Prop := O.Nodup ∧ (∀ p, p ∈ O ↔ p < s.1 1) ∧ (∀ i p, O[i]? = some p → cn u 2 p 0 = i + 1) ∧ ∀ a, a < s.1 6 → cn u 2 (s.2.1 3 a) 0 < cn u 2 (s.2.1 4 a) 0
/-- the pins -/
def cRC (s : mm_S) (u : cc_U) : Prop := (∀ p, cPx s p → cPn u p) ∧ (∀ p, ¬ cPx s p → ∀ k, k = 2 ∨ (7 ≤ k ∧ k ≤ 13) → ¬ cx u k p) ∧ (∀ p, p < s.1 1 → cn u 2 p 2 = s.2.1 2 p) ∧ cn u 2 60 2 = 0 ∧ cn u 2 61 2 = 0 ∧ cn u 2 60 0 = 0 ∧ cn u 2 61 0 = 61
/-- the steps -/
def cRD (s : mm_S) (u : cc_U) : Prop := (∀ n, cx u 3 n ↔ cStp s n) ∧ (∀ a, a < s.1 6 → cn u 3 a 0 = a ∧ cn u 3 a 1 = s.2.1 3 a ∧ cn u 3 a 2 = s.2.1 4 a ∧ cz u 3 a 0 = s.2.2 5 a) ∧
  (∀ i, i < s.1 9 → cn u 3 (200 + i) 0 = i ∧ cn u 3 (200 + i) 1 = 60 ∧ cn u 3 (200 + i) 2 = s.2.1 7 i ∧ cz u 3 (200 + i) 0 = s.2.2 8 i) ∧
  (∀ e, e < s.1 13 → cn u 3 (300 + e) 0 = e ∧ cn u 3 (300 + e) 1 = s.2.1 10 e ∧ cn u 3 (300 + e) 2 = 61 ∧ cz u 3 (300 + e) 0 = 0 - s.2.2 11 e ∧ cn u 3 (300 + e) 3 = s.2.1 12 e)
def cInn (s : mm_S) (p n : Nat) : Prop := (n < s.1 6 ∧ s.2.1 4 n = p) ∨ (200 ≤ n ∧ n < 200 + s.1 9 ∧ s.2.1 7 (n - 200) = p)
/-- the lists of the pins -/
def cRE (s : mm_S) (u : cc_U) : Prop := (∀ p, p < s.1 1 → cl u 13 p = c3 (cOL s p) ∧ cn u 2 p 1 = (cEn s p).length) ∧ cl u 13 60 = c3 (cSt s) ∧ ∀ p, p < s.1 1 → ∃ L, cl u 12 p = c3 L ∧ L.Nodup ∧ ∀ n, n ∈ L ↔ cInn s p n
def cRF (s : mm_S) (u : cc_U) : Prop := (∀ j, j < 10 → cn u 14 7 j = s.2.1 14 j) ∧ cn u 14 0 0 = s.1 25
/-- the changes -/
def cRG (s : mm_S) (u : cc_U) : Prop := ∃ C : List Nat, cl u 14 5 = C.map (fun n => ((6, n) : px_R)) ∧ C.length = s.1 17 ∧ (∀ i n, C[i]? = some n → cx u 6 n ∧ cn u 6 n 0 = s.2.1 15 i ∧ cz u 6 n 0 = s.2.2 16 i) ∧ ∃ K, ∀ n, K ≤ n → ¬ cx u 6 n
/-- scratch -/
def cRH (s : mm_S) (u : cc_U) : Prop := (∀ q, -8 ≤ cz u 2 q 0 ∧ cz u 2 q 0 ≤ 2 ^ 31) ∧ (∀ p j r, cs u 9 p j = some r → ∃ n, r = (3, n) ∧ cStp s n) ∧ (∀ p j, cn u 10 p j ≤ 320) ∧ cn u 7 61 0 = 1 ∧ cz u 8 61 0 = 0 ∧ cs u 9 61 0 = none
def cRl (s : mm_S) (u : cc_U) (O : List Nat) : Prop := cRA s u O ∧ cRB s u O ∧ cRC s u ∧ cRD s u ∧ cRE s u ∧ cRF s u ∧ cRG s u ∧ cRH s u
/-- what is left, the arcs (a start before them), the end -/
abbrev cW : Type := Int × List Nat × Nat
def cgr (s : mm_S) (w : cW) : Nat := s.2.1 12 w.2.2
def cEx (d : Int) (n : Nat) (w : cW) : cW := (w.1 - d, n :: w.2.1, w.2.2)
def cCd (s : mm_S) (LL : Nat → List cW) (n : Nat) : List cW := if 300 ≤ n then [(s.2.2 11 (n - 300), [], n - 300)] else if 200 ≤ n then (LL (s.2.1 7 (n - 200))).map (cEx (s.2.2 8 (n - 200)) (n - 200)) else (LL (s.2.1 4 n)).map (cEx (s.2.2 5 n) n)
def cWm (x : mm_P) : cW := (x.1, mm_pk x, x.2.2.2)
/-- the rows of a pin hold these ways -/
def cHold (s : mm_S) (u : cc_U) (LL : Nat → List cW) (p : Nat) : Prop := cn u 7 p 0 = (LL p).length ∧ ∀ j w, (LL p)[j]? = some w → ∃ n, cs u 9 p j = some (3, n) ∧ n ∈ cOL s p ∧ (cCd s LL n)[cn u 10 p j]? = some w ∧ cz u 8 p j = w.1 ∧ cn u 11 p j = cgr s w
def cwv (s : mm_S) (u : cc_U) (Z : List mm_P) : Prop := ∃ LL, LL 60 = Z.map cWm ∧ cHold s u LL 60 ∧ (Z ≠ [] → ∀ q, q < s.1 1 → cHold s u LL q)
def cRW (s : mm_S) (u : cc_U) : Prop := s.1 25 ≠ 0 → ∃ Z, mm_vis s Z ∧ cwv s u Z
theorem cRW.no {s : mm_S} {u : cc_U} (h : s.1 25 = 0) : cRW s u := fun z => absurd h z
theorem cHold.eq {s : mm_S} {u u' : cc_U} {LL : Nat → List cW} {p : Nat} (h : cHold s u LL p) (h9 : ∀ j, cs u' 9 p j = cs u 9 p j) (h7 : cn u' 7 p 0 = cn u 7 p 0) (h10 : ∀ j, cn u' 10 p j = cn u 10 p j) (h11 : ∀ j, cn u' 11 p j = cn u 11 p j) (h8 : ∀ j, cz u' 8 p j = cz u 8 p j) : cHold s u' LL p := by
  unfold cHold
  simp only [h9, h7, h10, h11, h8]
  exact h
theorem cwv.eq {s : mm_S} {u u' : cc_U} {Z : List mm_P} (h : cwv s u Z) (h9 : ∀ p j, cs u' 9 p j = cs u 9 p j) (h7 : ∀ p, cn u' 7 p 0 = cn u 7 p 0) (h10 : ∀ p j, cn u' 10 p j = cn u 10 p j) (h11 : ∀ p j, cn u' 11 p j = cn u 11 p j) (h8 : ∀ p j, cz u' 8 p j = cz u 8 p j) : cwv s u' Z := by
  obtain ⟨LL, h1, h2, h3⟩ := h
  exact ⟨LL, h1, h2.eq (h9 _) (h7 _) (h10 _) (h11 _) (h8 _), fun z q hq => (h3 z q hq).eq (h9 _) (h7 _) (h10 _) (h11 _) (h8 _)⟩
theorem cRW.eq {s : mm_S} {u u' : cc_U} (h : cRW s u) (h9 : ∀ p j, cs u' 9 p j = cs u 9 p j) (h7 : ∀ p, cn u' 7 p 0 = cn u 7 p 0) (h10 : ∀ p j, cn u' 10 p j = cn u 10 p j) (h11 : ∀ p j, cn u' 11 p j = cn u 11 p j) (h8 : ∀ p j, cz u' 8 p j = cz u 8 p j) : cRW s u' := fun z => by
  obtain ⟨Z, h1, h2⟩ := h z
  exact ⟨Z, h1, h2.eq h9 h7 h10 h11 h8⟩
theorem cRW.cg {s : mm_S} {u : cc_U} (h : cRW s u) (g : Nat → Int) : cRW s (cG u g) := h.eq (fun _ _ => rfl) (fun _ => rfl) (fun _ _ => rfl) (fun _ _ => rfl) (fun _ _ => rfl)
def cok (s : mm_S) (u : cc_U) : Prop := (∃ O, cRl s u O) ∧ cRW s u
/-- a call's end: its code's exception, or its answer; the net is s' -/
def cqo (X : px_M) (xs : List String) (c : Nat) (v : px_V) (s' : mm_S) : px_Q := fun o M' => ∃ u', M' = cc_M u' X ∧ cok s' u' ∧ (c = 0 → o = .inl (some v)) ∧ (c ≠ 0 → ∃ E, xs[c - 1]? = some E ∧ o = .inr E)
theorem cqo.ok {X : px_M} {xs : List String} {c : Nat} {v : px_V} {s' : mm_S} {u' : cc_U} (h : cok s' u') (hc : c = 0) : cqo X xs c v s' (.inl (some v)) (cc_M u' X) := ⟨u', rfl, h, fun _ => rfl, fun z => absurd hc z⟩
theorem cqo.no {X : px_M} {xs : List String} {c k : Nat} {v : px_V} {s' : mm_S} {u' : cc_U} {E : String} (h : cok s' u') (hc : c = k + 1) (hE : xs[k]? = some E) : cqo X xs c v s' (.inr E) (cc_M u' X) := ⟨u', rfl, h, fun z => absurd z (by omega), fun _ => ⟨E, by rw [hc]; exact hE, rfl⟩⟩
section CRU
variable {s : mm_S} {u : cc_U} {O : List Nat}
theorem cRC.pn (h : cRC s u) {p : Nat} (hp : p < s.1 1) : cPn u p := h.1 p (Or.inl hp)
theorem cRl.obj (h : cRl s u O) {i : Nat} (hi : i ≤ 8) : cx u 14 i := h.1.1 i hi
theorem cRl.len (h : cRl s u O) : O.length = s.1 1 := by
  have h1 : O.length ≤ s.1 1 := px_nodup_len _ _ h.2.1.1 fun a ha => (h.2.1.2.1 a).mp ha
  have h2 : (List.range (s.1 1)).length ≤ O.length := px_sub_len _ _ List.nodup_range fun x hx => (h.2.1.2.1 x).mpr (List.mem_range.mp hx)
  rw [List.length_range] at h2
  omega
theorem cRl.place (h : cRl s u O) {p : Nat} (hp : p < s.1 1) : 1 ≤ cn u 2 p 0 ∧ cn u 2 p 0 ≤ s.1 1 := by
  obtain ⟨i, hi⟩ := List.getElem?_of_mem ((h.2.1.2.1 p).mpr hp)
  have h1 := h.2.1.2.2.1 i p hi
  have h2 := (List.getElem?_eq_some_iff.mp hi).1
  rw [h.len] at h2
  omega
theorem cSt_len (s : mm_S) : (cSt s).length = s.1 9 := by simp [cSt]
theorem cOL_len (ok : mm_ok s) (p : Nat) : (cOL s p).length ≤ 180 := by
  unfold cOL
  have h6 := ok.1.2.1
  have h9 := ok.1.2.2.1
  have h13 := ok.1.2.2.2.1
  split
  · rw [cSt_len]; omega
  · rw [List.length_append]
    have h1 : (cEn s p).length ≤ s.1 13 := by
      unfold cEn
      rw [List.length_map]
      exact Nat.le_trans (List.length_filter_le _ _) (by rw [List.length_range]; exact Nat.le_refl _)
    have h2 : (cAr s p).length ≤ s.1 6 := by
      unfold cAr
      exact Nat.le_trans (List.length_filter_le _ _) (by rw [List.length_range]; exact Nat.le_refl _)
    omega
theorem cSt_mem {n : Nat} : n ∈ cSt s ↔ 200 ≤ n ∧ n < 200 + s.1 9 := by
  unfold cSt
  simp only [List.mem_map, List.mem_range]
  constructor
  · rintro ⟨a, h, rfl⟩; omega
  · rintro ⟨h1, h2⟩; exact ⟨n - 200, by omega, by omega⟩
theorem cEn_mem {p n : Nat} : n ∈ cEn s p ↔ 300 ≤ n ∧ n < 300 + s.1 13 ∧ s.2.1 10 (n - 300) = p := by
  unfold cEn
  simp only [List.mem_map, List.mem_filter, List.mem_range, beq_iff_eq]
  constructor
  · rintro ⟨a, ⟨h, h2⟩, rfl⟩
    exact ⟨by omega, by omega, by rw [show 300 + a - 300 = a by omega]; exact h2⟩
  · rintro ⟨h1, h2, h3⟩; exact ⟨n - 300, ⟨by omega, h3⟩, by omega⟩
theorem cAr_mem {p n : Nat} : n ∈ cAr s p ↔ n < s.1 6 ∧ s.2.1 3 n = p := by
  unfold cAr
  simp only [List.mem_filter, List.mem_range, beq_iff_eq]
theorem cOL_mem {p n : Nat} (hp : p ≠ 60) : n ∈ cOL s p ↔ (300 ≤ n ∧ n < 300 + s.1 13 ∧ s.2.1 10 (n - 300) = p) ∨ (n < s.1 6 ∧ s.2.1 3 n = p) := by
  unfold cOL
  rw [if_neg hp, List.mem_append, cEn_mem, cAr_mem]
/-- a step's two pins are there -/
theorem cRl.stp (h : cRl s u O) (ok : mm_ok s) {n : Nat} (hn : cStp s n) : cPx s (cn u 3 n 1) ∧ cPx s (cn u 3 n 2) ∧ (cz u 3 n 0).natAbs ≤ 8388608 ∧ cn u 2 (cn u 3 n 2) 2 ≤ 60 ∧ cn u 2 (cn u 3 n 1) 2 ≤ 60 ∧ cn u 2 (cn u 3 n 1) 0 < cn u 2 (cn u 3 n 2) 0 := by
  obtain ⟨hA, hB, hC, hD, hE, hF, hG, hH⟩ := id h
  have hbl : ∀ p, cPx s p → cn u 2 p 2 ≤ 60 := fun p hp => by
    rcases hp with hp | rfl | rfl
    · rw [hC.2.2.1 p hp]; have := ok.2.2.2.2.2.1 p hp; omega
    · rw [hC.2.2.2.1]; omega
    · rw [hC.2.2.2.2.1]; omega
  have h1 := ok.1.1
  rcases hn with hn | ⟨h2, h3⟩ | ⟨h2, h3⟩
  · obtain ⟨e0, e1, e2, e3⟩ := hD.2.1 n hn
    obtain ⟨b1, b2, b3, b4⟩ := ok.2.1 n hn
    rw [e1, e2, e3]
    exact ⟨Or.inl b1, Or.inl b2, by omega, hbl _ (Or.inl b2), hbl _ (Or.inl b1), hB.2.2.2 n hn⟩
  · obtain ⟨i, rfl⟩ : ∃ i, n = 200 + i := ⟨n - 200, by omega⟩
    obtain ⟨e0, e1, e2, e3⟩ := hD.2.2.1 i (by omega)
    obtain ⟨b1, b2, b3⟩ := ok.2.2.1 i (by omega)
    rw [e1, e2, e3]
    have hpl := h.place b1
    exact ⟨Or.inr (Or.inl rfl), Or.inl b1, by omega, hbl _ (Or.inl b1), hbl _ (Or.inr (Or.inl rfl)), by rw [hC.2.2.2.2.2.1]; omega⟩
  · obtain ⟨i, rfl⟩ : ∃ i, n = 300 + i := ⟨n - 300, by omega⟩
    obtain ⟨e0, e1, e2, e3, e4⟩ := hD.2.2.2 i (by omega)
    obtain ⟨b1, b2, b3, b4⟩ := ok.2.2.2.1 i (by omega)
    rw [e1, e2, e3]
    have hpl := h.place b1
    exact ⟨Or.inl b1, Or.inr (Or.inr rfl), by omega, hbl _ (Or.inr (Or.inr rfl)), hbl _ (Or.inl b1), by rw [hC.2.2.2.2.2.2]; omega⟩
theorem cRl.outs (h : cRl s u O) {p : Nat} (hp : p < s.1 1 ∨ p = 60) (h1 : s.1 1 ≤ 60) : cl u 13 p = c3 (cOL s p) ∧ ∀ n ∈ cOL s p, cStp s n ∧ cn u 3 n 1 = p := by
  obtain ⟨hA, hB, hC, hD, hE, hF, hG, hH⟩ := id h
  rcases hp with hp | rfl
  · refine ⟨(hE.1 p hp).1, fun n hn => ?_⟩
    rcases (cOL_mem (by omega)).mp hn with ⟨g1, g2, g3⟩ | ⟨g1, g2⟩
    · obtain ⟨e, rfl⟩ : ∃ e, n = 300 + e := ⟨n - 300, by omega⟩
      rw [show 300 + e - 300 = e by omega] at g3
      exact ⟨Or.inr (Or.inr ⟨g1, g2⟩), by rw [(hD.2.2.2 e (by omega)).2.1, g3]⟩
    · exact ⟨Or.inl g1, by rw [(hD.2.1 n g1).2.1, g2]⟩
  · have e9 : cOL s 60 = cSt s := if_pos rfl
    rw [e9]
    refine ⟨hE.2.1, fun n hn => ?_⟩
    obtain ⟨g1, g2⟩ := cSt_mem.mp hn
    obtain ⟨i, rfl⟩ : ∃ i, n = 200 + i := ⟨n - 200, by omega⟩
    exact ⟨Or.inr (Or.inl ⟨g1, g2⟩), (hD.2.2.1 i (by omega)).2.1⟩
theorem cRl.cok (h : cRl s u O) (ok : mm_ok s) {p : Nat} (hp : p < s.1 1) : cOk u (cOL s) p := by
  have h1 := ok.1.1
  obtain ⟨hA, hB, hC, hD, hE, hF, hG, hH⟩ := id h
  obtain ⟨o1, o2⟩ := h.outs (Or.inl hp) h1
  have hq := hC.pn hp
  refine ⟨hq.1, hq.2.2.2.2.2.2.2.1, o1, Nat.le_trans (cOL_len ok p) (by omega), by rw [hC.2.2.1 p hp]; have := ok.2.2.2.2.2.1 p hp; omega, fun n hn => ?_⟩
  obtain ⟨g1, g2⟩ := o2 n hn
  obtain ⟨a1, a2, a3, a4, a5, a6⟩ := h.stp ok g1
  refine ⟨(hD.1 n).mpr g1, (hC.1 _ a2).1, a4, fun e => ?_, by omega⟩
  rw [e, g2] at a6
  exact Nat.lt_irrefl _ a6
/-- only scratch changed -/
def cq (u u' : cc_U) : Prop := (∀ k i, cx u' k i ↔ cx u k i) ∧ (∀ k i, cl u' k i = cl u k i) ∧ (∀ k i j, ¬ (k = 3 ∧ j = 4) → k ≠ 7 → k ≠ 10 → k ≠ 11 → ¬ (k = 14 ∧ i = 8) → cn u' k i j = cn u k i j) ∧ ∀ k i j, k ≠ 2 → k ≠ 8 → cz u' k i j = cz u k i j
theorem cRl.scr {u' : cc_U} (h : cRl s u O) (q : cq u u') (hz : ∀ p, cPx s p → cn u' 7 p 0 ≤ cc_wl p) (hH' : cRH s u') : cRl s u' O := by
  obtain ⟨q1, q2, q3, q4⟩ := q
  obtain ⟨hA, hB, hC, hD, hE, hF, hG, hH⟩ := id h
  have n2 : ∀ p j, cn u' 2 p j = cn u 2 p j := fun p j => q3 2 p j (by omega) (by omega) (by omega) (by omega) (by omega)
  have n3 : ∀ p j, j ≠ 4 → cn u' 3 p j = cn u 3 p j := fun p j hj => q3 3 p j (by omega) (by omega) (by omega) (by omega) (by omega)
  have n6 : ∀ p j, cn u' 6 p j = cn u 6 p j := fun p j => q3 6 p j (by omega) (by omega) (by omega) (by omega) (by omega)
  have n147 : ∀ j, cn u' 14 7 j = cn u 14 7 j := fun j => q3 14 7 j (by omega) (by omega) (by omega) (by omega) (by omega)
  have n140 : ∀ j, cn u' 14 0 j = cn u 14 0 j := fun j => q3 14 0 j (by omega) (by omega) (by omega) (by omega) (by omega)
  have z3 : ∀ p j, cz u' 3 p j = cz u 3 p j := fun p j => q4 3 p j (by omega) (by omega)
  have z6 : ∀ p j, cz u' 6 p j = cz u 6 p j := fun p j => q4 6 p j (by omega) (by omega)
  refine ⟨?_, ?_, ?_, ?_, ?_, ?_, ?_, hH'⟩
  · unfold cRA; simp only [q1, q2]; exact hA
  · unfold cRB; simp only [n2]; exact hB
  · refine ⟨fun p hp => ?_, fun p hp k hk => by rw [q1]; exact hC.2.1 p hp k hk, fun p hp => by rw [n2]; exact hC.2.2.1 p hp, by rw [n2]; exact hC.2.2.2.1, by rw [n2]; exact hC.2.2.2.2.1, by rw [n2]; exact hC.2.2.2.2.2.1, by rw [n2]; exact hC.2.2.2.2.2.2⟩
    obtain ⟨a1, a2, a3, a4, a5, a6, a7, a8, a9⟩ := hC.1 p hp
    unfold cPn
    simp only [q1]
    exact ⟨a1, a2, a3, a4, a5, a6, a7, a8, hz p hp⟩
  · unfold cRD
    simp only [q1, z3, n3 _ 0 (by decide), n3 _ 1 (by decide), n3 _ 2 (by decide), n3 _ 3 (by decide)]
    exact hD
  · unfold cRE; simp only [q2, n2]; exact hE
  · unfold cRF; simp only [n147, n140]; exact hF
  · unfold cRG; simp only [q1, q2, n6, z6]; exact hG
theorem cRl.G (h : cRl s u O) {g : Nat → Int} (hg : ∀ q, -8 ≤ g q ∧ g q ≤ 2 ^ 31) : cRl s (cG u g) O := by
  refine h.scr ⟨fun k i => cxG u g k i, fun k i => clG u g k i, fun k i j _ _ _ _ _ => cnG u g k i j, fun k i j h2 _ => czG u g k i j h2⟩ (fun p hp => by rw [cnG]; exact (h.2.2.1.1 p hp).2.2.2.2.2.2.2.2) ?_
  obtain ⟨h1, h2, h3, h4, h5⟩ := h.2.2.2.2.2.2.2
  exact ⟨hg, fun p j r => by rw [csG]; exact h2 p j r, fun p j => by rw [cnG]; exact h3 p j, by rw [cnG]; exact h4, by rw [czG u g 8 61 0 (by decide)]; exact h5⟩
end CRU
