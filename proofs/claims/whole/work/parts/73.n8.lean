/-! ===== ways from a pin to the sink, told through the net ===== -/
section CVW
variable (s : mm_S) (Lv : Nat → Prop)
def cV (e : Nat) : List Nat → Nat → Prop
  | [], p => e < s.1 13 ∧ s.2.1 10 e = p ∧ ¬ Lv (300 + e)
  | a :: as, p => a < s.1 6 ∧ s.2.1 3 a = p ∧ ¬ Lv a ∧ cV e as (s.2.1 4 a)
def cvt (e : Nat) : List Nat → Int
  | [] => s.2.2 11 e
  | a :: as => cvt e as - s.2.2 5 a
def cF (p : Nat) (w : cW) : Prop := cV s Lv w.2.2 w.2.1 p ∧ w.1 = cvt s w.2.2 w.2.1
def cFS (w : cW) : Prop := ∃ i as, w.2.1 = i :: as ∧ i < s.1 9 ∧ ¬ Lv (200 + i) ∧ cV s Lv w.2.2 as (s.2.1 7 i) ∧ w.1 = cvt s w.2.2 as - s.2.2 8 i
def cFP (p : Nat) (w : cW) : Prop := if p = 60 then cFS s Lv w else cF s Lv p w
def cLG (k p : Nat) (L : List cW) : Prop := L.Pairwise cWR ∧ (∀ w ∈ L, cgr s w < 8) ∧ ∀ g, g < 8 → px_LG cWR k (fun w => cgr s w = g ∧ cFP s Lv p w) (L.filter fun w => cgr s w == g)
end CVW
def cOr (b c : Nat) : Prop := (300 ≤ b ∧ b < c) ∨ (c < 200 ∧ 300 ≤ b) ∨ (b < c ∧ c < 200) ∨ (200 ≤ b ∧ b < c ∧ c < 300)
theorem cEx_mono (d : Int) (n : Nat) {w w' : cW} (h : cWR w w') : cWR (cEx d n w) (cEx d n w') := by
  have e : px_cm (n :: w.2.1) (n :: w'.2.1) = px_cm w.2.1 w'.2.1 := by rw [px_cm, if_neg (Nat.lt_irrefl _), if_neg (Nat.lt_irrefl _)]
  rcases h with h | ⟨h, g | g⟩
  · exact Or.inl (by show w.1 - d < w'.1 - d; omega)
  · exact Or.inr ⟨by show w.1 - d = w'.1 - d; omega, Or.inl (by show px_cm (n :: w.2.1) (n :: w'.2.1) = 0; rw [e]; exact g)⟩
  · exact Or.inr ⟨by show w.1 - d = w'.1 - d; omega, Or.inr ⟨by show n :: w.2.1 = n :: w'.2.1; rw [g.1], g.2⟩⟩
theorem cEx_inj (d : Int) (n : Nat) {w w' : cW} (h : cEx d n w = cEx d n w') : w = w' := by
  obtain ⟨l, k, e⟩ := w
  obtain ⟨l', k', e'⟩ := w'
  injection h with h1 h2
  injection h2 with h2 h3
  injection h2 with h4 h5
  have : l = l' := by omega
  have h5 : k = k' := h5
  have h3 : e = e' := h3
  rw [this, h5, h3]
section CVX
variable {s : mm_S} {Lv : Nat → Prop}
theorem cOL_or (h6 : s.1 6 ≤ 150) (h9 : s.1 9 ≤ 30) (p : Nat) : (cOL s p).Pairwise cOr := by
  unfold cOL
  split
  · unfold cSt
    exact List.pairwise_map.mpr ((List.Pairwise.and_mem.mp (List.pairwise_lt_range)).imp fun {a b} h => Or.inr (Or.inr (Or.inr (by have := List.mem_range.mp h.2.1; omega))))
  · refine List.pairwise_append.mpr ⟨?_, ?_, fun a ha b hb => ?_⟩
    · unfold cEn
      exact List.pairwise_map.mpr ((List.Pairwise.filter _ List.pairwise_lt_range).imp fun {a b} h => Or.inl (by omega))
    · unfold cAr
      exact (List.Pairwise.filter _ (List.Pairwise.and_mem.mp (List.pairwise_lt_range))).imp fun {a b} h => Or.inr (Or.inr (Or.inl (by have := List.mem_range.mp h.2.1; omega)))
    · unfold cEn at ha
      unfold cAr at hb
      obtain ⟨x, -, e⟩ := List.mem_map.mp ha
      have := List.mem_range.mp (List.mem_filter.mp hb).1
      exact Or.inr (Or.inl (by omega))
theorem cOL_kd {p n : Nat} (h9 : s.1 9 ≤ 30) (h : n ∈ cOL s p) : (p = 60 ∧ ∃ i, n = 200 + i ∧ i < s.1 9) ∨ (p ≠ 60 ∧ ∃ e, n = 300 + e ∧ e < s.1 13 ∧ s.2.1 10 e = p) ∨ (p ≠ 60 ∧ n < s.1 6 ∧ s.2.1 3 n = p) := by
  unfold cOL at h
  split at h
  · obtain ⟨i, hi, e⟩ := List.mem_map.mp h
    exact Or.inl ⟨by assumption, i, e.symm, List.mem_range.mp hi⟩
  · rcases List.mem_append.mp h with h | h
    · obtain ⟨e, he, e'⟩ := List.mem_map.mp h
      obtain ⟨h1, h2⟩ := List.mem_filter.mp he
      exact Or.inr (Or.inl ⟨by assumption, e, e'.symm, List.mem_range.mp h1, by simpa using h2⟩)
    · obtain ⟨h1, h2⟩ := List.mem_filter.mp h
      exact Or.inr (Or.inr ⟨by assumption, List.mem_range.mp h1, by simpa using h2⟩)
theorem cOL_of {p n : Nat} (h : (p = 60 ∧ ∃ i, n = 200 + i ∧ i < s.1 9) ∨ (p ≠ 60 ∧ ∃ e, n = 300 + e ∧ e < s.1 13 ∧ s.2.1 10 e = p) ∨ (p ≠ 60 ∧ n < s.1 6 ∧ s.2.1 3 n = p)) : n ∈ cOL s p := by
  unfold cOL
  rcases h with ⟨h, i, e, hi⟩ | ⟨h, i, e, hi, hp⟩ | ⟨h, hn, hp⟩
  · rw [if_pos h]; exact List.mem_map.mpr ⟨i, List.mem_range.mpr hi, e.symm⟩
  · rw [if_neg h]; exact List.mem_append.mpr (Or.inl (List.mem_map.mpr ⟨i, List.mem_filter.mpr ⟨List.mem_range.mpr hi, by simpa using hp⟩, e.symm⟩))
  · rw [if_neg h]; exact List.mem_append.mpr (Or.inr (List.mem_filter.mpr ⟨List.mem_range.mpr hn, by simpa using hp⟩))
theorem cCd_e (LL : Nat → List cW) (e : Nat) : cCd s LL (300 + e) = [(s.2.2 11 e, [], e)] := by
  unfold cCd
  rw [if_pos (by omega), show 300 + e - 300 = e by omega]
theorem cCd_s (LL : Nat → List cW) {i : Nat} (h : i < 100) : cCd s LL (200 + i) = (LL (s.2.1 7 i)).map (cEx (s.2.2 8 i) i) := by
  unfold cCd
  rw [if_neg (by omega), if_pos (by omega), show 200 + i - 200 = i by omega]
theorem cCd_a (LL : Nat → List cW) {a : Nat} (h : a < 200) : cCd s LL a = (LL (s.2.1 4 a)).map (cEx (s.2.2 5 a) a) := by
  unfold cCd
  rw [if_neg (by omega), if_neg (by omega)]
theorem cCd_key (LL : Nat → List cW) {n : Nat} {w : cW} (h : w ∈ cCd s LL n) : (300 ≤ n → w.2.1 = [] ∧ w.2.2 = n - 300) ∧ (n < 300 → 200 ≤ n → ∃ t, w.2.1 = (n - 200) :: t) ∧ (n < 200 → ∃ t, w.2.1 = n :: t) := by
  unfold cCd at h
  split at h
  · have := List.mem_singleton.mp h
    rw [this]
    exact ⟨fun _ => ⟨rfl, rfl⟩, fun _ _ => by omega, fun _ => by omega⟩
  · split at h
    · obtain ⟨x, -, e⟩ := List.mem_map.mp h
      rw [← e]
      exact ⟨fun _ => by omega, fun _ _ => ⟨x.2.1, rfl⟩, fun _ => by omega⟩
    · obtain ⟨x, -, e⟩ := List.mem_map.mp h
      rw [← e]
      exact ⟨fun _ => by omega, fun _ _ => by omega, fun _ => ⟨x.2.1, rfl⟩⟩
theorem cCd_or (LL : Nat → List cW) {b c : Nat} (h : cOr b c) {w w' : cW} (hw : w ∈ cCd s LL b) (hw' : w' ∈ cCd s LL c) : cKl w w' := by
  obtain ⟨h1, h2, h3⟩ := cCd_key LL hw
  obtain ⟨g1, g2, g3⟩ := cCd_key LL hw'
  rcases h with h | h | h | h
  · obtain ⟨a1, a2⟩ := h1 (by omega)
    obtain ⟨b1, b2⟩ := g1 (by omega)
    exact Or.inr ⟨by rw [a1, b1], by omega⟩
  · obtain ⟨a1, a2⟩ := h1 (by omega)
    obtain ⟨t, b1⟩ := g3 (by omega)
    exact Or.inl (by rw [a1, b1]; rfl)
  · obtain ⟨t1, a1⟩ := h3 (by omega)
    obtain ⟨t, b1⟩ := g3 (by omega)
    exact Or.inl (by rw [a1, b1, px_cm, if_pos (by omega)])
  · obtain ⟨t1, a1⟩ := h2 (by omega) (by omega)
    obtain ⟨t, b1⟩ := g2 (by omega) (by omega)
    exact Or.inl (by rw [a1, b1, px_cm, if_pos (by omega)])
theorem cLG.mem {k p : Nat} {L : List cW} (h : cLG s Lv k p L) {w : cW} (hw : w ∈ L) : cFP s Lv p w :=
  ((h.2.2 _ (h.2.1 w hw)).2.1 w (List.mem_filter.mpr ⟨hw, by simp⟩)).2
theorem cMg_of (ok : mm_ok s) {LL : Nat → List cW} {k p : Nat} {st : Nat → Nat} (hst : ∀ n ∈ cOL s p, st n ≤ (cCd s LL n).length) (hL : ∀ q, q < s.1 1 → (∃ n ∈ cOL s p, n < 300 ∧ (if 200 ≤ n then s.2.1 7 (n - 200) else s.2.1 4 n) = q) → cLG s Lv k q (LL q)) : cMg (cOL s p) (cCd s LL) st (cgr s) := by
  have h9 := ok.1.2.2.1
  have h6 := ok.1.2.1
  have por := cOL_or (s := s) h6 h9 p
  refine ⟨List.nodup_iff_pairwise_ne.mpr (por.imp fun {a b} h e => by rw [e] at h; unfold cOr at h; omega), fun b hb => ⟨?_, hst b hb, ?_⟩, fun T1 b T2 e c hc w hw w' hw' => ?_⟩
  · rcases cOL_kd h9 hb with ⟨hp, i, e, hi⟩ | ⟨hp, i, e, hi, hi'⟩ | ⟨hp, hn, hi'⟩
    · have hlt := (ok.2.2.1 i hi).1
      rw [e, cCd_s LL (by omega)]
      exact List.pairwise_map.mpr ((hL _ hlt ⟨b, hb, by omega, by rw [if_pos (by omega), e, show 200 + i - 200 = i by omega]⟩).1.imp fun h => cEx_mono _ _ h)
    · rw [e, cCd_e]; exact List.pairwise_singleton _ _
    · have hlt := (ok.2.1 b hn).2.1
      rw [cCd_a LL (by omega)]
      exact List.pairwise_map.mpr ((hL _ hlt ⟨b, hb, by omega, by rw [if_neg (by omega)]⟩).1.imp fun h => cEx_mono _ _ h)
  · intro w hw
    rcases cOL_kd h9 hb with ⟨hp, i, e, hi⟩ | ⟨hp, i, e, hi, hi'⟩ | ⟨hp, hn, hi'⟩
    · have hlt := (ok.2.2.1 i hi).1
      rw [e, cCd_s LL (by omega)] at hw
      obtain ⟨x, hx, ex⟩ := List.mem_map.mp hw
      rw [← ex]
      exact (hL _ hlt ⟨b, hb, by omega, by rw [if_pos (by omega), e, show 200 + i - 200 = i by omega]⟩).2.1 x hx
    · rw [e, cCd_e] at hw
      rw [List.mem_singleton.mp hw]
      exact (ok.2.2.2.1 i hi).2.1
    · have hlt := (ok.2.1 b hn).2.1
      rw [cCd_a LL (by omega)] at hw
      obtain ⟨x, hx, ex⟩ := List.mem_map.mp hw
      rw [← ex]
      exact (hL _ hlt ⟨b, hb, by omega, by rw [if_neg (by omega)]⟩).2.1 x hx
  · rw [e] at por
    exact cCd_or LL ((List.pairwise_cons.mp (List.pairwise_append.mp por).2.1).1 c hc) hw hw'
/-- the first k of what its successors keep are the first k of all -/
theorem cLG.step (ok : mm_ok s) {LL : Nat → List cW} {k p : Nat} (hp : p = 60 ∨ p < s.1 1) {st : Nat → Nat} (hst : ∀ n ∈ cOL s p, (Lv n → st n = (cCd s LL n).length) ∧ (¬ Lv n → st n = 0)) (hL : ∀ q, q < s.1 1 → (∃ n ∈ cOL s p, n < 300 ∧ (if 200 ≤ n then s.2.1 7 (n - 200) else s.2.1 4 n) = q) → cLG s Lv k q (LL q)) {B : List cW}
    (hB : B.Pairwise cWR ∧ (∀ w ∈ B, cgr s w < 8) ∧ ∀ g, g < 8 → px_LG cWR k (fun w => cgr s w = g ∧ ∃ b ∈ cOL s p, ∃ r, st b ≤ r ∧ (cCd s LL b)[r]? = some w) (B.filter fun w => cgr s w == g)) : cLG s Lv k p B := by
  have h9 := ok.1.2.2.1
  have h6 := ok.1.2.1
  have h1 := ok.1.1
  have nl : ∀ n ∈ cOL s p, ∀ r w, st n ≤ r → (cCd s LL n)[r]? = some w → ¬ Lv n := fun n hn r w h g hv => by
    have := (hst n hn).1 hv
    have := (List.getElem?_eq_some_iff.mp g).1
    omega
  -- what lies behind a step
  have key : ∀ (n q : Nat) (d : Int) (m g : Nat) (w0 : cW), n ∈ cOL s p → ¬ Lv n → cLG s Lv k q (LL q) → cCd s LL n = (LL q).map (cEx d m) → g < 8 → cgr s w0 = g → cFP s Lv q w0 → ¬ (cgr s (cEx d m w0) = g ∧ ∃ b ∈ cOL s p, ∃ r, st b ≤ r ∧ (cCd s LL b)[r]? = some (cEx d m w0)) →
      ∃ l : List cW, l.Nodup ∧ l.length = k ∧ ∀ x ∈ l, (cgr s x = g ∧ ∃ b ∈ cOL s p, ∃ r, st b ≤ r ∧ (cCd s LL b)[r]? = some x) ∧ cWR x (cEx d m w0) := by
    intro n q d m g w0 hn hv hq hc hg hgr hF hno
    have sub : ∀ x ∈ LL q, ∃ r, st n ≤ r ∧ (cCd s LL n)[r]? = some (cEx d m x) := fun x hx => by
      obtain ⟨r, hr⟩ := List.getElem?_of_mem (List.mem_map.mpr ⟨x, hx, rfl⟩ : cEx d m x ∈ (LL q).map (cEx d m))
      exact ⟨r, by rw [(hst n hn).2 hv]; exact Nat.zero_le _, by rw [hc]; exact hr⟩
    have hw : w0 ∉ LL q := fun z => hno ⟨hgr, n, hn, sub w0 z⟩
    have LG := hq.2.2 g hg
    obtain ⟨e1, e2⟩ := LG.2.2.2 w0 ⟨hgr, hF⟩ fun z => hw (List.mem_filter.mp z).1
    refine ⟨((LL q).filter fun w => cgr s w == g).map (cEx d m), ?_, by rw [List.length_map]; exact e1, fun x hx => ?_⟩
    · exact List.nodup_iff_pairwise_ne.mpr (List.pairwise_map.mpr ((List.nodup_iff_pairwise_ne.mp (LG.nd cWR_od)).imp fun h z => h (cEx_inj d m z)))
    · obtain ⟨y, hy, ey⟩ := List.mem_map.mp hx
      obtain ⟨y1, y2⟩ := List.mem_filter.mp hy
      rw [← ey]
      exact ⟨⟨show cgr s y = g by simpa using y2, n, hn, sub y y1⟩, cEx_mono d m (e2 y hy)⟩
  refine ⟨hB.1, hB.2.1, fun g hg => (hB.2.2 g hg).close cWR_od (fun w hw => ?_) fun w hw hno => ?_⟩
  · obtain ⟨hg', n, hn, r, hr, hget⟩ := hw
    have hv := nl n hn r w hr hget
    refine ⟨hg', ?_⟩
    have hm := List.mem_of_getElem? hget
    rcases cOL_kd h9 hn with ⟨e0, i, e, hi⟩ | ⟨e0, i, e, hi, hi'⟩ | ⟨e0, hn', hi'⟩
    · have hlt := (ok.2.2.1 i hi).1
      have hq := hL _ hlt ⟨n, hn, by omega, by rw [if_pos (by omega), e, show 200 + i - 200 = i by omega]⟩
      rw [e, cCd_s LL (by omega)] at hm
      obtain ⟨x, hx, ex⟩ := List.mem_map.mp hm
      have hF := hq.mem hx
      unfold cFP at hF
      rw [if_neg (by omega)] at hF
      rw [← ex]
      unfold cFP
      rw [if_pos e0]
      exact ⟨i, x.2.1, rfl, hi, by rw [← e]; exact hv, hF.1, by show x.1 - _ = _; rw [hF.2]; rfl⟩
    · rw [e, cCd_e] at hm
      rw [List.mem_singleton.mp hm]
      unfold cFP
      rw [if_neg e0]
      exact ⟨⟨hi, hi', by rw [← e]; exact hv⟩, rfl⟩
    · have hlt := (ok.2.1 n hn').2.1
      have hq := hL _ hlt ⟨n, hn, by omega, by rw [if_neg (by omega)]⟩
      rw [cCd_a LL (by omega)] at hm
      obtain ⟨x, hx, ex⟩ := List.mem_map.mp hm
      have hF := hq.mem hx
      unfold cFP at hF
      rw [if_neg (by omega)] at hF
      rw [← ex]
      unfold cFP
      rw [if_neg e0]
      exact ⟨⟨hn', hi', hv, hF.1⟩, by show x.1 - _ = cvt s x.2.2 x.2.1 - _; rw [hF.2]⟩
  · obtain ⟨hg', hF⟩ := hw
    unfold cFP at hF
    split at hF
    · rename_i e0
      obtain ⟨i, as, e1, hi, hv, hV, ht⟩ := hF
      have hlt := (ok.2.2.1 i hi).1
      have hn : 200 + i ∈ cOL s p := cOL_of (Or.inl ⟨e0, i, rfl, hi⟩)
      have hq := hL _ hlt ⟨200 + i, hn, by omega, by rw [if_pos (by omega), show 200 + i - 200 = i by omega]⟩
      have ew : w = cEx (s.2.2 8 i) i (cvt s w.2.2 as, as, w.2.2) := by
        obtain ⟨l, ks, e⟩ := w
        cases e1
        show (l, i :: as, e) = (_, _, _)
        rw [show l = cvt s e as - s.2.2 8 i from ht]
      rw [ew] at hno ⊢
      refine key (200 + i) _ _ i g _ hn hv hq (cCd_s LL (by omega)) hg hg' ?_ hno
      unfold cFP
      rw [if_neg (by omega)]
      exact ⟨hV, rfl⟩
    · rename_i e0
      obtain ⟨l, ks, e⟩ := w
      obtain ⟨hV, ht⟩ := hF
      cases ks with
      | nil =>
        have hV : e < s.1 13 ∧ s.2.1 10 e = p ∧ ¬ Lv (300 + e) := hV
        have hn : 300 + e ∈ cOL s p := cOL_of (Or.inr (Or.inl ⟨e0, e, rfl, hV.1, hV.2.1⟩))
        exact absurd ⟨hg', 300 + e, hn, 0, by rw [(hst _ hn).2 hV.2.2]; exact Nat.le_refl _, by rw [cCd_e]; show some _ = some _; rw [show l = s.2.2 11 e from ht]⟩ hno
      | cons a as =>
        have hV : a < s.1 6 ∧ s.2.1 3 a = p ∧ ¬ Lv a ∧ cV s Lv e as (s.2.1 4 a) := hV
        obtain ⟨ha, ha', hv, hV⟩ := hV
        have hlt := (ok.2.1 a ha).2.1
        have hn : a ∈ cOL s p := cOL_of (Or.inr (Or.inr ⟨e0, ha, ha'⟩))
        have hq := hL _ hlt ⟨a, hn, by omega, by rw [if_neg (by omega)]⟩
        have ew : ((l, a :: as, e) : cW) = cEx (s.2.2 5 a) a (cvt s e as, as, e) := by
          show (l, a :: as, e) = (_, _, _)
          rw [show l = cvt s e as - s.2.2 5 a from ht]
        rw [ew] at hno ⊢
        refine key a _ _ a g _ hn hv hq (cCd_a LL (by omega)) hg hg' ?_ hno
        unfold cFP
        rw [if_neg (by omega)]
        exact ⟨hV, rfl⟩
theorem cV.rk {rk : Nat → Nat} (hr : ∀ a, a < s.1 6 → rk (s.2.1 3 a) < rk (s.2.1 4 a)) {e : Nat} : ∀ {as : List Nat} {p : Nat}, cV s Lv e as p → e < s.1 13 ∧ (as.map (s.2.1 3)).Nodup ∧ ∀ a ∈ as, a < s.1 6 ∧ rk p ≤ rk (s.2.1 3 a) := by
  intro as
  induction as with
  | nil => intro p h; exact ⟨h.1, List.nodup_nil, fun a h => absurd h List.not_mem_nil⟩
  | cons a as ih =>
    intro p h
    obtain ⟨h1, h2, -, h3⟩ := h
    obtain ⟨i0, i1, i2⟩ := ih h3
    have := hr a h1
    rw [h2] at this
    refine ⟨i0, List.nodup_cons.mpr ⟨fun z => ?_, i1⟩, fun c hc => ?_⟩
    · obtain ⟨b, hb, e⟩ := List.mem_map.mp z
      have := (i2 b hb).2
      rw [e, h2] at this
      omega
    · rcases List.mem_cons.mp hc with e | e
      · rw [e]; exact ⟨h1, by rw [h2]; exact Nat.le_refl _⟩
      · have := i2 c e
        exact ⟨this.1, by omega⟩
theorem cV.bd (ok : mm_ok s) {e p : Nat} {as : List Nat} (h : cV s Lv e as p) : e < s.1 13 ∧ as.length ≤ 60 ∧ (∀ a ∈ as, a < s.1 6) ∧ (cvt s e as).natAbs ≤ 8388608 * 61 := by
  obtain ⟨rk, hr⟩ := ok.2.2.2.2.2.2.2
  obtain ⟨h0, h1, h2⟩ := h.rk hr
  have hl := px_nodup_len 60 (as.map (s.2.1 3)) h1 fun a ha => by
    obtain ⟨b, hb, e⟩ := List.mem_map.mp ha
    have := (ok.2.1 b (h2 b hb).1).1
    have := ok.1.1
    omega
  rw [List.length_map] at hl
  have key : ∀ (as : List Nat), (∀ a ∈ as, a < s.1 6) → (cvt s e as).natAbs ≤ 8388608 * (as.length + 1) := by
    intro as
    induction as with
    | nil => intro _; have := ok.2.2.2.1 e h0; show (s.2.2 11 e).natAbs ≤ 8388608 * (0 + 1); omega
    | cons a as ih =>
      intro h
      have := ih fun b hb => h b (List.mem_cons_of_mem _ hb)
      have h2 := (ok.2.1 a (h a List.mem_cons_self)).2.2
      show (cvt s e as - s.2.2 5 a).natAbs ≤ 8388608 * (as.length + 1 + 1)
      omega
  have := key as fun a ha => (h2 a ha).1
  exact ⟨h0, hl, fun a ha => (h2 a ha).1, by omega⟩
theorem cFP.bd (ok : mm_ok s) {p : Nat} {w : cW} (h : cFP s Lv p w) : w.1.natAbs ≤ 2 ^ 40 ∧ w.2.2 < s.1 13 := by
  unfold cFP at h
  split at h
  · obtain ⟨i, as, -, hi, -, hV, ht⟩ := h
    have := hV.bd ok
    have := ok.2.2.1 i hi
    exact ⟨by omega, by omega⟩
  · obtain ⟨hV, ht⟩ := h
    have := hV.bd ok
    exact ⟨by omega, by omega⟩
end CVX
