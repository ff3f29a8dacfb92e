/-! ===== the orders met, told by places; the class's list is the reference's ===== -/
theorem mm_mt_sp (s : mm_S) (p : Nat) {k : Nat} (h : k ≤ 10) : k ≤ mm_mt s p k ∧ mm_mt s p k ≤ 10 ∧ (∀ i, k ≤ i → i < mm_mt s p k → s.2.1 14 i = 0 ∨ s.2.1 14 i = p + 1) ∧ (mm_mt s p k < 10 → s.2.1 14 (mm_mt s p k) ≠ 0 ∧ s.2.1 14 (mm_mt s p k) ≠ p + 1) := by
  unfold mm_mt
  have key : ∀ (f k : Nat), k ≤ 10 → 10 < k + f → k ≤ mm_met (s.2.1 14) p f k ∧ mm_met (s.2.1 14) p f k ≤ 10 ∧ (∀ i, k ≤ i → i < mm_met (s.2.1 14) p f k → s.2.1 14 i = 0 ∨ s.2.1 14 i = p + 1) ∧ (mm_met (s.2.1 14) p f k < 10 → s.2.1 14 (mm_met (s.2.1 14) p f k) ≠ 0 ∧ s.2.1 14 (mm_met (s.2.1 14) p f k) ≠ p + 1) := by
    intro f
    induction f with
    | zero => intro k h1 h2; omega
    | succ f ih =>
      intro k h1 h2
      rw [mm_met]
      split
      · rename_i h3
        obtain ⟨g1, g2, g3, g4⟩ := ih (k + 1) (by omega) (by omega)
        refine ⟨by omega, g2, fun i e1 e2 => ?_, g4⟩
        rcases Nat.lt_or_ge k i with e | e
        · exact g3 i (by omega) e2
        · rw [show i = k by omega]; exact h3.2
      · rename_i h3
        exact ⟨Nat.le_refl _, h1, fun i e1 e2 => by omega, fun e => ⟨fun z => h3 ⟨e, Or.inl z⟩, fun z => h3 ⟨e, Or.inr z⟩⟩⟩
  exact key 11 k h (by omega)
section CPL
variable (s : mm_S) (pl po : Nat → Nat) (Lv : Nat → Prop)
/-- places of pins and of orders; steps that leave one out -/
def cHp : Prop := (∀ a, a < s.1 6 → pl (s.2.1 3 a) < pl (s.2.1 4 a)) ∧ (∀ p, p < s.1 1 → 1 ≤ pl p ∧ pl p ≤ 60) ∧ (∀ p q, p < s.1 1 → q < s.1 1 → pl p = pl q → p = q) ∧
  (∀ j, j < 10 → (s.2.1 14 j = 0 → po j = 0) ∧ ∀ p, s.2.1 14 j = p + 1 → po j = pl p ∧ p < s.1 1) ∧
  (∀ a, a < s.1 6 → (Lv a ↔ ∃ j, j < 10 ∧ po j ≠ 0 ∧ pl (s.2.1 3 a) < po j ∧ po j < pl (s.2.1 4 a))) ∧
  (∀ i, i < s.1 9 → (Lv (200 + i) ↔ ∃ j, j < 10 ∧ po j ≠ 0 ∧ po j < pl (s.2.1 7 i))) ∧
  ∀ e, e < s.1 13 → (Lv (300 + e) ↔ ∃ j, j < 10 ∧ po j ≠ 0 ∧ pl (s.2.1 10 e) < po j)
def cRs : Prop := ∀ i j, i < j → j < 10 → po i ≠ 0 → po j ≠ 0 → po i ≤ po j
def cnl (i : Nat) (as : List Nat) : Prop := ¬ Lv (200 + i) ∧ ∀ a ∈ as, ¬ Lv a
/-- so far none left out: what is met is what stands up to here -/
def cSA (k p : Nat) : Prop := k ≤ 10 ∧ (∀ j, j < k → po j ≤ pl p) ∧ (∀ j, k ≤ j → j < 10 → po j ≠ 0 → pl p < po j) ∧ (k < 10 → po k ≠ 0)
def cSB (k p : Nat) : Prop := k < 10 ∧ po k ≠ 0 ∧ po k < pl p
def cSC (k p : Nat) : Prop := k ≤ 10 ∧ (∀ j, j < k → po j ≤ pl p) ∧ ∀ i j, i < j → j < k → po i ≠ 0 → po j ≠ 0 → po i ≤ po j
end CPL
section CPM
variable {s : mm_S} {pl po : Nat → Nat} {Lv : Nat → Prop}
theorem cHp.po1 (h : cHp s pl po Lv) {j : Nat} (hj : j < 10) : (s.2.1 14 j = 0 ↔ po j = 0) ∧ ∀ p, p < s.1 1 → (po j = pl p ↔ s.2.1 14 j = p + 1) := by
  obtain ⟨-, h2, h3, h4, -⟩ := h
  obtain ⟨g1, g2⟩ := h4 j hj
  cases e : s.2.1 14 j with
  | zero =>
    refine ⟨⟨fun _ => g1 e, fun _ => rfl⟩, fun p hp => ⟨fun z => ?_, fun z => by omega⟩⟩
    have := g1 e
    have := (h2 p hp).1
    omega
  | succ q =>
    obtain ⟨a1, a2⟩ := g2 q e
    have := (h2 q a2).1
    refine ⟨⟨fun z => by omega, fun z => by omega⟩, fun p hp => ⟨fun z => ?_, fun z => ?_⟩⟩
    · rw [h3 q p a2 hp (by omega)]
    · rw [a1, show q = p by omega]
/-- one more pin -/
theorem cHp.mt (h : cHp s pl po Lv) {q k : Nat} (hq : q < s.1 1) (hk : k ≤ 10) : k ≤ mm_mt s q k ∧ mm_mt s q k ≤ 10 ∧ (∀ i, k ≤ i → i < mm_mt s q k → po i = 0 ∨ po i = pl q) ∧ (mm_mt s q k < 10 → po (mm_mt s q k) ≠ 0 ∧ po (mm_mt s q k) ≠ pl q) := by
  obtain ⟨g1, g2, g3, g4⟩ := mm_mt_sp s q hk
  refine ⟨g1, g2, fun i e1 e2 => ?_, fun e => ?_⟩
  · rcases g3 i e1 e2 with z | z
    · exact Or.inl (((h.po1 (show i < 10 by omega)).1).mp z)
    · exact Or.inr ((((h.po1 (show i < 10 by omega)).2 q hq)).mpr z)
  · obtain ⟨a1, a2⟩ := g4 e
    exact ⟨fun z => a1 (((h.po1 e).1).mpr z), fun z => a2 ((((h.po1 e).2 q hq)).mp z)⟩
theorem cSA.next (h : cHp s pl po Lv) (hr : cRs po) {q k x : Nat} (hq : q < s.1 1) (hk : k ≤ 10) (hx : x < pl q) (h2 : ∀ j, j < k → po j ≤ x) (h3 : ∀ j, k ≤ j → j < 10 → po j ≠ 0 → x < po j) :
    ((∃ j, j < 10 ∧ po j ≠ 0 ∧ x < po j ∧ po j < pl q) → cSB pl po (mm_mt s q k) q) ∧ ((¬ ∃ j, j < 10 ∧ po j ≠ 0 ∧ x < po j ∧ po j < pl q) → cSA pl po (mm_mt s q k) q) := by
  obtain ⟨g1, g2, g3, g4⟩ := h.mt hq hk
  refine ⟨fun ⟨j, j1, j2, j3, j4⟩ => ?_, fun hno => ?_⟩
  · have hkj : k ≤ j := by
      rcases Nat.lt_or_ge j k with z | z
      · have := h2 j z; omega
      · exact z
    have hj : mm_mt s q k ≤ j := by
      rcases Nat.lt_or_ge j (mm_mt s q k) with z | z
      · rcases g3 j hkj z with w | w <;> omega
      · exact z
    obtain ⟨a1, a2⟩ := g4 (by omega)
    refine ⟨by omega, a1, ?_⟩
    rcases Nat.lt_or_ge (mm_mt s q k) j with z | z
    · have := hr _ j z j1 a1 j2; omega
    · rw [show mm_mt s q k = j by omega]; exact j4
  · have hall : ∀ j, k ≤ j → j < 10 → po j ≠ 0 → pl q ≤ po j := fun j e1 e2 e3 => by
      rcases Nat.lt_or_ge (po j) (pl q) with z | z
      · exact absurd ⟨j, e2, e3, h3 j e1 e2 e3, z⟩ hno
      · exact z
    refine ⟨g2, fun j hj => ?_, fun j e1 e2 e3 => ?_, fun e => (g4 e).1⟩
    · rcases Nat.lt_or_ge j k with z | z
      · have := h2 j z; omega
      · rcases g3 j z hj with w | w <;> omega
    · obtain ⟨a1, a2⟩ := g4 (by omega)
      have b1 := hall _ g1 (by omega) a1
      rcases Nat.lt_or_ge (mm_mt s q k) j with z | z
      · have := hr _ j z e2 a1 e3; omega
      · rw [show j = mm_mt s q k by omega]; omega
theorem cSB.next (h : cHp s pl po Lv) {p q k : Nat} (hq : q < s.1 1) (hk : cSB pl po k p) (hx : pl p < pl q) : cSB pl po (mm_mt s q k) q := by
  obtain ⟨h1, h2, h3⟩ := hk
  obtain ⟨g1, g2, g3, g4⟩ := h.mt hq (show k ≤ 10 by omega)
  have e : mm_mt s q k = k := by
    rcases Nat.lt_or_ge k (mm_mt s q k) with z | z
    · rcases g3 k (Nat.le_refl _) z with w | w <;> omega
    · omega
  rw [e]
  exact ⟨h1, h2, by omega⟩
theorem cSC.next (h : cHp s pl po Lv) {q k x : Nat} (hq : q < s.1 1) (hk : k ≤ 10) (hx : x < pl q) (h2 : ∀ j, j < k → po j ≤ x) (h3 : ∀ i j, i < j → j < k → po i ≠ 0 → po j ≠ 0 → po i ≤ po j) : cSC pl po (mm_mt s q k) q := by
  obtain ⟨g1, g2, g3, g4⟩ := h.mt hq hk
  have up : ∀ j, j < mm_mt s q k → po j ≤ pl q := fun j hj => by
    rcases Nat.lt_or_ge j k with z | z
    · have := h2 j z; omega
    · rcases g3 j z hj with w | w <;> omega
  refine ⟨g2, up, fun i j e1 e2 e3 e4 => ?_⟩
  rcases Nat.lt_or_ge j k with z | z
  · exact h3 i j e1 z e3 e4
  · rcases g3 j z e2 with w | w
    · exact absurd w e4
    · rw [w]; exact up i (by omega)
theorem cHp.walk (ok : mm_ok s) (h : cHp s pl po Lv) {i : Nat} : ∀ {as : List Nat} {p : Nat}, mm_pv s i as p → p < s.1 1 ∧ cSC pl po (mm_pc s i as) p ∧ (cRs po → (cnl Lv i as → cSA pl po (mm_pc s i as) p) ∧ (¬ cnl Lv i as → cSB pl po (mm_pc s i as) p)) := by
  intro as
  induction as with
  | nil =>
    intro p hv
    obtain ⟨h1, h2⟩ := hv
    subst h2
    have hp := (ok.2.2.1 i h1).1
    have hx := (h.2.1 _ hp).1
    refine ⟨hp, cSC.next (x := 0) h hp (Nat.zero_le _) (by omega) (fun j hj => by omega) (fun i j _ hj => by omega), fun hr => ?_⟩
    obtain ⟨n1, n2⟩ := cSA.next h hr hp (Nat.zero_le 10) (show 0 < pl (s.2.1 7 i) by omega) (fun j hj => by omega) (fun j _ _ hj => by omega)
    have hl := h.2.2.2.2.2.1 i h1
    refine ⟨fun hn => n2 fun ⟨j, j1, j2, j3, j4⟩ => hn.1 (hl.mpr ⟨j, j1, j2, j4⟩), fun hn => n1 ?_⟩
    have : Lv (200 + i) := Classical.byContradiction fun z => hn ⟨z, fun a ha => absurd ha List.not_mem_nil⟩
    obtain ⟨j, j1, j2, j3⟩ := hl.mp this
    exact ⟨j, j1, j2, by omega, j3⟩
  | cons a as ih =>
    intro p hv
    obtain ⟨h1, h2, h3⟩ := hv
    subst h2
    obtain ⟨i1, i2, i3⟩ := ih h3
    have hp := (ok.2.1 a h1).2.1
    have hx := h.1 a h1
    have hl := h.2.2.2.2.1 a h1
    refine ⟨hp, cSC.next h hp i2.1 hx i2.2.1 i2.2.2, fun hr => ?_⟩
    obtain ⟨m1, m2⟩ := i3 hr
    have split_ : cnl Lv i (a :: as) ↔ ¬ Lv a ∧ cnl Lv i as := by
      unfold cnl
      exact ⟨fun ⟨e1, e2⟩ => ⟨e2 a List.mem_cons_self, e1, fun b hb => e2 b (List.mem_cons_of_mem _ hb)⟩, fun ⟨e1, e2, e3⟩ => ⟨e2, fun b hb => by
        rcases List.mem_cons.mp hb with z | z
        · rw [z]; exact e1
        · exact e3 b z⟩⟩
    rcases Classical.em (cnl Lv i as) with hn | hn
    · obtain ⟨a1, a2, a3, a4⟩ := m1 hn
      obtain ⟨n1, n2⟩ := cSA.next h hr hp a1 hx a2 a3
      refine ⟨fun z => n2 fun w => (split_.mp z).1 (hl.mpr w), fun z => n1 (hl.mp ?_)⟩
      exact Classical.byContradiction fun w => z (split_.mpr ⟨w, hn⟩)
    · exact ⟨fun z => absurd (split_.mp z).2 hn, fun _ => (m2 hn).next h hp hx⟩
/-- all orders are met where no step leaves one out -/
theorem cHp.pc (ok : mm_ok s) (h : cHp s pl po Lv) {i e : Nat} {as : List Nat} (he : e < s.1 13) (hv : mm_pv s i as (s.2.1 10 e)) : mm_pc s i as = 10 ↔ cRs po ∧ cnl Lv i as ∧ ¬ Lv (300 + e) := by
  obtain ⟨h1, h2, h3⟩ := h.walk ok hv
  have hl := h.2.2.2.2.2.2 e he
  constructor
  · intro h10
    rw [h10] at h2 h3
    have hr : cRs po := fun i j e1 e2 e3 e4 => h2.2.2 i j e1 e2 e3 e4
    obtain ⟨m1, m2⟩ := h3 hr
    refine ⟨hr, Classical.byContradiction fun z => ?_, fun z => ?_⟩
    · have := (m2 z).1; omega
    · obtain ⟨j, j1, j2, j3⟩ := hl.mp z
      have := h2.2.1 j j1
      omega
  · rintro ⟨hr, hn, he'⟩
    obtain ⟨a1, a2, a3, a4⟩ := (h3 hr).1 hn
    rcases Nat.lt_or_ge (mm_pc s i as) 10 with z | z
    · have b := a4 z
      exact absurd (hl.mpr ⟨_, z, b, a3 _ (Nat.le_refl _) z b⟩) he'
    · omega
theorem cV_rev {i e : Nat} : ∀ (as bs : List Nat), (i < s.1 9 ∧ ¬ Lv (200 + i) ∧ cV s Lv e (as.reverse ++ bs) (s.2.1 7 i)) ↔ ∃ p, mm_pv s i as p ∧ cnl Lv i as ∧ cV s Lv e bs p := by
  intro as
  induction as with
  | nil =>
    intro bs
    constructor
    · rintro ⟨h1, h2, h3⟩
      exact ⟨_, ⟨h1, rfl⟩, ⟨h2, fun a ha => absurd ha List.not_mem_nil⟩, h3⟩
    · rintro ⟨p, ⟨h1, h2⟩, ⟨h3, -⟩, h4⟩
      rw [← h2] at h4
      exact ⟨h1, h3, h4⟩
  | cons a as ih =>
    intro bs
    rw [List.reverse_cons, List.append_assoc, List.singleton_append, ih]
    constructor
    · rintro ⟨p, h1, h2, h3, h4, h5, h6⟩
      refine ⟨_, ⟨h3, rfl, by rw [h4]; exact h1⟩, ⟨h2.1, fun b hb => ?_⟩, h6⟩
      rcases List.mem_cons.mp hb with z | z
      · rw [z]; exact h5
      · exact h2.2 b z
    · rintro ⟨p, ⟨h1, h2, h3⟩, ⟨h4, h5⟩, h6⟩
      exact ⟨_, h3, ⟨h4, fun b hb => h5 b (List.mem_cons_of_mem _ hb)⟩, h1, rfl, h5 a List.mem_cons_self, by rw [h2]; exact h6⟩
theorem cvt_rev {i e : Nat} : ∀ (as bs : List Nat), cvt s e (as.reverse ++ bs) - s.2.2 8 i = cvt s e bs - mm_pt s i as := by
  intro as
  induction as with
  | nil => intro bs; rfl
  | cons a as ih =>
    intro bs
    rw [List.reverse_cons, List.append_assoc, List.singleton_append, ih]
    show cvt s e bs - s.2.2 5 a - _ = cvt s e bs - (mm_pt s i as + s.2.2 5 a)
    omega
def cPm (w : cW) : mm_P := (w.1, w.2.1.headD 0, w.2.1.tail.reverse, w.2.2)
theorem cPm_Wm (x : mm_P) : cPm (cWm x) = x := by
  obtain ⟨l, i, as, e⟩ := x
  show (l, i, as.reverse.reverse, e) = _
  rw [List.reverse_reverse]
theorem cWm_Pm {w : cW} (h : w.2.1 ≠ []) : cWm (cPm w) = w := by
  obtain ⟨l, ks, e⟩ := w
  cases ks with
  | nil => exact absurd rfl h
  | cons i as =>
    show (l, i :: as.reverse.reverse, e) = _
    rw [List.reverse_reverse]
theorem cHp.Fu (ok : mm_ok s) (h : cHp s pl po Lv) (hr : cRs po) (g : Nat) (x : mm_P) : mm_Fu s g x ↔ cgr s (cWm x) = g ∧ cFS s Lv (cWm x) := by
  obtain ⟨l, i, as, e⟩ := x
  have vr := cV_rev (s := s) (Lv := Lv) (i := i) (e := e) as []
  have tr := cvt_rev (s := s) (i := i) (e := e) as []
  rw [List.append_nil] at vr tr
  have e0 : cvt s e [] = s.2.2 11 e := rfl
  constructor
  · rintro ⟨h1, h2, h3, h4, h5⟩
    have h1 : e < s.1 13 := h1
    have h3 : mm_pv s i as (s.2.1 10 e) := h3
    have h5 : s.2.2 11 e - l = mm_pt s i as := h5
    obtain ⟨-, n1, n2⟩ := (h.pc ok h1 h3).mp h4
    obtain ⟨a1, a2, a3⟩ := vr.mpr ⟨_, h3, n1, h1, rfl, n2⟩
    exact ⟨h2, i, as.reverse, rfl, a1, a2, a3, by show l = cvt s e as.reverse - s.2.2 8 i; omega⟩
  · rintro ⟨h2, i', bs, e1, a1, a2, a3, a4⟩
    have e1 : i :: as.reverse = i' :: bs := e1
    injection e1 with e1 e2
    subst e1 e2
    have a4 : l = cvt s e as.reverse - s.2.2 8 i := a4
    obtain ⟨p, b1, b2, b3, b4, b5⟩ := vr.mp ⟨a1, a2, a3⟩
    subst b4
    exact ⟨b3, h2, b1, (h.pc ok b3 b1).mpr ⟨hr, b2, b5⟩, by show s.2.2 11 e - l = mm_pt s i as; omega⟩
theorem cHp.Fu0 (ok : mm_ok s) (h : cHp s pl po Lv) (hr : ¬ cRs po) (g : Nat) (x : mm_P) : ¬ mm_Fu s g x := by
  rintro ⟨h1, h2, h3, h4, h5⟩
  exact hr ((h.pc ok h1 h3).mp h4).1
theorem cHp.sp0 (ok : mm_ok s) (h : cHp s pl po Lv) (hr : ¬ cRs po) (k : Nat) : mm_sp s k [] :=
  ⟨List.Pairwise.nil, fun x hx => absurd hx List.not_mem_nil, fun g _ => px_LG.nil (h.Fu0 ok hr g)⟩
theorem cHp.sp (ok : mm_ok s) (h : cHp s pl po Lv) (hr : cRs po) {k : Nat} {W : List cW} (hW : cLG s Lv k 60 W) : W = (W.map cPm).map cWm ∧ mm_sp s k (W.map cPm) := by
  have e : W = (W.map cPm).map cWm := by
    rw [List.map_map]
    conv => lhs; rw [← List.map_id W]
    refine List.map_congr_left fun w hw => ?_
    have := hW.mem hw
    unfold cFP at this
    rw [if_pos rfl] at this
    obtain ⟨i, as, e, -⟩ := this
    exact (cWm_Pm (w := w) (by rw [e]; exact List.cons_ne_nil _ _)).symm
  refine ⟨e, ?_⟩
  generalize W.map cPm = Z at e ⊢
  subst e
  obtain ⟨h1, h2, h3⟩ := hW
  refine ⟨(List.pairwise_map.mp h1).imp fun {a b} z => z, fun x hx => h2 _ (List.mem_map.mpr ⟨x, hx, rfl⟩), fun g hg => ?_⟩
  have LG := h3 g hg
  rw [List.filter_map] at LG
  have ef : Z.filter ((fun w => cgr s w == g) ∘ cWm) = Z.filter (fun x => s.2.1 12 x.2.2.2 == g) := rfl
  rw [ef] at LG
  obtain ⟨l1, l2, l3, l4⟩ := LG
  have hF : ∀ x, (cgr s (cWm x) = g ∧ cFP s Lv 60 (cWm x)) ↔ mm_Fu s g x := fun x => by
    unfold cFP
    rw [if_pos rfl]
    exact (h.Fu ok hr g x).symm
  refine ⟨(List.pairwise_map.mp l1).imp fun {a b} z => z, fun x hx => (hF x).mp (l2 _ (List.mem_map.mpr ⟨x, hx, rfl⟩)), by rw [List.length_map] at l3; exact l3, fun x hx hn => ?_⟩
  obtain ⟨e1, e2⟩ := l4 (cWm x) ((hF x).mpr hx) fun z => by
    obtain ⟨y, hy, ey⟩ := List.mem_map.mp z
    have : y = x := by rw [← cPm_Wm y, ey, cPm_Wm]
    rw [this] at hy
    exact hn hy
  rw [List.length_map] at e1
  exact ⟨e1, fun y hy => e2 _ (List.mem_map.mpr ⟨y, hy, rfl⟩)⟩
end CPM
