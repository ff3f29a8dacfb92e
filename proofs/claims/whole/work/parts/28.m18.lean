/-! ===== the pins in an order of arcs ===== -/
def mm_K2 (s : mm_S) (f g : Nat → Nat) (t : mm_S) : Prop := t.1 = s.1 ∧ (∀ k, k ≠ 26 → k ≠ 29 → t.2.1 k = s.2.1 k) ∧ t.2.2 = s.2.2 ∧ t.2.1 26 = f ∧ t.2.1 29 = g
theorem mm_K2.F {s t : mm_S} {f g : Nat → Nat} (h : mm_K2 s f g t) (j x : Nat) : mm_K2 s (px_upN f j x) g (mm_A t 26 j x) :=
  ⟨h.1, fun k h1 h2 => (if_neg h1).trans (h.2.1 k h1 h2), h.2.2.1, by rw [mr_A0, h.2.2.2.1], (mr_Aw t j x (by decide)).trans h.2.2.2.2⟩
theorem mm_K2.G {s t : mm_S} {f g : Nat → Nat} (h : mm_K2 s f g t) (j x : Nat) : mm_K2 s f (px_upN g j x) (mm_A t 29 j x) :=
  ⟨h.1, fun k h1 h2 => (if_neg h2).trans (h.2.1 k h1 h2), h.2.2.1, (mr_Aw t j x (by decide)).trans h.2.2.2.1, by rw [mr_A0, h.2.2.2.2]⟩
/-- an order of the first n pins: g names them, f marks them; arcs lead from what is marked before -/
def mm_ord (s : mm_S) (f g : Nat → Nat) (n : Nat) : Prop := (∀ q, q < 60 → f q ≤ 1) ∧ (∀ j, j < n → g j < s.1 1 ∧ f (g j) = 1 ∧ ∀ a, a < s.1 6 → s.2.1 4 a = g j → ∃ i, i < j ∧ g i = s.2.1 3 a) ∧ (∀ i j, i < j → j < n → g i ≠ g j) ∧ (∀ q, q < 60 → f q = 1 → ∃ j, j < n ∧ g j = q) ∧ px_cnt f 0 (s.1 1) + n = s.1 1
theorem px_cnt_pos {f : Nat → Nat} : ∀ {k : Nat}, 0 < px_cnt f 0 k → ∃ q, q < k ∧ f q = 0 := by
  intro k
  induction k with
  | zero => intro h; exact absurd h (Nat.lt_irrefl _)
  | succ k ih =>
    intro h
    replace h : 0 < px_cnt f 0 k + (if f k = 0 then 1 else 0) := h
    by_cases e : f k = 0
    · exact ⟨k, by omega, e⟩
    · rw [if_neg e] at h
      obtain ⟨q, h1, h2⟩ := ih h
      exact ⟨q, by omega, h2⟩
def mm_rdy (s : mm_S) (f : Nat → Nat) (p : Nat) : Prop := f p = 0 ∧ ∀ a, a < s.1 6 → s.2.1 4 a = p → f (s.2.1 3 a) = 1
theorem mm_rdy_ex {s : mm_S} (ok : mm_ok s) {f : Nat → Nat} (hf : ∀ q, q < 60 → f q ≤ 1) {q : Nat} (hq : q < s.1 1) (h0 : f q = 0) : ∃ p, p < s.1 1 ∧ mm_rdy s f p := by
  obtain ⟨rk, hr⟩ := ok.2.2.2.2.2.2.2
  have h1 := ok.1.1
  have key : ∀ (u q : Nat), rk q < u → q < s.1 1 → f q = 0 → ∃ p, p < s.1 1 ∧ mm_rdy s f p := by
    intro u
    induction u with
    | zero => intro q h; exact absurd h (Nat.not_lt_zero _)
    | succ u ih =>
      intro q hu hq h0
      rcases Classical.em (∃ a, a < s.1 6 ∧ s.2.1 4 a = q ∧ f (s.2.1 3 a) ≠ 1) with ⟨a, a1, a2, a3⟩ | h
      · have b := ok.2.1 a a1
        have := hf (s.2.1 3 a) (by omega)
        have := hr a a1
        rw [a2] at this
        exact ih (s.2.1 3 a) (by omega) b.1 (by omega)
      · exact ⟨q, hq, h0, fun a a1 a2 => Decidable.byContradiction fun z => h ⟨a, a1, a2, z⟩⟩
  exact key (rk q + 1) q (by omega) hq h0
theorem mm_ord.ext {s : mm_S} (h1 : s.1 1 ≤ 60) {f g : Nat → Nat} {n p : Nat} (h : mm_ord s f g n) (hp : p < s.1 1) (hr : mm_rdy s f p) (hab : ∀ a, a < s.1 6 → s.2.1 3 a < s.1 1) : mm_ord s (px_upN f p 1) (px_upN g n p) (n + 1) := by
  obtain ⟨i1, i2, i3, i4, i5⟩ := h
  have gj : ∀ j, j < n → px_upN g n p j = g j := fun j hj => if_neg (by omega)
  have gn : px_upN g n p n = p := if_pos rfl
  have fp : px_upN f p 1 p = 1 := if_pos rfl
  have fq : ∀ q, f q = 1 → px_upN f p 1 q = 1 := by
    intro q hq
    unfold px_upN
    split
    · rfl
    · exact hq
  refine ⟨?_, ?_, ?_, ?_, ?_⟩
  · intro q hq
    unfold px_upN
    split
    · decide
    · exact i1 q hq
  · intro j hj
    by_cases e : j = n
    · subst e
      rw [gn]
      refine ⟨hp, fp, fun a a1 a2 => ?_⟩
      obtain ⟨i, hi, e⟩ := i4 _ (by have := hab a a1; omega) (hr.2 a a1 a2)
      exact ⟨i, hi, by rw [gj i hi]; exact e⟩
    · rw [gj j (by omega)]
      obtain ⟨j1, j2, j3⟩ := i2 j (by omega)
      refine ⟨j1, fq _ j2, fun a a1 a2 => ?_⟩
      obtain ⟨i, hi, e⟩ := j3 a a1 a2
      exact ⟨i, hi, by rw [gj i (by omega)]; exact e⟩
  · intro i j hij hj
    by_cases e : j = n
    · subst e
      rw [gn, gj i hij]
      intro z
      have := (i2 i hij).2.1
      rw [z, hr.1] at this
      exact absurd this (by decide)
    · rw [gj j (by omega), gj i (by omega)]
      exact i3 i j hij (by omega)
  · intro q hq hf
    by_cases e : q = p
    · exact ⟨n, by omega, by rw [gn]; exact e.symm⟩
    · obtain ⟨j, hj, e'⟩ := i4 q hq (by rw [← hf]; exact (if_neg e).symm)
      exact ⟨j, by omega, by rw [gj j hj]; exact e'⟩
  · have := px_cnt_up (f := f) hr.1 (k := s.1 1) hp
    omega
def mq_arr (s : mm_S) (X : px_M) : px_Q := fun o M' => o = .inl none ∧ ∃ (t : mm_S) (f g : Nat → Nat), M' = mm_M t X ∧ mm_K2 s f g t ∧ mm_ord s f g (s.1 1)
set_option maxRecDepth 100000 in
set_option maxHeartbeats 4000000 in
theorem me_arrange (s : mm_S) (X : px_M) (ok : mm_ok s) : px_Met 0 0 0 mX5_arrange [.inr (1, 0)] (mm_M s X) (mq_arr s X) := by
  have h1 := ok.1.1
  have h6 := ok.1.2.1
  refine px_ofW (by decide) W_mX5_arrange (Nat.le_of_ble_eq_true rfl) ?_
  have outer : ∀ (u n : Nat) (f g : Nat → Nat) (t : mm_S), n ≤ s.1 1 → s.1 1 < n + u → mm_K2 s f g t → mm_ord s f g n → px_W 0 0 0 mX5_arrange (mq_arr s X) 23 [(0, .inr (1, 0)), (1, .inl (.int (nI n)))] [] (mm_M t X) 0 0 := by
    intro u
    induction u with
    | zero => intro n f g t g1 g2; omega
    | succ u ih =>
      intro n f g t g1 g2 ht ho
      have e1 : t.1 1 = s.1 1 := by rw [ht.1]
      have e6 : t.1 6 = s.1 6 := by rw [ht.1]
      have r3 : t.2.1 3 = s.2.1 3 := ht.2.1 3 (by decide) (by decide)
      have r4 : t.2.1 4 = s.2.1 4 := ht.2.1 4 (by decide) (by decide)
      refine px_iload_n dX5_arrange_23 rfl ?_
      refine px_aload_n dX5_arrange_24 rfl trivial ?_
      refine mm_gets dX5_arrange_25 F_RX5_85 (by decide) (by (try simp only [mr_In, mr_Ie, mr_A1, mr_D1, mr_R1, mr_T1, ne_eq, Nat.reduceEqDiff, not_false_eq_true]); rfl) ?_
      refine pn_icmp_ge (tgt := 143) dX5_arrange_28 (by decide) (nI_leI (by omega) (by omega)) (fun z1 => ?_) (fun z1 => ?_)
      · refine px_vret dX5_arrange_143 rfl ⟨rfl, t, f, g, rfl, ht, ?_⟩ (by omega) (by omega)
        rw [show n = s.1 1 by omega] at ho
        exact ho
      · obtain ⟨q, hq, hq0⟩ := px_cnt_pos (f := f) (k := s.1 1) (by have := ho.2.2.2.2; omega)
        obtain ⟨P, hP, hPr⟩ := mm_rdy_ex ok ho.1 hq hq0
        have find : ∀ (v p : Nat), p ≤ P → P < p + v → px_W 0 0 0 mX5_arrange (mq_arr s X) 39 [(0, .inr (1, 0)), (1, .inl (.int (nI n))), (2, .inl (.int (nI p)))] [] (mm_M t X) 0 0 := by
          intro v
          induction v with
          | zero => intro p p1 p2; omega
          | succ v ihv =>
            intro p p1 p2
            have fp := ho.1 p (by omega)
            have loop : ∀ (w a y : Nat), a ≤ s.1 6 → s.1 6 < a + w → y ≤ 1 → (y = 1 ↔ f p = 0 ∧ ∀ a', a' < a → s.2.1 4 a' = p → f (s.2.1 3 a') = 1) → px_W 0 0 0 mX5_arrange (mq_arr s X) 57 [(0, .inr (1, 0)), (1, .inl (.int (nI n))), (2, .inl (.int (nI p))), (3, .inl (.int (nI y))), (4, .inl (.int (nI a)))] [] (mm_M t X) 0 0 := by
              intro w
              induction w with
              | zero => intro a y w1 w2; omega
              | succ w ihw =>
                intro a y w1 w2 y1 hy
                refine px_iload dX5_arrange_57 rfl ?_
                refine px_aload_n dX5_arrange_59 rfl trivial ?_
                refine mm_gets dX5_arrange_60 F_RX5_96 (by decide) (by (try simp only [mr_In, mr_Ie, mr_A1, mr_D1, mr_R1, mr_T1, ne_eq, Nat.reduceEqDiff, not_false_eq_true]); rfl) ?_
                refine pn_icmp_ge (tgt := 108) dX5_arrange_63 (by decide) (nI_leI (by omega) (by omega)) (fun z2 => ?_) (fun z2 => ?_)
                · have hy' : y = 1 ↔ mm_rdy s f p := by rw [hy, show a = s.1 6 by omega]; exact Iff.rfl
                  refine px_iload_n dX5_arrange_108 rfl ?_
                  refine px_iload_n dX5_arrange_109 rfl ?_
                  refine pn_if_eq (tgt := 117) dX5_arrange_110 (by decide) (pn_z (by omega)) (fun z3 => ?_) (fun z3 => ?_)
                  · have npr : ¬ mm_rdy s f p := fun z => by have := hy'.mpr z; omega
                    have pne : p ≠ P := fun e => npr (e ▸ hPr)
                    refine px_iconst (v := nI 1) dX5_arrange_117 (by decide) ?_
                    refine pn_iadd dX5_arrange_118 (by first | exact nI_add _ _ | rfl) ?_
                    refine px_istore_n dX5_arrange_119 (by decide) ?_
                    refine px_goto (tgt := 35) dX5_arrange_120 (by decide) ?_
                    refine px_iload_n dX5_arrange_35 rfl ?_
                    refine pn_if_ne (tgt := 123) dX5_arrange_36 (by decide) (pn_z (by omega)) (fun z4 => ?_) (fun z4 => ?_)
                    · exact absurd z3 z4
                    · exact px_sub (ihv (p + 1) (by omega) (by omega)) rfl
                  · have pr : mm_rdy s f p := hy'.mp (by omega)
                    refine px_iconst (v := nI 0) dX5_arrange_113 (by decide) ?_
                    refine px_goto (tgt := 118) dX5_arrange_114 (by decide) ?_
                    refine pn_iadd dX5_arrange_118 (by first | exact nI_add _ _ | rfl) ?_
                    refine px_istore_n dX5_arrange_119 (by decide) ?_
                    refine px_goto (tgt := 35) dX5_arrange_120 (by decide) ?_
                    refine px_iload_n dX5_arrange_35 rfl ?_
                    refine pn_if_ne (tgt := 123) dX5_arrange_36 (by decide) (pn_z (by omega)) (fun z4 => ?_) (fun z4 => ?_)
                    · have kt := (ht.F p 1).G n p
                      refine px_aload_n dX5_arrange_123 rfl trivial ?_
                      refine mm_get dX5_arrange_124 F_RX5_65 rfl ?_
                      refine px_iload_n dX5_arrange_127 rfl ?_
                      refine px_iconst (v := nI 1) dX5_arrange_128 (by decide) ?_
                      refine mm_ast_z dX5_arrange_129 rfl (by first | rfl | assumption) (by first | rfl | assumption) (by first | assumption | omega) (by omega) ?_
                      refine px_aload_n dX5_arrange_130 rfl trivial ?_
                      refine mm_get dX5_arrange_131 F_RX5_75 rfl ?_
                      refine px_iload_n dX5_arrange_134 rfl ?_
                      refine px_iload_n dX5_arrange_135 rfl ?_
                      refine mm_ast dX5_arrange_136 rfl (by first | rfl | assumption) (by first | rfl | assumption) (by first | assumption | omega) ?_
                      refine px_iinc dX5_arrange_137 rfl (pn_i1 _) (by decide) ?_
                      refine px_goto (tgt := 23) dX5_arrange_140 (by decide) ?_
                      exact px_sub (ih (n + 1) _ _ _ (by omega) (by omega) kt (ho.ext h1 (by omega) pr fun a ha => (ok.2.1 a ha).1)) rfl
                    · exact absurd z4 z3
                · obtain ⟨b1, b2, -, -⟩ := ok.2.1 a (by omega)
                  have b1' : t.2.1 3 a < 60 := by rw [r3]; omega
                  have b2' : t.2.1 4 a < 60 := by rw [r4]; omega
                  have fa := ho.1 (s.2.1 3 a) (by omega)
                  have go : ∀ y', y' ≤ 1 → (y' = 1 ↔ y = 1 ∧ (s.2.1 4 a = p → f (s.2.1 3 a) = 1)) → px_W 0 0 0 mX5_arrange (mq_arr s X) 101 [(0, .inr (1, 0)), (1, .inl (.int (nI n))), (2, .inl (.int (nI p))), (4, .inl (.int (nI a)))] [.inl (.int (nI y'))] (mm_M t X) 0 0 := by
                    intro y' y1' hy'
                    refine px_istore_n dX5_arrange_101 (by decide) ?_
                    refine px_iinc dX5_arrange_102 rfl (pn_i1 _) (by decide) ?_
                    refine px_goto (tgt := 57) dX5_arrange_105 (by decide) ?_
                    refine px_sub (ihw (a + 1) y' (by omega) (by omega) y1' ?_) rfl
                    rw [hy', hy]
                    constructor
                    · rintro ⟨⟨c1, c2⟩, c3⟩
                      refine ⟨c1, fun a' ha' => ?_⟩
                      by_cases e : a' = a
                      · rw [e]; exact c3
                      · exact c2 a' (by omega)
                    · rintro ⟨c1, c2⟩
                      exact ⟨⟨c1, fun a' ha' => c2 a' (by omega)⟩, c2 a (by omega)⟩
                  have yes : y = 1 ∧ (s.2.1 4 a = p → f (s.2.1 3 a) = 1) → px_W 0 0 0 mX5_arrange (mq_arr s X) 96 [(0, .inr (1, 0)), (1, .inl (.int (nI n))), (2, .inl (.int (nI p))), (4, .inl (.int (nI a)))] [] (mm_M t X) 0 0 := by
                    intro z
                    refine px_iconst (v := nI 1) dX5_arrange_96 (by decide) ?_
                    refine px_goto (tgt := 101) dX5_arrange_97 (by decide) ?_
                    exact px_sub (go 1 (by decide) ⟨fun _ => z, fun _ => rfl⟩) rfl
                  have no : ¬ (y = 1 ∧ (s.2.1 4 a = p → f (s.2.1 3 a) = 1)) → px_W 0 0 0 mX5_arrange (mq_arr s X) 100 [(0, .inr (1, 0)), (1, .inl (.int (nI n))), (2, .inl (.int (nI p))), (4, .inl (.int (nI a)))] [] (mm_M t X) 0 0 := by
                    intro z
                    refine px_iconst (v := nI 0) dX5_arrange_100 (by decide) ?_
                    exact px_sub (go 0 (by decide) ⟨fun z' => by omega, fun z' => (z z').elim⟩) rfl
                  refine px_iload_n dX5_arrange_66 rfl ?_
                  refine pn_if_eq (tgt := 100) dX5_arrange_67 (by decide) (pn_z (by omega)) (fun z3 => ?_) (fun z3 => ?_)
                  · exact px_sub (no (fun z => by omega)) rfl
                  · refine px_aload_n dX5_arrange_70 rfl trivial ?_
                    refine mm_get dX5_arrange_71 F_RX5_16 rfl ?_
                    refine px_iload dX5_arrange_74 rfl ?_
                    refine mm_ald dX5_arrange_76 rfl (by first | rfl | assumption) (by (try simp only [mr_I2, mr_An, mr_Ae, mr_D2, mr_Rn, mr_Re, mr_T2, ne_eq, Nat.reduceEqDiff, not_false_eq_true]); rfl) (by first | assumption | omega) ?_
                    refine px_iload_n dX5_arrange_77 rfl ?_
                    refine pn_icmp_ne (tgt := 96) dX5_arrange_78 (by decide) (nI_eq (by omega) (by omega)) (fun z4 => ?_) (fun z4 => ?_)
                    · rw [r4] at z4
                      exact px_sub (yes ⟨by omega, fun z => (z4 z).elim⟩) rfl
                    · rw [r4] at z4
                      have fa' : t.2.1 26 (t.2.1 3 a) ≤ 1 := by rw [ht.2.2.2.1, r3]; exact fa
                      refine px_aload_n dX5_arrange_81 rfl trivial ?_
                      refine mm_get dX5_arrange_82 F_RX5_65 rfl ?_
                      refine px_aload_n dX5_arrange_85 rfl trivial ?_
                      refine mm_get dX5_arrange_86 F_RX5_13 rfl ?_
                      refine px_iload dX5_arrange_89 rfl ?_
                      refine mm_ald dX5_arrange_91 rfl (by first | rfl | assumption) (by (try simp only [mr_I2, mr_An, mr_Ae, mr_D2, mr_Rn, mr_Re, mr_T2, ne_eq, Nat.reduceEqDiff, not_false_eq_true]); rfl) (by first | assumption | omega) ?_
                      refine mm_ald_z dX5_arrange_92 rfl (by first | rfl | assumption) (by (try simp only [mr_I2, mr_An, mr_Ae, mr_D2, mr_Rn, mr_Re, mr_T2, ne_eq, Nat.reduceEqDiff, not_false_eq_true]); rfl) (by first | assumption | omega) ?_
                      refine pn_if_eq (tgt := 100) dX5_arrange_93 (by decide) (pn_z (by omega)) (fun z5 => ?_) (fun z5 => ?_)
                      · rw [ht.2.2.2.1, r3] at z5
                        exact px_sub (no (fun z => by have := z.2 z4; omega)) rfl
                      · rw [ht.2.2.2.1, r3] at z5
                        exact px_sub (yes ⟨by omega, fun _ => by omega⟩) rfl
            have fp' : t.2.1 26 p ≤ 1 := by rw [ht.2.2.2.1]; exact fp
            refine px_aload_n dX5_arrange_39 rfl trivial ?_
            refine mm_get dX5_arrange_40 F_RX5_65 rfl ?_
            refine px_iload_n dX5_arrange_43 rfl ?_
            refine mm_ald_z dX5_arrange_44 rfl (by first | rfl | assumption) (by (try simp only [mr_I2, mr_An, mr_Ae, mr_D2, mr_Rn, mr_Re, mr_T2, ne_eq, Nat.reduceEqDiff, not_false_eq_true]); rfl) (by first | assumption | omega) ?_
            refine pn_if_ne (tgt := 52) dX5_arrange_45 (by decide) (pn_z (by omega)) (fun z2 => ?_) (fun z2 => ?_)
            · rw [ht.2.2.2.1] at z2
              refine px_iconst (v := nI 0) dX5_arrange_52 (by decide) ?_
              refine px_istore_n dX5_arrange_53 (by decide) ?_
              refine px_iconst (v := nI 0) dX5_arrange_54 (by decide) ?_
              refine px_istore dX5_arrange_55 (by decide) ?_
              exact px_sub (loop (s.1 6 + 1) 0 0 (by omega) (by omega) (by omega) ⟨fun z => by omega, fun z => (z2 z.1).elim⟩) rfl
            · rw [ht.2.2.2.1] at z2
              refine px_iconst (v := nI 1) dX5_arrange_48 (by decide) ?_
              refine px_goto (tgt := 53) dX5_arrange_49 (by decide) ?_
              refine px_istore_n dX5_arrange_53 (by decide) ?_
              refine px_iconst (v := nI 0) dX5_arrange_54 (by decide) ?_
              refine px_istore dX5_arrange_55 (by decide) ?_
              exact px_sub (loop (s.1 6 + 1) 0 1 (by omega) (by omega) (by omega) ⟨fun _ => ⟨z2, fun a' z => by omega⟩, fun _ => rfl⟩) rfl
        refine px_iconst (v := nI 0) dX5_arrange_31 (by decide) ?_
        refine px_istore_n dX5_arrange_32 (by decide) ?_
        refine px_iconst (v := nI 0) dX5_arrange_33 (by decide) ?_
        refine px_istore_n dX5_arrange_34 (by decide) ?_
        refine px_iload_n dX5_arrange_35 rfl ?_
        refine pn_if_ne (tgt := 123) dX5_arrange_36 (by decide) (pn_z (by omega)) (fun z2 => ?_) (fun z2 => ?_)
        · exact absurd rfl z2
        · exact px_sub (find (P + 1) 0 (by omega) (by omega)) rfl
  have init : ∀ (u j : Nat) (f : Nat → Nat) (t : mm_S), j ≤ 60 → 60 < j + u → mm_K2 s f (s.2.1 29) t → (∀ q, q < j → f q = 0) → px_W 0 0 0 mX5_arrange (mq_arr s X) 2 [(0, .inr (1, 0)), (1, .inl (.int (nI j)))] [] (mm_M t X) 0 0 := by
    intro u
    induction u with
    | zero => intro j f t g1 g2; omega
    | succ u ih =>
      intro j f t g1 g2 ht hf
      refine px_iload_n dX5_arrange_2 rfl ?_
      refine px_bipush (v := nI 60) dX5_arrange_3 (by decide) ?_
      refine pn_icmp_ge (tgt := 21) dX5_arrange_5 (by decide) (nI_leI (by omega) (by omega)) (fun z1 => ?_) (fun z1 => ?_)
      · refine px_iconst (v := nI 0) dX5_arrange_21 (by decide) ?_
        refine px_istore_n dX5_arrange_22 (by decide) ?_
        refine px_sub (outer (s.1 1 + 1) 0 f (s.2.1 29) t (by omega) (by omega) ht ⟨fun q hq => by rw [hf q (by omega)]; decide, fun j hj => by omega, fun i j _ hj => by omega, fun q hq hq1 => by rw [hf q (by omega)] at hq1; exact absurd hq1 (by decide), ?_⟩) rfl
        have : ∀ k, k ≤ 60 → px_cnt f 0 k = k := by
          intro k
          induction k with
          | zero => intro _; rfl
          | succ k ihk =>
            intro hk
            show px_cnt f 0 k + (if f k = 0 then 1 else 0) = k + 1
            rw [ihk (by omega), if_pos (hf k (by omega))]
        rw [this _ h1]; exact Nat.add_zero _
      · refine px_aload_n dX5_arrange_8 rfl trivial ?_
        refine mm_get dX5_arrange_9 F_RX5_65 rfl ?_
        refine px_iload_n dX5_arrange_12 rfl ?_
        refine px_iconst (v := nI 0) dX5_arrange_13 (by decide) ?_
        refine mm_ast_z dX5_arrange_14 rfl (by first | rfl | assumption) (by first | rfl | assumption) (by first | assumption | omega) (by omega) ?_
        refine px_iinc dX5_arrange_15 rfl (pn_i1 _) (by decide) ?_
        refine px_goto (tgt := 2) dX5_arrange_18 (by decide) ?_
        refine px_sub (ih (j + 1) _ _ (by omega) (by omega) (ht.F j 0) fun q hq => ?_) rfl
        unfold px_upN
        split
        · rfl
        · exact hf q (by omega)
  refine px_iconst (v := nI 0) dX5_arrange_0 (by decide) ?_
  refine px_istore_n dX5_arrange_1 (by decide) ?_
  exact px_sub (init 61 0 (s.2.1 26) s (by omega) (by omega) ⟨rfl, fun _ _ _ => rfl, rfl, rfl, rfl⟩ (fun q hq => by omega)) rfl
