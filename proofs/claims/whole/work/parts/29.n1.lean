/-! ===== lists of the first m: what comes, what stays ===== -/
theorem px_sub_len {α : Type} [DecidableEq α] : ∀ (l L : List α), l.Nodup → (∀ x ∈ l, x ∈ L) → l.length ≤ L.length := by
  intro l
  induction l with
  | nil => intro L _ _; exact Nat.zero_le _
  | cons x l ih =>
    intro L hn hs
    obtain ⟨h1, h2⟩ := List.nodup_cons.mp hn
    have hx := hs x List.mem_cons_self
    have := ih (L.erase x) h2 fun y hy => (List.mem_erase_of_ne (fun e : y = x => h1 (by rw [← e]; exact hy))).mpr (hs y (List.mem_cons_of_mem _ hy))
    rw [List.length_erase_of_mem hx] at this
    have := List.length_pos_of_mem hx
    show l.length + 1 ≤ _
    omega
theorem mm_eR.irr (e : mm_E) : ¬ mm_eR e e := by
  rintro (h | ⟨-, h⟩)
  · omega
  · have := (px_cm_eq (mm_key e) (mm_key e)).mpr rfl
    omega
theorem mm_eR.tr {a b c : mm_E} (h : mm_eR a b) (g : mm_eR b c) : mm_eR a c := by
  rcases h with h | ⟨h1, h2⟩
  · rcases g with g | ⟨g1, g2⟩
    · exact Or.inl (by omega)
    · exact Or.inl (by omega)
  · rcases g with g | ⟨g1, g2⟩
    · exact Or.inl (by omega)
    · exact Or.inr ⟨h1.trans g1, px_cm_tr _ _ _ h2 g2⟩
theorem mm_key_inj {a b : mm_E} (h : mm_key a = mm_key b) : a.2 = b.2 := by
  obtain ⟨t, i, as⟩ := a
  obtain ⟨t', i', as'⟩ := b
  have h' : i :: as.reverse = i' :: as'.reverse := h
  obtain ⟨h1, h2⟩ := List.cons.inj h'
  have h3 := List.reverse_inj.mp h2
  rw [h1, h3]
theorem mm_eR.tot {a b : mm_E} (h : a ≠ b) : mm_eR a b ∨ mm_eR b a := by
  by_cases h1 : b.1 < a.1
  · exact Or.inl (Or.inl h1)
  · by_cases h2 : a.1 < b.1
    · exact Or.inr (Or.inl h2)
    · have e : a.1 = b.1 := by omega
      have hk : mm_key a ≠ mm_key b := fun z => h (Prod.ext e (mm_key_inj z))
      have h3 := px_cm_le (mm_key a) (mm_key b)
      have h4 := px_cm_eq (mm_key a) (mm_key b)
      have h5 := px_cm_sw (mm_key a) (mm_key b)
      rcases (show px_cm (mm_key a) (mm_key b) = 0 ∨ px_cm (mm_key a) (mm_key b) = 1 ∨ px_cm (mm_key a) (mm_key b) = 2 by omega) with z | z | z
      · exact Or.inl (Or.inr ⟨e, z⟩)
      · exact absurd (h4.mp z) hk
      · exact Or.inr (Or.inr ⟨e.symm, h5.mp z⟩)
theorem mm_eR.asy {a b : mm_E} (h : mm_eR a b) (g : mm_eR b a) : False := mm_eR.irr a (h.tr g)
/-- the first m, in order, of the rows that came -/
def px_L1 (m : Nat) (F : mm_E → Prop) (L : List mm_E) : Prop := L.Pairwise mm_eR ∧ (∀ e ∈ L, F e) ∧ L.length ≤ m ∧ ∀ e, F e → e ∉ L → L.length = m ∧ ∀ x ∈ L, mm_eR x e
theorem px_L1.nd {m : Nat} {F : mm_E → Prop} {L : List mm_E} (h : px_L1 m F L) : L.Nodup := List.nodup_iff_pairwise_ne.mpr (h.1.imp fun {a b} hab (e : a = b) => mm_eR.irr a (by rw [← e] at hab; exact hab))
theorem px_L1.nil {m : Nat} {F : mm_E → Prop} (h : ∀ e, ¬ F e) : px_L1 m F [] := ⟨List.Pairwise.nil, fun e he => absurd he List.not_mem_nil, Nat.zero_le _, fun e he => absurd he (h e)⟩
theorem px_L1.congr {m : Nat} {F G : mm_E → Prop} {L : List mm_E} (h : px_L1 m F L) (hG : ∀ e, G e ↔ F e) : px_L1 m G L := ⟨h.1, fun e he => (hG e).mpr (h.2.1 e he), h.2.2.1, fun e he => h.2.2.2 e ((hG e).mp he)⟩
theorem px_L1.ins {m : Nat} {F : mm_E → Prop} {A B : List mm_E} {y : mm_E} (h : px_L1 m F (A ++ B)) (hy : ¬ F y) (hA : ∀ e ∈ A, mm_eR e y) (hB : ∀ e, B.head? = some e → ¬ mm_eR e y) : px_L1 m (fun e => F e ∨ e = y) ((A ++ y :: B).take m) := by
  obtain ⟨h1, h2, h3, h4⟩ := h
  obtain ⟨p1, p2, p3⟩ := List.pairwise_append.mp h1
  have yL : y ∉ A ++ B := fun z => hy (h2 y z)
  have yB : ∀ e ∈ B, mm_eR y e := by
    intro e he
    cases B with
    | nil => exact absurd he List.not_mem_nil
    | cons b B =>
      have hb : mm_eR y b := by
        rcases mm_eR.tot (show y ≠ b from fun e => yL (by rw [e]; simp)) with z | z
        · exact z
        · exact absurd z (hB b rfl)
      rcases List.mem_cons.mp he with e' | e'
      · rw [e']; exact hb
      · exact hb.tr ((List.pairwise_cons.mp p2).1 e e')
  have pw : (A ++ y :: B).Pairwise mm_eR := List.pairwise_append.mpr ⟨p1, List.pairwise_cons.mpr ⟨yB, p2⟩, fun a ha b hb => by
    rcases List.mem_cons.mp hb with e | e
    · rw [e]; exact hA a ha
    · exact p3 a ha b e⟩
  have mem : ∀ e, e ∈ A ++ y :: B ↔ e ∈ A ++ B ∨ e = y := by
    intro e
    simp only [List.mem_append, List.mem_cons]
    constructor
    · rintro (h | h | h)
      · exact Or.inl (Or.inl h)
      · exact Or.inr h
      · exact Or.inl (Or.inr h)
    · rintro ((h | h) | h)
      · exact Or.inl h
      · exact Or.inr (Or.inr h)
      · exact Or.inr (Or.inl h)
  refine ⟨pw.sublist (List.take_sublist _ _), fun e he => ((mem e).mp (List.mem_of_mem_take he)).imp (h2 e) id, by rw [List.length_take]; exact Nat.min_le_left _ _, fun e he hn => ?_⟩
  have hlen : (A ++ y :: B).length = (A ++ B).length + 1 := by simp only [List.length_append, List.length_cons]; omega
  by_cases hm : (A ++ y :: B).length ≤ m
  · rw [List.take_of_length_le hm] at hn
    exfalso
    rcases he with he | he
    · have := (h4 e he fun z => hn ((mem e).mpr (Or.inl z))).1
      omega
    · exact hn ((mem e).mpr (Or.inr he))
  · have hl : (A ++ B).length = m := by omega
    refine ⟨by rw [List.length_take]; omega, fun x hx => ?_⟩
    -- what is left out is the last of A ++ y :: B, or was left out before
    have hdrop : (A ++ y :: B).drop m ≠ [] := by
      intro z
      have := List.drop_eq_nil_iff.mp z
      omega
    have key : ∀ d ∈ (A ++ y :: B).drop m, mm_eR x d := by
      intro d hd
      have := List.take_append_drop m (A ++ y :: B)
      rw [← this] at pw
      exact (List.pairwise_append.mp pw).2.2 x hx d hd
    have ein : e ∈ A ++ y :: B → mm_eR x e := by
      intro z
      rw [← List.take_append_drop m (A ++ y :: B)] at z
      rcases List.mem_append.mp z with z | z
      · exact absurd z hn
      · exact key e z
    by_cases eL : e ∈ A ++ y :: B
    · exact ein eL
    · have eF : F e := he.resolve_right fun z => eL ((mem e).mpr (Or.inr z))
      have eAB : e ∉ A ++ B := fun z => eL ((mem e).mpr (Or.inl z))
      have hall := (h4 e eF eAB).2
      rcases (mem x).mp (List.mem_of_mem_take hx) with z | z
      · exact hall x z
      · -- y itself: it stands before the one that is left out, which is not y
        rw [z]
        rcases List.exists_mem_of_ne_nil _ hdrop with ⟨d, hd⟩
        have yd := key d hd
        rw [z] at yd
        have dm : d ∈ A ++ B := by
          rcases (mem d).mp (List.mem_of_mem_drop hd) with w | w
          · exact w
          · rw [w] at yd; exact (mm_eR.irr y yd).elim
        exact yd.tr (hall d dm)
/-- what is the first m of some, where each of the others has m of these before it, is the first m of all -/
theorem px_L1.close {m : Nat} {F G : mm_E → Prop} {L : List mm_E} (h : px_L1 m F L) (hFG : ∀ e, F e → G e) (hG : ∀ e, G e → ¬ F e → ∃ l : List mm_E, l.Nodup ∧ l.length = m ∧ ∀ x ∈ l, F x ∧ mm_eR x e) : px_L1 m G L := by
  obtain ⟨h1, h2, h3, h4⟩ := h
  refine ⟨h1, fun e he => hFG e (h2 e he), h3, fun e he hn => ?_⟩
  rcases Classical.em (F e) with hF | hF
  · exact h4 e hF hn
  · obtain ⟨l, l1, l2, l3⟩ := hG e he hF
    rcases Classical.em (∃ x ∈ l, x ∉ L) with ⟨x, x1, x2⟩ | hall
    · obtain ⟨q1, q2⟩ := h4 x (l3 x x1).1 x2
      exact ⟨q1, fun z hz => (q2 z hz).tr (l3 x x1).2⟩
    · have hsub : ∀ x ∈ l, x ∈ L := fun x hx => Decidable.byContradiction fun z => hall ⟨x, hx, z⟩
      have hle := px_sub_len l L l1 hsub
      refine ⟨by omega, fun x hx => ?_⟩
      rcases Classical.em (x ∈ l) with z | z
      · exact (l3 x z).2
      · have := px_sub_len (x :: l) L (List.nodup_cons.mpr ⟨z, l1⟩) fun w hw => by
          rcases List.mem_cons.mp hw with e' | e'
          · rw [e']; exact hx
          · exact hsub w e'
        have this' : l.length + 1 ≤ L.length := this
        omega
