/-! ===== the first m of a group, in any order that is one; what comes from behind; a list is one alone ===== -/
def px_od {α : Type} (R : α → α → Prop) : Prop := (∀ a, ¬ R a a) ∧ (∀ a b c, R a b → R b c → R a c) ∧ ∀ a b, a ≠ b → R a b ∨ R b a
/-- the first m, in order, of the rows that came -/
def px_LG {α : Type} (R : α → α → Prop) (m : Nat) (F : α → Prop) (L : List α) : Prop := L.Pairwise R ∧ (∀ e ∈ L, F e) ∧ L.length ≤ m ∧ ∀ e, F e → e ∉ L → L.length = m ∧ ∀ x ∈ L, R x e
section PLG
variable {α : Type} {R : α → α → Prop}
theorem px_LG.nd (hR : px_od R) {m : Nat} {F : α → Prop} {L : List α} (h : px_LG R m F L) : L.Nodup := List.nodup_iff_pairwise_ne.mpr (h.1.imp fun {a b} hab (e : a = b) => hR.1 a (by rw [← e] at hab; exact hab))
theorem px_LG.nil {m : Nat} {F : α → Prop} (h : ∀ e, ¬ F e) : px_LG R m F [] := ⟨List.Pairwise.nil, fun e he => absurd he List.not_mem_nil, Nat.zero_le _, fun e he => absurd he (h e)⟩
theorem px_LG.congr {m : Nat} {F G : α → Prop} {L : List α} (h : px_LG R m F L) (hG : ∀ e, G e ↔ F e) : px_LG R m G L := ⟨h.1, fun e he => (hG e).mpr (h.2.1 e he), h.2.2.1, fun e he => h.2.2.2 e ((hG e).mp he)⟩
theorem px_LG.ins (hR : px_od R) {m : Nat} {F : α → Prop} {A B : List α} {y : α} (h : px_LG R m F (A ++ B)) (hy : ¬ F y) (hA : ∀ e ∈ A, R e y) (hB : ∀ e, B.head? = some e → ¬ R e y) : px_LG R m (fun e => F e ∨ e = y) ((A ++ y :: B).take m) := by
  obtain ⟨h1, h2, h3, h4⟩ := h
  obtain ⟨p1, p2, p3⟩ := List.pairwise_append.mp h1
  have yL : y ∉ A ++ B := fun z => hy (h2 y z)
  have yB : ∀ e ∈ B, R y e := by
    intro e he
    cases B with
    | nil => exact absurd he List.not_mem_nil
    | cons b B =>
      have hb : R y b := by
        rcases hR.2.2 _ _ (show y ≠ b from fun e => yL (by rw [e]; simp)) with z | z
        · exact z
        · exact absurd z (hB b rfl)
      rcases List.mem_cons.mp he with e' | e'
      · rw [e']; exact hb
      · exact hR.2.1 _ _ _ hb ((List.pairwise_cons.mp p2).1 e e')
  have pw : (A ++ y :: B).Pairwise R := List.pairwise_append.mpr ⟨p1, List.pairwise_cons.mpr ⟨yB, p2⟩, fun a ha b hb => by
    rcases List.mem_cons.mp hb with e | e
    · rw [e]; exact hA a ha
    · exact p3 a ha b e⟩
  have mem : ∀ e, e ∈ A ++ y :: B ↔ e ∈ A ++ B ∨ e = y := by
    intro e
    simp only [List.mem_append, List.mem_cons]
    constructor
    · rintro (h | h | h)
      · exact Or.inl (Or.inl h)
      · exact Or.inr h
      · exact Or.inl (Or.inr h)
    · rintro ((h | h) | h)
      · exact Or.inl h
      · exact Or.inr (Or.inr h)
      · exact Or.inr (Or.inl h)
  refine ⟨pw.sublist (List.take_sublist _ _), fun e he => ((mem e).mp (List.mem_of_mem_take he)).imp (h2 e) id, by rw [List.length_take]; exact Nat.min_le_left _ _, fun e he hn => ?_⟩
  have hlen : (A ++ y :: B).length = (A ++ B).length + 1 := by simp only [List.length_append, List.length_cons]; omega
  by_cases hm : (A ++ y :: B).length ≤ m
  · rw [List.take_of_length_le hm] at hn
    exfalso
    rcases he with he | he
    · have := (h4 e he fun z => hn ((mem e).mpr (Or.inl z))).1
      omega
    · exact hn ((mem e).mpr (Or.inr he))
  · have hl : (A ++ B).length = m := by omega
    refine ⟨by rw [List.length_take]; omega, fun x hx => ?_⟩
    -- what is left out is the last of A ++ y :: B, or was left out before
    have hdrop : (A ++ y :: B).drop m ≠ [] := by
      intro z
      have := List.drop_eq_nil_iff.mp z
      omega
    have key : ∀ d ∈ (A ++ y :: B).drop m, R x d := by
      intro d hd
      have := List.take_append_drop m (A ++ y :: B)
      rw [← this] at pw
      exact (List.pairwise_append.mp pw).2.2 x hx d hd
    have ein : e ∈ A ++ y :: B → R x e := by
      intro z
      rw [← List.take_append_drop m (A ++ y :: B)] at z
      rcases List.mem_append.mp z with z | z
      · exact absurd z hn
      · exact key e z
    by_cases eL : e ∈ A ++ y :: B
    · exact ein eL
    · have eF : F e := he.resolve_right fun z => eL ((mem e).mpr (Or.inr z))
      have eAB : e ∉ A ++ B := fun z => eL ((mem e).mpr (Or.inl z))
      have hall := (h4 e eF eAB).2
      rcases (mem x).mp (List.mem_of_mem_take hx) with z | z
      · exact hall x z
      · -- y itself: it stands before the one that is left out, which is not y
        rw [z]
        rcases List.exists_mem_of_ne_nil _ hdrop with ⟨d, hd⟩
        have yd := key d hd
        rw [z] at yd
        have dm : d ∈ A ++ B := by
          rcases (mem d).mp (List.mem_of_mem_drop hd) with w | w
          · exact w
          · rw [w] at yd; exact (hR.1 y yd).elim
        exact hR.2.1 _ _ _ yd (hall d dm)
/-- what is the first m of some, where each of the others has m of these before it, is the first m of all -/
theorem px_LG.close (hR : px_od R) [DecidableEq α] {m : Nat} {F G : α → Prop} {L : List α} (h : px_LG R m F L) (hFG : ∀ e, F e → G e) (hG : ∀ e, G e → ¬ F e → ∃ l : List α, l.Nodup ∧ l.length = m ∧ ∀ x ∈ l, F x ∧ R x e) : px_LG R m G L := by
  obtain ⟨h1, h2, h3, h4⟩ := h
  refine ⟨h1, fun e he => hFG e (h2 e he), h3, fun e he hn => ?_⟩
  rcases Classical.em (F e) with hF | hF
  · exact h4 e hF hn
  · obtain ⟨l, l1, l2, l3⟩ := hG e he hF
    rcases Classical.em (∃ x ∈ l, x ∉ L) with ⟨x, x1, x2⟩ | hall
    · obtain ⟨q1, q2⟩ := h4 x (l3 x x1).1 x2
      exact ⟨q1, fun z hz => hR.2.1 _ _ _ (q2 z hz) (l3 x x1).2⟩
    · have hsub : ∀ x ∈ l, x ∈ L := fun x hx => Decidable.byContradiction fun z => hall ⟨x, hx, z⟩
      have hle := px_sub_len l L l1 hsub
      refine ⟨by omega, fun x hx => ?_⟩
      rcases Classical.em (x ∈ l) with z | z
      · exact (l3 x z).2
      · have := px_sub_len (x :: l) L (List.nodup_cons.mpr ⟨z, l1⟩) fun w hw => by
          rcases List.mem_cons.mp hw with e' | e'
          · rw [e']; exact hx
          · exact hsub w e'
        have this' : l.length + 1 ≤ L.length := this
        omega

theorem px_od.asy (hR : px_od R) {a b : α} (h : R a b) (g : R b a) : False := hR.1 a (hR.2.1 _ _ _ h g)
theorem px_LG.uq (hR : px_od R) [DecidableEq α] {m : Nat} {F : α → Prop} {L L' : List α} (h : px_LG R m F L) (g : px_LG R m F L') : ∀ x, x ∈ L → x ∈ L' := by
  intro x hx
  refine Decidable.byContradiction fun hn => ?_
  obtain ⟨q1, q2⟩ := g.2.2.2 x (h.2.1 x hx) hn
  have sub : ∀ z ∈ L', z ∈ L := fun z hz => Decidable.byContradiction fun hz' =>
    hR.asy (q2 z hz) ((h.2.2.2 z (g.2.1 z hz) hz').2 x hx)
  have := px_sub_len (x :: L') L (List.nodup_cons.mpr ⟨hn, g.nd hR⟩) fun w hw => by
    rcases List.mem_cons.mp hw with e | e
    · rw [e]; exact hx
    · exact sub w e
  have this' : L'.length + 1 ≤ L.length := this
  have := h.2.2.1
  omega
/-- two lists in order with the same members are the same -/
theorem px_same (hR : px_od R) : ∀ {L L' : List α}, L.Pairwise R → L'.Pairwise R → (∀ x, x ∈ L ↔ x ∈ L') → L = L' := by
  intro L
  induction L with
  | nil =>
    intro L' _ _ h
    cases L' with
    | nil => rfl
    | cons b L' => exact absurd ((h b).mpr List.mem_cons_self) List.not_mem_nil
  | cons a L ih =>
    intro L' h1 h2 h
    cases L' with
    | nil => exact absurd ((h a).mp List.mem_cons_self) List.not_mem_nil
    | cons b L' =>
      obtain ⟨a1, a2⟩ := List.pairwise_cons.mp h1
      obtain ⟨b1, b2⟩ := List.pairwise_cons.mp h2
      have e : a = b := by
        rcases List.mem_cons.mp ((h a).mp List.mem_cons_self) with e | e
        · exact e
        · rcases List.mem_cons.mp ((h b).mpr List.mem_cons_self) with e' | e'
          · exact e'.symm
          · exact (hR.asy (a1 b e') (b1 a e)).elim
      subst e
      refine congrArg _ (ih a2 b2 fun x => ?_)
      constructor
      · intro hx
        rcases List.mem_cons.mp ((h x).mp (List.mem_cons_of_mem _ hx)) with e | e
        · exact (hR.1 a (e ▸ a1 x hx)).elim
        · exact e
      · intro hx
        rcases List.mem_cons.mp ((h x).mpr (List.mem_cons_of_mem _ hx)) with e | e
        · exact (hR.1 a (e ▸ b1 x hx)).elim
        · exact e
/-- sorting in from behind -/
theorem px_back_ins (hR : px_od R) {S1 S2 : List α} {y : α} (h : (S1 ++ S2).Pairwise R) (hy : y ∉ S1 ++ S2) (h2 : ∀ x ∈ S2, R y x) (h1 : ∀ x, S1.getLast? = some x → ¬ R y x) : (∀ x ∈ S1, R x y) ∧ ∀ x, S2.head? = some x → ¬ R x y := by
  refine ⟨fun x hx => ?_, fun x hx g => ?_⟩
  · have hne : S1 ≠ [] := fun z => by rw [z] at hx; exact absurd hx List.not_mem_nil
    have hl := h1 _ (List.getLast?_eq_some_getLast hne)
    have hly : R (S1.getLast hne) y := by
      rcases hR.2.2 (S1.getLast hne) y (fun e => hy (by rw [← e]; exact List.mem_append.mpr (Or.inl (List.getLast_mem hne)))) with z | z
      · exact z
      · exact (hl z).elim
    have p := (List.pairwise_append.mp h).1
    rw [← List.dropLast_concat_getLast hne] at hx p
    rcases List.mem_append.mp hx with z | z
    · exact hR.2.1 _ _ _ ((List.pairwise_append.mp p).2.2 x z _ (List.mem_singleton.mpr rfl)) hly
    · rw [List.mem_singleton.mp z]; exact hly
  · have hm : x ∈ S2 := by
      cases S2 with
      | nil => cases hx
      | cons b S2 => cases hx; exact List.mem_cons_self
    exact hR.asy g (h2 x hm)
end PLG
