/-! ===== the list after one more is listed ===== -/
theorem px_ins_get {α : Type} {L : List α} {y : α} {k j : Nat} {e : α} (hk : k ≤ L.length) (h : (L.take k ++ y :: L.drop k)[j]? = some e) : (j < k ∧ L[j]? = some e) ∨ (j = k ∧ e = y) ∨ (k < j ∧ L[j - 1]? = some e) := by
  have hl : (L.take k).length = k := by rw [List.length_take]; omega
  by_cases h1 : j < k
  · rw [List.getElem?_append_left (by omega), List.getElem?_take_of_lt h1] at h
    exact Or.inl ⟨h1, h⟩
  · rw [List.getElem?_append_right (by omega), hl] at h
    by_cases h2 : j = k
    · subst h2
      rw [Nat.sub_self] at h
      exact Or.inr (Or.inl ⟨rfl, (Option.some.inj h).symm⟩)
    · obtain ⟨d, hd⟩ : ∃ d, j - k = d + 1 := ⟨j - k - 1, by omega⟩
      rw [hd] at h
      replace h : (L.drop k)[d]? = some e := h
      rw [List.getElem?_drop] at h
      refine Or.inr (Or.inr ⟨by omega, ?_⟩)
      rw [show j - 1 = k + d by omega]; exact h
theorem mm_enl_step {s : mm_S} {B E : Nat → Nat} {n F m r e k : Nat} {A0 S : List mm_P} {y : mm_P} {O : mm_P → Prop} (hA : (A0 ++ S).length = n) (hF : A0.length = F) (hd : ∀ j x, (A0 ++ S)[j]? = some x → mm_pq s (B j) (E j) x) (hy : mm_pq s r e y) (hLG : px_LG mm_pR m O S) (hny : ¬ O y) (k1 : F ≤ k) (k2 : k ≤ n) (hS : ∀ j x, k ≤ j → (A0 ++ S)[j]? = some x → mm_pR y x) (hk : k = F ∨ ∃ x, 0 < k ∧ (A0 ++ S)[k - 1]? = some x ∧ ¬ mm_pR y x) :
    ∃ S', px_LG mm_pR m (fun x => O x ∨ x = y) S' ∧ (A0 ++ S').length = (if n - F < m then n + 1 else n) ∧ ∀ j x, (A0 ++ S')[j]? = some x → mm_pq s (mm_pos n k B r j) (mm_pos n k E e j) x := by
  subst hF
  obtain ⟨d, rfl⟩ : ∃ d, k = A0.length + d := ⟨k - A0.length, by omega⟩
  rw [List.length_append] at hA
  have hSS : S.take d ++ S.drop d = S := List.take_append_drop d S
  have hLG' := hLG
  rw [← hSS] at hLG'
  have hyS : y ∉ S.take d ++ S.drop d := by rw [hSS]; exact fun z => hny (hLG.2.1 y z)
  obtain ⟨b1, b2⟩ := px_back_ins mm_pR_od hLG'.1 hyS (fun x hx => by
    obtain ⟨j, hj⟩ := List.getElem?_of_mem hx
    rw [List.getElem?_drop] at hj
    refine hS (A0.length + d + j) x (by omega) ?_
    rw [List.getElem?_append_right (by omega), ← hj]
    congr 1
    omega) (fun x hx => by
    have hd0 : 0 < d := by
      rcases Nat.eq_zero_or_pos d with z | z
      · rw [z] at hx; simp at hx
      · exact z
    rcases hk with hk | ⟨x', h0, h1, h2⟩
    · omega
    · have : x' = x := by
        rw [List.getElem?_append_right (by omega)] at h1
        rw [List.getLast?_eq_getElem?, List.length_take, List.getElem?_take_of_lt (by omega)] at hx
        rw [show min d S.length - 1 = A0.length + d - 1 - A0.length by omega, h1] at hx
        exact Option.some.inj hx
      rw [← this]; exact h2)
  refine ⟨(S.take d ++ y :: S.drop d).take m, px_LG.ins mm_pR_od hLG' hny b1 b2, ?_, fun j x hj => ?_⟩
  · have := hLG.2.2.1
    rw [List.length_append, List.length_take, List.length_append, List.length_cons, List.length_take, List.length_drop]
    split <;> omega
  · have h' : ((A0 ++ S).take (A0.length + d) ++ y :: (A0 ++ S).drop (A0.length + d))[j]? = some x := by
      rw [List.take_length_add_append, List.drop_length_add_append, List.append_assoc]
      by_cases hjA : j < A0.length
      · rw [List.getElem?_append_left hjA] at hj ⊢
        exact hj
      · rw [List.getElem?_append_right (by omega)] at hj ⊢
        rw [List.getElem?_take] at hj
        split at hj
        · exact hj
        · cases hj
    have hlen : A0.length + d ≤ (A0 ++ S).length := by rw [List.length_append]; omega
    rcases px_ins_get hlen h' with ⟨c1, c2⟩ | ⟨c1, c2⟩ | ⟨c1, c2⟩
    · rw [mm_pos_lt _ _ _ _ c1, mm_pos_lt _ _ _ _ c1]; exact hd j x c2
    · rw [c1, c2, mm_pos_eq, mm_pos_eq]; exact hy
    · have hj' : j - 1 < (A0 ++ S).length := by obtain ⟨h, -⟩ := List.getElem?_eq_some_iff.mp c2; exact h
      rw [List.length_append] at hj'
      rw [mm_pos_gt _ _ _ _ c1 (by omega), mm_pos_gt _ _ _ _ c1 (by omega)]
      exact hd (j - 1) x c2
