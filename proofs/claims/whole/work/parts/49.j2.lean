/-! ===== grow, add, get, remove over an opened list ===== -/
set_option maxRecDepth 100000 in
set_option maxHeartbeats 4000000 in
theorem je_grow0z {E : Nat × Nat} {M0 M : px_M} {r : px_R} {mo : Int32} (h9 : r.1 ≠ 99) (h : je_z E M0 r mo M) : pe_Met E 2 1 10 mJx4a65c_grow_d5877 [.inr r] M (fun o M' => o = .inl (some (.inr (99, 0))) ∧ je_n M0 r [] mo 0 10 M') := by
  refine pe_ofW (by decide) W_mJx4a65c_grow_d5877 (Nat.le_of_ble_eq_true rfl) ?_
  refine pe_aload_n dJx4a65c_grow_d5877_0 rfl trivial ?_
  refine pe_aload_n dJx4a65c_grow_d5877_1 rfl trivial ?_
  refine pe_getf dJx4a65c_grow_d5877_2 F_RJx4a65c_48 (h.1) (by rfl) ?_
  refine pe_iconst (v := nI 1) dJx4a65c_grow_d5877_5 (by decide) ?_
  refine pen_iadd dJx4a65c_grow_d5877_6 (by first | exact nI_add _ _ | rfl) ?_
  refine pe_callV (je_grow1z (mn := 0 + 1) h9 h (by omega)) dJx4a65c_grow_d5877_7 L_RJx4a65c_69 (Or.inl ⟨6, _, _, h.1, rfl, rfl⟩) rfl rfl (by decide) (by omega) (by omega) (Nat.le_of_ble_eq_true rfl) (fun v9 M9 hq => ?_) (fun E9 M9 hq => ?_)
  · obtain ⟨e, h2⟩ := hq
    cases e
    refine pe_aret dJx4a65c_grow_d5877_10 rfl (Or.inr ⟨_, rfl⟩) trivial ?_ (by omega) (by omega)
    exact ⟨rfl, h2⟩
  · exact absurd hq.1 (fun z => by cases z)
set_option maxRecDepth 100000 in
set_option maxHeartbeats 4000000 in
theorem je_grow0n {E : Nat × Nat} {M0 M : px_M} {r : px_R} {xs : List px_R} {mo : Int32} {k n : Nat} (he : je_el M0 r xs) (h : je_n M0 r xs mo k n M) (hf : xs.length = n) (hm : n ≤ 180) : pe_Met E 4 1 (n + max 1 (n / 2)) mJx4a65c_grow_d5877 [.inr r] M (fun o M' => o = .inl (some (.inr (99, k + 1))) ∧ je_n M0 r xs mo (k + 1) (n + max 1 (n / 2)) M') := by
  refine pe_ofW (by decide) W_mJx4a65c_grow_d5877 (Nat.le_of_ble_eq_true rfl) ?_
  refine pe_aload_n dJx4a65c_grow_d5877_0 rfl trivial ?_
  refine pe_aload_n dJx4a65c_grow_d5877_1 rfl trivial ?_
  refine pe_getf dJx4a65c_grow_d5877_2 F_RJx4a65c_48 (h.1) (by rfl) ?_
  refine pe_iconst (v := nI 1) dJx4a65c_grow_d5877_5 (by decide) ?_
  refine pen_iadd dJx4a65c_grow_d5877_6 (by first | exact nI_add _ _ | rfl) ?_
  have h1 := je_grow1n (E := E) (mn := xs.length + 1) he h (by omega) (by omega) (by omega)
  rw [show xs.length + 1 - n = 1 by omega] at h1
  refine pe_callV (h1) dJx4a65c_grow_d5877_7 L_RJx4a65c_69 (Or.inl ⟨6, _, _, h.1, rfl, rfl⟩) rfl rfl (by decide) (by omega) (by omega) (Nat.le_of_ble_eq_true rfl) (fun v9 M9 hq => ?_) (fun E9 M9 hq => ?_)
  · obtain ⟨e, h2⟩ := hq
    cases e
    refine pe_aret dJx4a65c_grow_d5877_10 rfl (Or.inr ⟨_, rfl⟩) trivial ?_ (by omega) (by omega)
    exact ⟨rfl, h2⟩
  · exact absurd hq.1 (fun z => by cases z)
theorem je_put {xs : List px_R} {x : px_R} : va_up (fun i => xs[i]?) xs.length (some x) = fun i : Nat => (xs ++ [x])[i]? := by
  funext i
  unfold va_up
  by_cases h : i = xs.length
  · rw [if_pos h, h]; simp
  · rw [if_neg h]
    rcases Nat.lt_or_ge i xs.length with h1 | h1
    · rw [List.getElem?_append_left h1]
    · rw [List.getElem?_eq_none (l := xs ++ [x]) (by simp; omega)]
      exact List.getElem?_eq_none (by omega)
theorem je_ins {xs : List px_R} {x : px_R} {i : Nat} (hi : i ≤ xs.length) : va_up (va_cpy (fun i => xs[i]?) (fun i => xs[i]?) i (i + 1) (xs.length - i)) i (some x) = fun j : Nat => (xs.take i ++ x :: xs.drop i)[j]? := by
  funext j
  unfold va_up va_cpy
  have hl : (xs.take i).length = i := by rw [List.length_take]; omega
  by_cases h : j = i
  · rw [if_pos h, h, List.getElem?_append_right (by omega), hl, Nat.sub_self]; rfl
  · rw [if_neg h]
    rcases Nat.lt_or_ge j i with h1 | h1
    · rw [if_neg (by omega), List.getElem?_append_left (by omega), List.getElem?_take_of_lt h1]
    · obtain ⟨m, rfl⟩ : ∃ m, j = i + 1 + m := ⟨j - i - 1, by omega⟩
      rw [List.getElem?_append_right (by omega), hl, show i + 1 + m - i = m + 1 by omega, List.getElem?_cons_succ, List.getElem?_drop]
      by_cases h2 : m < xs.length - i
      · rw [if_pos ⟨by omega, by omega⟩, show i + (i + 1 + m - (i + 1)) = i + m by omega]
      · rw [if_neg (by omega), List.getElem?_eq_none (l := xs) (i := i + m) (by omega)]
        exact List.getElem?_eq_none (by omega)
theorem je_del {xs : List px_R} {i : Nat} (hi : i < xs.length) : va_up (va_cpy (fun i => xs[i]?) (fun i => xs[i]?) (i + 1) i (xs.length - 1 - i)) (xs.length - 1) none = fun j : Nat => (xs.eraseIdx i)[j]? := by
  funext j
  unfold va_up va_cpy
  rw [List.getElem?_eraseIdx]
  by_cases h : j = xs.length - 1
  · rw [if_pos h]
    rw [if_neg (by omega), List.getElem?_eq_none (by omega)]
  · rw [if_neg h]
    rcases Nat.lt_or_ge j i with h1 | h1
    · rw [if_neg (by omega), if_pos h1]
    · rw [if_neg (by omega : ¬ j < i)]
      by_cases h2 : j < i + (xs.length - 1 - i)
      · rw [if_pos ⟨h1, h2⟩, show i + 1 + (j - i) = j + 1 by omega]
      · rw [if_neg (by omega), List.getElem?_eq_none (l := xs) (i := j + 1) (by omega)]
        exact List.getElem?_eq_none (by omega)
theorem je_del0 {xs : List px_R} {i : Nat} (hi : i + 1 = xs.length) : va_up (fun i => xs[i]?) (xs.length - 1) none = fun j : Nat => (xs.eraseIdx i)[j]? := by
  rw [← je_del (i := i) (by omega)]
  congr 1
  funext j
  unfold va_cpy
  rw [if_neg (by omega)]
theorem je_el.cons {M0 : px_M} {r x : px_R} {xs : List px_R} (h : je_el M0 r xs) (hx : x ≠ r ∧ x.1 ≠ 99 ∧ px_obs M0 x) : je_el M0 r (xs ++ [x]) := ⟨h.1, fun y hy => by
  rcases List.mem_append.mp hy with h1 | h1
  · exact h.2 y h1
  · rw [List.mem_singleton.mp h1]; exact hx⟩
set_option maxRecDepth 100000 in
set_option maxHeartbeats 4000000 in
/-- the place is there: the element comes to it -/
theorem je_add3_t {E : Nat × Nat} {M0 M : px_M} {r x : px_R} {xs : List px_R} {mo : Int32} {k n d mc ms c1 c2 : Nat} {Q : px_Q} (h9 : r.1 ≠ 99) (hx : x ≠ r ∧ x.1 ≠ 99 ∧ px_obs M0 x) (h : je_n M0 r xs mo k n M) (hn : xs.length < n) (hc1 : c1 ≤ mc) (hc2 : c2 ≤ ms) (hQ : ∀ M', je_n M0 r (xs ++ [x]) mo k n M' → Q (.inl none) M') : pe_W E d mc ms mJx4a65c_add_72be8 Q 11 [(0, .inr r), (1, .inr x), (2, .inr (99, k)), (3, .inl (.int (nI xs.length)))] [] M c1 c2 := by
  obtain ⟨h1, h2, h3, h4, h5, h6⟩ := id h
  obtain ⟨x1, x2, ci, fs, q, x3, x4, x5⟩ := id hx
  refine pe_aload_n dJx4a65c_add_72be8_11 rfl trivial ?_
  refine pe_iload_n dJx4a65c_add_72be8_12 rfl ?_
  refine pe_aload_n dJx4a65c_add_72be8_13 rfl trivial ?_
  refine pe_ast_q5 dJx4a65c_add_72be8_14 h2 ((h5 x x1 x2).trans x3) x4 x5 rfl hn h4 ?_
  refine pe_aload_n dJx4a65c_add_72be8_15 rfl trivial ?_
  refine pe_iload_n dJx4a65c_add_72be8_16 rfl ?_
  refine pe_iconst (v := nI 1) dJx4a65c_add_72be8_17 (by decide) ?_
  refine pen_iadd dJx4a65c_add_72be8_18 (by first | exact nI_add _ _ | rfl) ?_
  refine pe_putf dJx4a65c_add_72be8_19 F_RJx4a65c_48 nf_6_2 (((px_up_n _ _ (je_r9 h9)).trans h1)) (Nat.le_of_ble_eq_true rfl) (fun _ => ⟨rfl, rfl⟩) ?_
  refine pe_vret dJx4a65c_add_72be8_22 rfl ?_ (by omega) (by omega)
  have hl : (xs ++ [x]).length = xs.length + 1 := by simp
  refine hQ _ ⟨(px_up_s _ _ _).trans ?_, (px_up_n _ _ (je_r9 h9).symm).trans ((px_up_s _ _ _).trans ?_), by omega, h4, fun y hy hy9 => ?_, fun j hj => ?_⟩
  · rw [hl]; rfl
  · rw [je_put]
  · rw [px_up_n _ _ hy, px_up_n _ _ (je_r9 hy9), h5 y hy hy9]
  · rw [px_up_n _ _ (je_r9 h9).symm, px_up_n _ _ (je_k9 (by omega)), h6 j hj]
set_option maxRecDepth 100000 in
set_option maxHeartbeats 4000000 in
theorem je_add3z {E : Nat × Nat} {M0 M : px_M} {r x : px_R} {mo : Int32} (h9 : r.1 ≠ 99) (hx : x ≠ r ∧ x.1 ≠ 99 ∧ px_obs M0 x) (h : je_z E M0 r mo M) : pe_Met E 3 1 10 mJx4a65c_add_72be8 [.inr r, .inr x, .inl (.ref E.1), .inl (.int (nI 0))] M (fun o M' => o = .inl none ∧ je_n M0 r [x] mo 0 10 M') := by
  refine pe_ofW (by decide) W_mJx4a65c_add_72be8 (Nat.le_of_ble_eq_true rfl) ?_
  refine pe_iload_n dJx4a65c_add_72be8_0 rfl ?_
  refine pe_aload_n dJx4a65c_add_72be8_1 rfl trivial ?_
  refine pe_alenE dJx4a65c_add_72be8_2 ?_
  refine pen_icmp_ne (tgt := 11) dJx4a65c_add_72be8_3 (by decide) (nI_eq (by omega) (by omega)) (fun h7 => ?_) (fun h7 => ?_)
  · exact absurd rfl h7
  refine pe_aload_n dJx4a65c_add_72be8_6 rfl trivial ?_
  refine pe_callV (je_grow0z h9 h) dJx4a65c_add_72be8_7 L_RJx4a65c_129 (Or.inl ⟨6, _, _, h.1, rfl, rfl⟩) rfl rfl (by decide) (by omega) (by omega) (Nat.le_of_ble_eq_true rfl) (fun v9 M9 hq => ?_) (fun E9 M9 hq => ?_)
  · obtain ⟨e, h2⟩ := hq
    cases e
    refine pe_astore_n dJx4a65c_add_72be8_10 (by decide) trivial ?_
    exact pe_sub (je_add3_t (xs := []) h9 hx h2 (by decide) (by omega) (by omega) fun M' h => ⟨rfl, h⟩) rfl
  · exact absurd hq.1 (fun z => by cases z)
set_option maxRecDepth 100000 in
set_option maxHeartbeats 4000000 in
theorem je_add3n {E : Nat × Nat} {M0 M : px_M} {r x : px_R} {xs : List px_R} {mo : Int32} {k n : Nat} (he : je_el M0 r xs) (hx : x ≠ r ∧ x.1 ≠ 99 ∧ px_obs M0 x) (h : je_n M0 r xs mo k n M) (hl : xs.length ≤ 180) : pe_Met E 5 1 280 mJx4a65c_add_72be8 [.inr r, .inr x, .inr (99, k), .inl (.int (nI xs.length))] M (fun o M' => o = .inl none ∧ ∃ k' n', je_n M0 r (xs ++ [x]) mo k' n' M') := by
  refine pe_ofW (by decide) W_mJx4a65c_add_72be8 (Nat.le_of_ble_eq_true rfl) ?_
  obtain ⟨h1, h2, h3, h4, h5, h6⟩ := id h
  refine pe_iload_n dJx4a65c_add_72be8_0 rfl ?_
  refine pe_aload_n dJx4a65c_add_72be8_1 rfl trivial ?_
  refine pe_alen dJx4a65c_add_72be8_2 h2 (by decide) ?_
  refine pen_icmp_ne (tgt := 11) dJx4a65c_add_72be8_3 (by decide) (nI_eq (by omega) (by omega)) (fun h7 => ?_) (fun h7 => ?_)
  · exact pe_sub (je_add3_t he.1 hx h (by omega) (by omega) (by omega) fun M' h => ⟨rfl, _, _, h⟩) rfl
  refine pe_aload_n dJx4a65c_add_72be8_6 rfl trivial ?_
  refine pe_callV (je_grow0n he h h7 (by omega)) dJx4a65c_add_72be8_7 L_RJx4a65c_129 (Or.inl ⟨6, _, _, h1, rfl, rfl⟩) rfl rfl (by decide) (by omega) (by omega) (Nat.le_of_ble_eq_true rfl) (fun v9 M9 hq => ?_) (fun E9 M9 hq => ?_)
  · obtain ⟨e, h8⟩ := hq
    cases e
    refine pe_astore_n dJx4a65c_add_72be8_10 (by decide) trivial ?_
    exact pe_sub (je_add3_t he.1 hx h8 (by omega) (by omega) (by omega) fun M' h => ⟨rfl, _, _, h⟩) rfl
  · exact absurd hq.1 (fun z => by cases z)
/-- what an opened list holds -/
def je_s (E : Nat × Nat) (M0 : px_M) (r : px_R) (xs : List px_R) (M : px_M) : Prop := (xs = [] ∧ ∃ mo, je_z E M0 r mo M) ∨ ∃ mo k n, je_n M0 r xs mo k n M
set_option maxRecDepth 100000 in
set_option maxHeartbeats 4000000 in
theorem je_add1 {E : Nat × Nat} {M0 M : px_M} {r x : px_R} {xs : List px_R} (he : je_el M0 r xs) (hx : x ≠ r ∧ x.1 ≠ 99 ∧ px_obs M0 x) (h : je_s E M0 r xs M) (hl : xs.length ≤ 180) : pe_Met E 6 1 280 mJx4a65c_add_9ea2d [.inr r, .inr x] M (fun o M' => o = .inl (some (.inl (.int (nI 1)))) ∧ je_s E M0 r (xs ++ [x]) M') := by
  refine pe_ofW (by decide) W_mJx4a65c_add_9ea2d (Nat.le_of_ble_eq_true rfl) ?_
  rcases h with ⟨rfl, mo, h⟩ | ⟨mo, k, n, h⟩
  · refine pe_aload_n dJx4a65c_add_9ea2d_0 rfl trivial ?_
    refine pe_dup dJx4a65c_add_9ea2d_1 rfl ?_
    refine pe_getf dJx4a65c_add_9ea2d_2 F_RJx4a65c_63 (h.1) (by rfl) ?_
    refine pe_iconst (v := nI 1) dJx4a65c_add_9ea2d_5 (by decide) ?_
    refine pen_iadd dJx4a65c_add_9ea2d_6 (by first | exact nI_add _ _ | rfl) ?_
    refine pe_putf dJx4a65c_add_9ea2d_7 F_RJx4a65c_63 nf_6_0 (h.1) (Nat.le_of_ble_eq_true rfl) (fun _ => ⟨rfl, rfl⟩) ?_
    have h' : je_z E M0 r (mo + nI 1) (px_up M r (je_ob (mo + nI 1) (.inl (.ref E.1)) 0)) := ⟨px_up_s _ _ _, fun y hy hy9 => (px_up_n _ _ hy).trans (h.2.1 y hy hy9), fun j => (px_up_n _ _ (je_r9 he.1).symm).trans (h.2.2 j)⟩
    refine pe_aload_n dJx4a65c_add_9ea2d_10 rfl trivial ?_
    refine pe_aload_n dJx4a65c_add_9ea2d_11 rfl trivial ?_
    refine pe_aload_n dJx4a65c_add_9ea2d_12 rfl trivial ?_
    refine pe_getf dJx4a65c_add_9ea2d_13 F_RJx4a65c_9 (h'.1) (by rfl) ?_
    refine pe_aload_n dJx4a65c_add_9ea2d_16 rfl trivial ?_
    refine pe_getf dJx4a65c_add_9ea2d_17 F_RJx4a65c_48 (h'.1) (by rfl) ?_
    refine pe_callV (je_add3z he.1 hx h') dJx4a65c_add_9ea2d_20 L_RJx4a65c_131 (Or.inl ⟨6, _, _, h'.1, rfl, rfl⟩) rfl rfl (by decide) (by omega) (by omega) (Nat.le_of_ble_eq_true rfl) (fun v9 M9 hq => ?_) (fun E9 M9 hq => ?_)
    · obtain ⟨e, h2⟩ := hq
      cases e
      refine pe_iconst (v := nI 1) dJx4a65c_add_9ea2d_23 (by decide) ?_
      refine pe_zret dJx4a65c_add_9ea2d_24 rfl (by decide) ⟨rfl, Or.inr ⟨_, _, _, h2⟩⟩ (by omega) (by omega)
    · exact absurd hq.1 (fun z => by cases z)
  · refine pe_aload_n dJx4a65c_add_9ea2d_0 rfl trivial ?_
    refine pe_dup dJx4a65c_add_9ea2d_1 rfl ?_
    refine pe_getf dJx4a65c_add_9ea2d_2 F_RJx4a65c_63 (h.1) (by rfl) ?_
    refine pe_iconst (v := nI 1) dJx4a65c_add_9ea2d_5 (by decide) ?_
    refine pen_iadd dJx4a65c_add_9ea2d_6 (by first | exact nI_add _ _ | rfl) ?_
    refine pe_putf dJx4a65c_add_9ea2d_7 F_RJx4a65c_63 nf_6_0 (h.1) (Nat.le_of_ble_eq_true rfl) (fun _ => ⟨rfl, rfl⟩) ?_
    have h' : je_n M0 r xs (mo + nI 1) k n (px_up M r (je_ob (mo + nI 1) (.inr (99, k)) xs.length)) := ⟨px_up_s _ _ _, (px_up_n _ _ (je_r9 he.1).symm).trans h.2.1, h.2.2.1, h.2.2.2.1, fun y hy hy9 => (px_up_n _ _ hy).trans (h.2.2.2.2.1 y hy hy9), fun j hj => (px_up_n _ _ (je_r9 he.1).symm).trans (h.2.2.2.2.2 j hj)⟩
    refine pe_aload_n dJx4a65c_add_9ea2d_10 rfl trivial ?_
    refine pe_aload_n dJx4a65c_add_9ea2d_11 rfl trivial ?_
    refine pe_aload_n dJx4a65c_add_9ea2d_12 rfl trivial ?_
    refine pe_getf dJx4a65c_add_9ea2d_13 F_RJx4a65c_9 (h'.1) (by rfl) ?_
    refine pe_aload_n dJx4a65c_add_9ea2d_16 rfl trivial ?_
    refine pe_getf dJx4a65c_add_9ea2d_17 F_RJx4a65c_48 (h'.1) (by rfl) ?_
    refine pe_callV (je_add3n he hx h' hl) dJx4a65c_add_9ea2d_20 L_RJx4a65c_131 (Or.inl ⟨6, _, _, h'.1, rfl, rfl⟩) rfl rfl (by decide) (by omega) (by omega) (Nat.le_of_ble_eq_true rfl) (fun v9 M9 hq => ?_) (fun E9 M9 hq => ?_)
    · obtain ⟨e, k', n', h2⟩ := hq
      cases e
      refine pe_iconst (v := nI 1) dJx4a65c_add_9ea2d_23 (by decide) ?_
      refine pe_zret dJx4a65c_add_9ea2d_24 rfl (by decide) ⟨rfl, Or.inr ⟨_, _, _, h2⟩⟩ (by omega) (by omega)
    · exact absurd hq.1 (fun z => by cases z)
set_option maxRecDepth 100000 in
set_option maxHeartbeats 4000000 in
theorem je_rchk {E : Nat × Nat} {M : px_M} {r : px_R} {mo : Int32} {v : px_V} {i n : Nat} (hr : M r = some (je_ob mo v n)) (hi : i ≤ n) (hn : n < 2 ^ 31) : pe_Met E 0 0 0 mJx4a65c_rangeCheckForAdd_d00df [.inr r, .inl (.int (nI i))] M (px_rt none M) := by
  refine pe_ofW (by decide) W_mJx4a65c_rangeCheckForAdd_d00df (Nat.le_of_ble_eq_true rfl) ?_
  refine pe_iload_n dJx4a65c_rangeCheckForAdd_d00df_0 rfl ?_
  refine pe_aload_n dJx4a65c_rangeCheckForAdd_d00df_1 rfl trivial ?_
  refine pe_getf dJx4a65c_rangeCheckForAdd_d00df_2 F_RJx4a65c_48 (hr) (by rfl) ?_
  refine pen_icmp_gt (tgt := 12) dJx4a65c_rangeCheckForAdd_d00df_5 (by decide) (nI_ltI (by omega) (by omega)) (fun h => ?_) (fun h => ?_)
  · omega
  · refine pe_iload_n dJx4a65c_rangeCheckForAdd_d00df_8 rfl ?_
    refine pen_if_ge (tgt := 25) dJx4a65c_rangeCheckForAdd_d00df_9 (by decide) (pn_gez (by omega)) (fun h7 => ?_) (fun h7 => ?_)
    · refine pe_vret dJx4a65c_rangeCheckForAdd_d00df_25 rfl ?_ (by omega) (by omega)
      exact ⟨rfl, rfl⟩
    · exact absurd trivial h7
set_option maxRecDepth 100000 in
set_option maxHeartbeats 4000000 in
theorem je_addAt_t {E : Nat × Nat} {M0 M : px_M} {r x : px_R} {xs : List px_R} {mo : Int32} {k n d mc ms c1 c2 i : Nat} {Q : px_Q} (he : je_el M0 r xs) (hx : x ≠ r ∧ x.1 ≠ 99 ∧ px_obs M0 x) (h : je_n M0 r xs mo k n M) (hn : xs.length < n) (hl : xs.length ≤ 180) (hi : i ≤ xs.length) (hc1 : c1 ≤ mc) (hc2 : c2 ≤ ms) (hQ : ∀ M', je_n M0 r (xs.take i ++ x :: xs.drop i) mo k n M' → Q (.inl none) M') : pe_W E d mc ms mJx4a65c_add_7a177 Q 38 [(0, .inr r), (1, .inl (.int (nI i))), (2, .inr x), (3, .inl (.int (nI xs.length))), (4, .inr (99, k))] [] M c1 c2 := by
  obtain ⟨h1, h2, h3, h4, h5, h6⟩ := id h
  obtain ⟨x1, x2, ci, fs, q, x3, x4, x5⟩ := id hx
  have h9 := he.1
  refine pe_aload dJx4a65c_add_7a177_38 rfl trivial ?_
  refine pe_iload_n dJx4a65c_add_7a177_40 rfl ?_
  refine pe_aload dJx4a65c_add_7a177_41 rfl trivial ?_
  refine pe_iload_n dJx4a65c_add_7a177_43 rfl ?_
  refine pe_iconst (v := nI 1) dJx4a65c_add_7a177_44 (by decide) ?_
  refine pen_iadd dJx4a65c_add_7a177_45 (by first | exact nI_add _ _ | rfl) ?_
  refine pe_iload_n dJx4a65c_add_7a177_46 rfl ?_
  refine pe_iload_n dJx4a65c_add_7a177_47 rfl ?_
  refine pen_isub dJx4a65c_add_7a177_48 (by first | exact pk_sub (by omega) | rfl) ?_
  refine pe_copy (j := i) (j' := i + 1) (z := xs.length - i) dJx4a65c_add_7a177_49 (px_mem 232 (by decide +kernel) rfl) h2 h2 rfl rfl rfl (by omega) (by omega) h4 h4 (fun q y hq hy => he.obs h5 y (List.mem_of_getElem? hy)) (Nat.le_of_ble_eq_true rfl) ?_
  refine pe_aload dJx4a65c_add_7a177_52 rfl trivial ?_
  refine pe_iload_n dJx4a65c_add_7a177_54 rfl ?_
  refine pe_aload_n dJx4a65c_add_7a177_55 rfl trivial ?_
  refine pe_ast_q5 dJx4a65c_add_7a177_56 (px_up_s _ _ _) ((px_up_n _ _ (je_r9 x2)).trans ((h5 x x1 x2).trans x3)) x4 x5 rfl (by omega) h4 ?_
  refine pe_aload_n dJx4a65c_add_7a177_57 rfl trivial ?_
  refine pe_iload_n dJx4a65c_add_7a177_58 rfl ?_
  refine pe_iconst (v := nI 1) dJx4a65c_add_7a177_59 (by decide) ?_
  refine pen_iadd dJx4a65c_add_7a177_60 (by first | exact nI_add _ _ | rfl) ?_
  refine pe_putf dJx4a65c_add_7a177_61 F_RJx4a65c_48 nf_6_2 (((px_up_n _ _ (je_r9 h9)).trans ((px_up_n _ _ (je_r9 h9)).trans h1))) (Nat.le_of_ble_eq_true rfl) (fun _ => ⟨rfl, rfl⟩) ?_
  refine pe_vret dJx4a65c_add_7a177_64 rfl ?_ (by omega) (by omega)
  have hl : (xs.take i ++ x :: xs.drop i).length = xs.length + 1 := by simp; omega
  refine hQ _ ⟨(px_up_s _ _ _).trans ?_, (px_up_n _ _ (je_r9 h9).symm).trans ((px_up_s _ _ _).trans ?_), by omega, h4, fun y hy hy9 => ?_, fun j hj => ?_⟩
  · rw [hl]; rfl
  · rw [je_ins hi]
  · rw [px_up_n _ _ hy, px_up_n _ _ (je_r9 hy9), px_up_n _ _ (je_r9 hy9), h5 y hy hy9]
  · rw [px_up_n _ _ (je_r9 h9).symm, px_up_n _ _ (je_k9 (by omega)), px_up_n _ _ (je_k9 (by omega)), h6 j hj]
set_option maxRecDepth 100000 in
set_option maxHeartbeats 4000000 in
theorem je_addAt {E : Nat × Nat} {M0 M : px_M} {r x : px_R} {xs : List px_R} {i : Nat} (he : je_el M0 r xs) (hx : x ≠ r ∧ x.1 ≠ 99 ∧ px_obs M0 x) (h : je_s E M0 r xs M) {B : Nat} (hl : xs.length ≤ 180) (hB : 11 + xs.length + xs.length / 2 ≤ B) (hi : i ≤ xs.length) : pe_Met E 6 1 B mJx4a65c_add_7a177 [.inr r, .inl (.int (nI i)), .inr x] M (fun o M' => o = .inl none ∧ je_s E M0 r (xs.take i ++ x :: xs.drop i) M') := by
  refine pe_ofW (by decide) W_mJx4a65c_add_7a177 (Nat.le_of_ble_eq_true rfl) ?_
  rcases h with ⟨rfl, mo, h⟩ | ⟨mo, k, n, h⟩
  · obtain rfl : i = 0 := by have : i ≤ 0 := hi; omega
    have hB' : 11 ≤ B := by omega
    refine pe_aload_n dJx4a65c_add_7a177_0 rfl trivial ?_
    refine pe_iload_n dJx4a65c_add_7a177_1 rfl ?_
    refine pe_callVv (je_rchk h.1 (by omega) (by omega)) dJx4a65c_add_7a177_2 L_RJx4a65c_135 (Or.inl ⟨6, _, _, h.1, rfl, rfl⟩) rfl rfl (by decide) (by omega) (by omega) (Nat.le_of_ble_eq_true rfl) ?_
    refine pe_aload_n dJx4a65c_add_7a177_5 rfl trivial ?_
    refine pe_dup dJx4a65c_add_7a177_6 rfl ?_
    refine pe_getf dJx4a65c_add_7a177_7 F_RJx4a65c_63 (h.1) (by rfl) ?_
    refine pe_iconst (v := nI 1) dJx4a65c_add_7a177_10 (by decide) ?_
    refine pen_iadd dJx4a65c_add_7a177_11 (by first | exact nI_add _ _ | rfl) ?_
    refine pe_putf dJx4a65c_add_7a177_12 F_RJx4a65c_63 nf_6_0 (h.1) (Nat.le_of_ble_eq_true rfl) (fun _ => ⟨rfl, rfl⟩) ?_
    have h' : je_z E M0 r (mo + nI 1) (px_up M r (je_ob (mo + nI 1) (.inl (.ref E.1)) 0)) := ⟨px_up_s _ _ _, fun y hy hy9 => (px_up_n _ _ hy).trans (h.2.1 y hy hy9), fun j => (px_up_n _ _ (je_r9 he.1).symm).trans (h.2.2 j)⟩
    refine pe_aload_n dJx4a65c_add_7a177_15 rfl trivial ?_
    refine pe_getf dJx4a65c_add_7a177_16 F_RJx4a65c_48 (h'.1) (by rfl) ?_
    refine pe_dup dJx4a65c_add_7a177_19 rfl ?_
    refine pe_istore_n dJx4a65c_add_7a177_20 (by decide) ?_
    refine pe_aload_n dJx4a65c_add_7a177_21 rfl trivial ?_
    refine pe_getf dJx4a65c_add_7a177_22 F_RJx4a65c_9 (h'.1) (by rfl) ?_
    refine pe_dup dJx4a65c_add_7a177_25 rfl ?_
    refine pe_astore dJx4a65c_add_7a177_26 (by decide) trivial ?_
    refine pe_alenE dJx4a65c_add_7a177_28 ?_
    refine pen_icmp_ne (tgt := 38) dJx4a65c_add_7a177_29 (by decide) (nI_eq (by omega) (by omega)) (fun h7 => ?_) (fun h7 => ?_)
    · exact absurd rfl h7
    refine pe_aload_n dJx4a65c_add_7a177_32 rfl trivial ?_
    refine pe_callV (je_grow0z he.1 h') dJx4a65c_add_7a177_33 L_RJx4a65c_129 (Or.inl ⟨6, _, _, h'.1, rfl, rfl⟩) rfl rfl (by decide) (by omega) (by omega) (Nat.le_of_ble_eq_true rfl) (fun v9 M9 hq => ?_) (fun E9 M9 hq => ?_)
    · obtain ⟨e, h2⟩ := hq
      cases e
      refine pe_astore dJx4a65c_add_7a177_36 (by decide) trivial ?_
      exact pe_sub (je_addAt_t (xs := []) he hx h2 (by decide) (by decide) (Nat.le_refl _) (by omega) (by omega) fun M' h => ⟨rfl, Or.inr ⟨_, _, _, h⟩⟩) rfl
    · exact absurd hq.1 (fun z => by cases z)
  · refine pe_aload_n dJx4a65c_add_7a177_0 rfl trivial ?_
    refine pe_iload_n dJx4a65c_add_7a177_1 rfl ?_
    refine pe_callVv (je_rchk h.1 hi (by omega)) dJx4a65c_add_7a177_2 L_RJx4a65c_135 (Or.inl ⟨6, _, _, h.1, rfl, rfl⟩) rfl rfl (by decide) (by omega) (by omega) (Nat.le_of_ble_eq_true rfl) ?_
    refine pe_aload_n dJx4a65c_add_7a177_5 rfl trivial ?_
    refine pe_dup dJx4a65c_add_7a177_6 rfl ?_
    refine pe_getf dJx4a65c_add_7a177_7 F_RJx4a65c_63 (h.1) (by rfl) ?_
    refine pe_iconst (v := nI 1) dJx4a65c_add_7a177_10 (by decide) ?_
    refine pen_iadd dJx4a65c_add_7a177_11 (by first | exact nI_add _ _ | rfl) ?_
    refine pe_putf dJx4a65c_add_7a177_12 F_RJx4a65c_63 nf_6_0 (h.1) (Nat.le_of_ble_eq_true rfl) (fun _ => ⟨rfl, rfl⟩) ?_
    have h' : je_n M0 r xs (mo + nI 1) k n (px_up M r (je_ob (mo + nI 1) (.inr (99, k)) xs.length)) := ⟨px_up_s _ _ _, (px_up_n _ _ (je_r9 he.1).symm).trans h.2.1, h.2.2.1, h.2.2.2.1, fun y hy hy9 => (px_up_n _ _ hy).trans (h.2.2.2.2.1 y hy hy9), fun j hj => (px_up_n _ _ (je_r9 he.1).symm).trans (h.2.2.2.2.2 j hj)⟩
    have h3 := h.2.2.1
    have h4 := h.2.2.2.1
    refine pe_aload_n dJx4a65c_add_7a177_15 rfl trivial ?_
    refine pe_getf dJx4a65c_add_7a177_16 F_RJx4a65c_48 (h'.1) (by rfl) ?_
    refine pe_dup dJx4a65c_add_7a177_19 rfl ?_
    refine pe_istore_n dJx4a65c_add_7a177_20 (by decide) ?_
    refine pe_aload_n dJx4a65c_add_7a177_21 rfl trivial ?_
    refine pe_getf dJx4a65c_add_7a177_22 F_RJx4a65c_9 (h'.1) (by rfl) ?_
    refine pe_dup dJx4a65c_add_7a177_25 rfl ?_
    refine pe_astore dJx4a65c_add_7a177_26 (by decide) trivial ?_
    refine pe_alen dJx4a65c_add_7a177_28 h'.2.1 (by decide) ?_
    refine pen_icmp_ne (tgt := 38) dJx4a65c_add_7a177_29 (by decide) (nI_eq (by omega) (by omega)) (fun h7 => ?_) (fun h7 => ?_)
    · exact pe_sub (je_addAt_t he hx h' (by omega) hl hi (by omega) (by omega) fun M' h => ⟨rfl, Or.inr ⟨_, _, _, h⟩⟩) rfl
    refine pe_aload_n dJx4a65c_add_7a177_32 rfl trivial ?_
    refine pe_callV (je_grow0n he h' h7 (by omega)) dJx4a65c_add_7a177_33 L_RJx4a65c_129 (Or.inl ⟨6, _, _, h'.1, rfl, rfl⟩) rfl rfl (by decide) (by omega) (by omega) (Nat.le_of_ble_eq_true rfl) (fun v9 M9 hq => ?_) (fun E9 M9 hq => ?_)
    · obtain ⟨e, h2⟩ := hq
      cases e
      refine pe_astore dJx4a65c_add_7a177_36 (by decide) trivial ?_
      exact pe_sub (je_addAt_t he hx h2 (by omega) hl hi (by omega) (by omega) fun M' h => ⟨rfl, Or.inr ⟨_, _, _, h⟩⟩) rfl
    · exact absurd hq.1 (fun z => by cases z)
set_option maxRecDepth 100000 in
set_option maxHeartbeats 4000000 in
theorem je_elem {E : Nat × Nat} {M0 M : px_M} {r x : px_R} {xs : List px_R} {mo : Int32} {k n i : Nat} (h : je_n M0 r xs mo k n M) (hi : xs[i]? = some x) : pe_Met E 0 0 0 mJx4a65c_elementData_915e3 [.inr r, .inl (.int (nI i))] M (px_rt (some (.inr x)) M) := by
  refine pe_ofW (by decide) W_mJx4a65c_elementData_915e3 (Nat.le_of_ble_eq_true rfl) ?_
  obtain ⟨h1, h2, h3, h4, h5, h6⟩ := id h
  have hlt := (List.getElem?_eq_some_iff.mp hi).1
  refine pe_aload_n dJx4a65c_elementData_915e3_0 rfl trivial ?_
  refine pe_getf dJx4a65c_elementData_915e3_1 F_RJx4a65c_9 (h1) (by rfl) ?_
  refine pe_iload_n dJx4a65c_elementData_915e3_4 rfl ?_
  refine pe_ald_q5 dJx4a65c_elementData_915e3_5 h2 rfl (by omega) h4 ?_
  rw [hi]
  refine pe_aret (v := .inr x) dJx4a65c_elementData_915e3_6 rfl (Or.inl ⟨_, rfl⟩) trivial ?_ (by omega) (by omega)
  exact ⟨rfl, rfl⟩
set_option maxRecDepth 100000 in
set_option maxHeartbeats 4000000 in
theorem je_get {E : Nat × Nat} {M0 M : px_M} {r x : px_R} {xs : List px_R} {i : Nat} (h : je_s E M0 r xs M) (hi : xs[i]? = some x) : pe_Met E 2 0 0 mJx4a65c_get_915e3 [.inr r, .inl (.int (nI i))] M (px_rt (some (.inr x)) M) := by
  refine pe_ofW (by decide) W_mJx4a65c_get_915e3 (Nat.le_of_ble_eq_true rfl) ?_
  rcases h with ⟨rfl, mo, h⟩ | ⟨mo, k, n, h⟩
  · simp at hi
  have h3 := h.2.2.1
  have h4 := h.2.2.2.1
  have hlt := (List.getElem?_eq_some_iff.mp hi).1
  refine pe_iload_n dJx4a65c_get_915e3_0 rfl ?_
  refine pe_aload_n dJx4a65c_get_915e3_1 rfl trivial ?_
  refine pe_getf dJx4a65c_get_915e3_2 F_RJx4a65c_48 (h.1) (by rfl) ?_
  refine pe_callSr (je_chk hlt (by omega)) dJx4a65c_get_915e3_5 L_RJx4a65c_118 rfl rfl (by decide) (by omega) (by omega) (Nat.le_of_ble_eq_true rfl) ?_
  refine pe_pop dJx4a65c_get_915e3_8 rfl ?_
  refine pe_aload_n dJx4a65c_get_915e3_9 rfl trivial ?_
  refine pe_iload_n dJx4a65c_get_915e3_10 rfl ?_
  refine pe_callVr (je_elem h hi) dJx4a65c_get_915e3_11 L_RJx4a65c_123 (Or.inl ⟨6, _, _, h.1, rfl, rfl⟩) rfl rfl (by decide) (by omega) (by omega) (Nat.le_of_ble_eq_true rfl) ?_
  refine pe_aret (v := .inr x) dJx4a65c_get_915e3_14 rfl (Or.inl ⟨_, rfl⟩) trivial ?_ (by omega) (by omega)
  exact ⟨rfl, rfl⟩
set_option maxRecDepth 100000 in
set_option maxHeartbeats 4000000 in
theorem je_frem {E : Nat × Nat} {M0 M : px_M} {r : px_R} {xs : List px_R} {mo : Int32} {k n i : Nat} (he : je_el M0 r xs) (h : je_n M0 r xs mo k n M) (hi : i < xs.length) : pe_Met E 1 0 0 mJx4a65c_fastRemove_b59b0 [.inr r, .inr (99, k), .inl (.int (nI i))] M (fun o M' => o = .inl none ∧ je_n M0 r (xs.eraseIdx i) (mo + nI 1) k n M') := by
  refine pe_ofW (by decide) W_mJx4a65c_fastRemove_b59b0 (Nat.le_of_ble_eq_true rfl) ?_
  have h9 := he.1
  refine pe_aload_n dJx4a65c_fastRemove_b59b0_0 rfl trivial ?_
  refine pe_dup dJx4a65c_fastRemove_b59b0_1 rfl ?_
  refine pe_getf dJx4a65c_fastRemove_b59b0_2 F_RJx4a65c_63 (h.1) (by rfl) ?_
  refine pe_iconst (v := nI 1) dJx4a65c_fastRemove_b59b0_5 (by decide) ?_
  refine pen_iadd dJx4a65c_fastRemove_b59b0_6 (by first | exact nI_add _ _ | rfl) ?_
  refine pe_putf dJx4a65c_fastRemove_b59b0_7 F_RJx4a65c_63 nf_6_0 (h.1) (Nat.le_of_ble_eq_true rfl) (fun _ => ⟨rfl, rfl⟩) ?_
  have h' : je_n M0 r xs (mo + nI 1) k n (px_up M r (je_ob (mo + nI 1) (.inr (99, k)) xs.length)) := ⟨px_up_s _ _ _, (px_up_n _ _ (je_r9 he.1).symm).trans h.2.1, h.2.2.1, h.2.2.2.1, fun y hy hy9 => (px_up_n _ _ hy).trans (h.2.2.2.2.1 y hy hy9), fun j hj => (px_up_n _ _ (je_r9 he.1).symm).trans (h.2.2.2.2.2 j hj)⟩
  obtain ⟨h1, h2, h3, h4, h5, h6⟩ := id h'
  have tail : ∀ (M1 : px_M) (f : Nat → Option px_R), M1 r = some (je_ob (mo + nI 1) (.inr (99, k)) xs.length) → M1 (99, k) = some (je_ar n f) → (∀ y, y ≠ r → y.1 ≠ 99 → M1 y = M0 y) → (∀ j, k < j → M1 (99, j) = none) → va_up f (xs.length - 1) none = (fun j : Nat => (xs.eraseIdx i)[j]?) → pe_W E 1 0 0 mJx4a65c_fastRemove_b59b0 (fun o M' => o = .inl none ∧ je_n M0 r (xs.eraseIdx i) (mo + nI 1) k n M') 34 [(0, .inr r), (1, .inr (99, k)), (2, .inl (.int (nI i))), (3, .inl (.int (nI (xs.length - 1))))] [] M1 0 0 := by
    intro M1 f a1 a2 a3 a4 a5
    refine pe_aload_n dJx4a65c_fastRemove_b59b0_34 rfl trivial ?_
    refine pe_aload_n dJx4a65c_fastRemove_b59b0_35 rfl trivial ?_
    refine pe_iload_n dJx4a65c_fastRemove_b59b0_36 rfl ?_
    refine pe_dup_x1 dJx4a65c_fastRemove_b59b0_37 rfl rfl ?_
    refine pe_putf dJx4a65c_fastRemove_b59b0_38 F_RJx4a65c_48 nf_6_2 (a1) (Nat.le_of_ble_eq_true rfl) (fun _ => ⟨rfl, rfl⟩) ?_
    refine pe_anull dJx4a65c_fastRemove_b59b0_41 ?_
    refine pe_ast_n5 dJx4a65c_fastRemove_b59b0_42 ((px_up_n _ _ (je_r9 h9).symm).trans a2) rfl (by omega) h4 ?_
    refine pe_vret dJx4a65c_fastRemove_b59b0_43 rfl ?_ (by omega) (by omega)
    have hl : (xs.eraseIdx i).length = xs.length - 1 := List.length_eraseIdx_of_lt hi
    refine ⟨rfl, (px_up_n _ _ (je_r9 h9)).trans ((px_up_s _ _ _).trans ?_), (px_up_s _ _ _).trans ?_, by omega, h4, fun y hy hy9 => ?_, fun j hj => ?_⟩
    · rw [hl]; rfl
    · rw [a5]
    · rw [px_up_n _ _ (je_r9 hy9), px_up_n _ _ hy, a3 y hy hy9]
    · rw [px_up_n _ _ (je_k9 (by omega)), px_up_n _ _ (je_r9 h9).symm, a4 j hj]
  refine pe_aload_n dJx4a65c_fastRemove_b59b0_10 rfl trivial ?_
  refine pe_getf dJx4a65c_fastRemove_b59b0_11 F_RJx4a65c_48 (h1) (by rfl) ?_
  refine pe_iconst (v := nI 1) dJx4a65c_fastRemove_b59b0_14 (by decide) ?_
  refine pen_isub dJx4a65c_fastRemove_b59b0_15 (by first | exact pk_sub (by omega) | rfl) ?_
  refine pe_dup dJx4a65c_fastRemove_b59b0_16 rfl ?_
  refine pe_istore_n dJx4a65c_fastRemove_b59b0_17 (by decide) ?_
  refine pe_iload_n dJx4a65c_fastRemove_b59b0_18 rfl ?_
  refine pen_icmp_le (tgt := 34) dJx4a65c_fastRemove_b59b0_19 (by decide) (nI_leI (by omega) (by omega)) (fun h7 => ?_) (fun h7 => ?_)
  · exact pe_sub (tail _ _ h1 h2 h5 h6 (je_del0 (by omega))) rfl
  · refine pe_aload_n dJx4a65c_fastRemove_b59b0_22 rfl trivial ?_
    refine pe_iload_n dJx4a65c_fastRemove_b59b0_23 rfl ?_
    refine pe_iconst (v := nI 1) dJx4a65c_fastRemove_b59b0_24 (by decide) ?_
    refine pen_iadd dJx4a65c_fastRemove_b59b0_25 (by first | exact nI_add _ _ | rfl) ?_
    refine pe_aload_n dJx4a65c_fastRemove_b59b0_26 rfl trivial ?_
    refine pe_iload_n dJx4a65c_fastRemove_b59b0_27 rfl ?_
    refine pe_iload_n dJx4a65c_fastRemove_b59b0_28 rfl ?_
    refine pe_iload_n dJx4a65c_fastRemove_b59b0_29 rfl ?_
    refine pen_isub dJx4a65c_fastRemove_b59b0_30 (by first | exact pk_sub (by omega) | rfl) ?_
    refine pe_copy (j := i + 1) (j' := i) (z := xs.length - 1 - i) dJx4a65c_fastRemove_b59b0_31 (px_mem 232 (by decide +kernel) rfl) h2 h2 rfl rfl rfl (by omega) (by omega) h4 h4 (fun q y hq hy => he.obs h5 y (List.mem_of_getElem? hy)) (Nat.le_of_ble_eq_true rfl) ?_
    refine pe_sub (tail _ _ ((px_up_n _ _ (je_r9 h9)).trans h1) (px_up_s _ _ _) (fun y hy hy9 => (px_up_n _ _ (je_r9 hy9)).trans (h5 y hy hy9)) (fun j hj => (px_up_n _ _ (je_k9 (by omega))).trans (h6 j hj)) (je_del hi)) rfl
set_option maxRecDepth 100000 in
set_option maxHeartbeats 4000000 in
theorem je_remove {E : Nat × Nat} {M0 M : px_M} {r x : px_R} {xs : List px_R} {i : Nat} (he : je_el M0 r xs) (h : je_s E M0 r xs M) (hi : xs[i]? = some x) : pe_Met E 2 0 0 mJx4a65c_remove_915e3 [.inr r, .inl (.int (nI i))] M (fun o M' => o = .inl (some (.inr x)) ∧ je_s E M0 r (xs.eraseIdx i) M') := by
  refine pe_ofW (by decide) W_mJx4a65c_remove_915e3 (Nat.le_of_ble_eq_true rfl) ?_
  rcases h with ⟨rfl, mo, h⟩ | ⟨mo, k, n, h⟩
  · simp at hi
  have h3 := h.2.2.1
  have h4 := h.2.2.2.1
  have hlt := (List.getElem?_eq_some_iff.mp hi).1
  refine pe_iload_n dJx4a65c_remove_915e3_0 rfl ?_
  refine pe_aload_n dJx4a65c_remove_915e3_1 rfl trivial ?_
  refine pe_getf dJx4a65c_remove_915e3_2 F_RJx4a65c_48 (h.1) (by rfl) ?_
  refine pe_callSr (je_chk hlt (by omega)) dJx4a65c_remove_915e3_5 L_RJx4a65c_118 rfl rfl (by decide) (by omega) (by omega) (Nat.le_of_ble_eq_true rfl) ?_
  refine pe_pop dJx4a65c_remove_915e3_8 rfl ?_
  refine pe_aload_n dJx4a65c_remove_915e3_9 rfl trivial ?_
  refine pe_getf dJx4a65c_remove_915e3_10 F_RJx4a65c_9 (h.1) (by rfl) ?_
  refine pe_astore_n dJx4a65c_remove_915e3_13 (by decide) trivial ?_
  refine pe_aload_n dJx4a65c_remove_915e3_14 rfl trivial ?_
  refine pe_iload_n dJx4a65c_remove_915e3_15 rfl ?_
  refine pe_ald_q5 dJx4a65c_remove_915e3_16 h.2.1 rfl (by omega) h4 ?_
  rw [hi]
  refine pe_astore_n (v := .inr x) dJx4a65c_remove_915e3_17 (by decide) trivial ?_
  refine pe_aload_n dJx4a65c_remove_915e3_18 rfl trivial ?_
  refine pe_aload_n dJx4a65c_remove_915e3_19 rfl trivial ?_
  refine pe_iload_n dJx4a65c_remove_915e3_20 rfl ?_
  refine pe_callV (je_frem he h hlt) dJx4a65c_remove_915e3_21 L_RJx4a65c_144 (Or.inl ⟨6, _, _, h.1, rfl, rfl⟩) rfl rfl (by decide) (by omega) (by omega) (Nat.le_of_ble_eq_true rfl) (fun v9 M9 hq => ?_) (fun E9 M9 hq => ?_)
  · obtain ⟨e, h2⟩ := hq
    cases e
    refine pe_aload_n dJx4a65c_remove_915e3_24 rfl trivial ?_
    refine pe_aret (v := .inr x) dJx4a65c_remove_915e3_25 rfl (Or.inl ⟨_, rfl⟩) trivial ?_ (by omega) (by omega)
    exact ⟨rfl, Or.inr ⟨_, _, _, h2⟩⟩
  · exact absurd hq.1 (fun z => by cases z)
set_option maxRecDepth 100000 in
set_option maxHeartbeats 4000000 in
theorem je_init1 {E : Nat × Nat} {M : px_M} {r : px_R} : pe_Met E 0 0 0 mJxa1e45_init_da8c8 [.inr r] M (px_rt none M) := by
  refine pe_ofW (by decide) W_mJxa1e45_init_da8c8 (Nat.le_of_ble_eq_true rfl) ?_
  refine pe_aload_n dJxa1e45_init_da8c8_0 rfl trivial ?_
  refine pe_objInit dJxa1e45_init_da8c8_1 O_RJxa1e45_1 (Nat.le_of_ble_eq_true rfl) ?_
  refine pe_vret dJxa1e45_init_da8c8_4 rfl ?_ (by omega) (by omega)
  exact ⟨rfl, rfl⟩
set_option maxRecDepth 100000 in
set_option maxHeartbeats 4000000 in
theorem je_init2 {E : Nat × Nat} {M : px_M} {r : px_R} {v w : px_V} {mo : Int32} (hr : M r = some (.inl (6, [.inl (.int mo), v, w]))) : pe_Met E 1 0 0 mJxc12de_init_da8c8 [.inr r] M (px_rt none (px_up M r (.inl (6, [.inl (.int (nI 0)), v, w])))) := by
  refine pe_ofW (by decide) W_mJxc12de_init_da8c8 (Nat.le_of_ble_eq_true rfl) ?_
  refine pe_aload_n dJxc12de_init_da8c8_0 rfl trivial ?_
  refine pe_callI (je_init1) dJxc12de_init_da8c8_1 L_RJxc12de_1 rfl rfl rfl (by decide) (by omega) (by omega) (Nat.le_of_ble_eq_true rfl) ?_
  refine pe_aload_n dJxc12de_init_da8c8_4 rfl trivial ?_
  refine pe_iconst (v := nI 0) dJxc12de_init_da8c8_5 (by decide) ?_
  refine pe_putf dJxc12de_init_da8c8_6 F_RJxc12de_7 nf_6_0 (hr) (Nat.le_of_ble_eq_true rfl) (fun _ => ⟨rfl, rfl⟩) ?_
  refine pe_vret dJxc12de_init_da8c8_9 rfl ?_ (by omega) (by omega)
  exact ⟨rfl, rfl⟩
set_option maxRecDepth 100000 in
set_option maxHeartbeats 4000000 in
theorem je_init {E : Nat × Nat} {M0 M : px_M} {r : px_R} {v : px_V} {mo : Int32} (hr : M r = some (.inl (6, [.inl (.int mo), v, .inl (.int (nI 0))]))) (hf : M = M0) (h9 : ∀ j, M (99, j) = none) (hr9 : r.1 ≠ 99) : pe_Met E 2 0 0 mJx4a65c_init_da8c8 [.inr r] M (fun o M' => o = .inl none ∧ je_s E M0 r [] M') := by
  subst hf
  refine pe_ofW (by decide) W_mJx4a65c_init_da8c8 (Nat.le_of_ble_eq_true rfl) ?_
  refine pe_aload_n dJx4a65c_init_da8c8_0 rfl trivial ?_
  refine pe_callI (je_init2 hr) dJx4a65c_init_da8c8_1 L_RJx4a65c_1 rfl rfl rfl (by decide) (by omega) (by omega) (Nat.le_of_ble_eq_true rfl) ?_
  refine pe_aload_n dJx4a65c_init_da8c8_4 rfl trivial ?_
  refine pe_getsE dJx4a65c_init_da8c8_5 (px_mem 86 (by decide +kernel) rfl) ?_
  refine pe_putf dJx4a65c_init_da8c8_8 F_RJx4a65c_9 nf_6_1 ((px_up_s _ _ _)) (Nat.le_of_ble_eq_true rfl) (fun _ => ⟨rfl, rfl⟩) ?_
  refine pe_vret dJx4a65c_init_da8c8_11 rfl ?_ (by omega) (by omega)
  refine ⟨rfl, Or.inl ⟨rfl, nI 0, px_up_s _ _ _, fun x hx hx9 => ?_, fun j => ?_⟩⟩
  · rw [px_up_n _ _ hx, px_up_n _ _ hx]
  · rw [px_up_n _ _ (je_r9 hr9).symm, px_up_n _ _ (je_r9 hr9).symm, h9 j]
