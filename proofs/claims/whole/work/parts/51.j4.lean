/-! ===== the list's methods over worlds that hold lists; Arrays.fill ===== -/
theorem px_up_id {M : px_M} {r : px_R} {o : px_O} (h : M r = some o) : px_up M r o = M := by
  funext x
  by_cases e : x = r
  · rw [e, px_up_s, h]
  · rw [px_up_n _ _ e]
theorem je_s.ob {E : Nat × Nat} {M0 M : px_M} {r : px_R} {xs : List px_R} (h : je_s E M0 r xs M) : ∃ mo v, M r = some (je_ob mo v xs.length) := by
  rcases h with ⟨rfl, mo, h⟩ | ⟨mo, k, n, h⟩
  · exact ⟨mo, _, h.1⟩
  · exact ⟨mo, _, h.1⟩
theorem jl_el {M : px_M} {r : px_R} {xs : List px_R} (hr : M r = some (.inr (.inr xs))) (hM9 : ∀ k, M (99, k) = none) {x : px_R} (hx : px_obs M x) : x ≠ r ∧ x.1 ≠ 99 ∧ px_obs M x := by
  obtain ⟨ci, fs, q, h1, h2⟩ := id hx
  refine ⟨fun e => ?_, fun e => ?_, hx⟩
  · rw [e, hr] at h1; cases h1
  · obtain ⟨a, b⟩ := x
    have e' : a = 99 := e
    rw [e', hM9] at h1; cases h1
section JL
variable {M : px_M} {r : px_R} {xs : List px_R} (hr : M r = some (.inr (.inr xs))) (h9 : r.1 ≠ 99) (hM9 : ∀ k, M (99, k) = none)
theorem jl_size (hr : M r = some (.inr (.inr xs))) (h9 : r.1 ≠ 99) (hM9 : ∀ k, M (99, k) = none) : px_Met 0 0 0 mJx4a65c_size_8abf5 [.inr r] M (px_rt (some (.inl (.int (nI xs.length)))) M) := by
  refine je_open hr h9 hM9 fun E M1 hs hw => ?_
  obtain ⟨mo, v, h1⟩ := hs.ob
  refine (je_size h1).mono fun o M' h => ?_
  obtain ⟨rfl, rfl⟩ := h
  exact ⟨xs, hs, hw, fun w hw => by cases hw; trivial, rfl, px_up_id hr⟩
theorem jl_isEmpty (hl : xs.length < 2 ^ 31) (hr : M r = some (.inr (.inr xs))) (h9 : r.1 ≠ 99) (hM9 : ∀ k, M (99, k) = none) : px_Met 0 0 0 mJx4a65c_isEmpty_aae02 [.inr r] M (px_rt (some (.inl (.int (nI (if xs.length = 0 then 1 else 0))))) M) := by
  refine je_open hr h9 hM9 fun E M1 hs hw => ?_
  obtain ⟨mo, v, h1⟩ := hs.ob
  refine (je_isEmpty hl h1).mono fun o M' h => ?_
  obtain ⟨rfl, rfl⟩ := h
  exact ⟨xs, hs, hw, fun w hw => by cases hw; trivial, rfl, px_up_id hr⟩
theorem jl_get {x : px_R} {i : Nat} (hi : xs[i]? = some x) (hr : M r = some (.inr (.inr xs))) (h9 : r.1 ≠ 99) (hM9 : ∀ k, M (99, k) = none) : px_Met 2 0 0 mJx4a65c_get_915e3 [.inr r, .inl (.int (nI i))] M (px_rt (some (.inr x)) M) := by
  refine je_open hr h9 hM9 fun E M1 hs hw => ?_
  refine (je_get hs hi).mono fun o M' h => ?_
  obtain ⟨rfl, rfl⟩ := h
  exact ⟨xs, hs, hw, fun w hw' => by cases hw'; exact hw x (List.mem_of_getElem? hi), rfl, px_up_id hr⟩
theorem jl_add {x : px_R} (hl : xs.length ≤ 180) (hx : px_obs M x) (ho : ∀ y ∈ xs, px_obs M y) (hr : M r = some (.inr (.inr xs))) (h9 : r.1 ≠ 99) (hM9 : ∀ k, M (99, k) = none) : px_Met 6 1 280 mJx4a65c_add_9ea2d [.inr r, .inr x] M (px_rt (some (.inl (.int (nI 1)))) (px_up M r (.inr (.inr (xs ++ [x]))))) := by
  refine je_open hr h9 hM9 fun E M1 hs hw => ?_
  refine (je_add1 ⟨h9, fun y hy => jl_el hr hM9 (ho y hy)⟩ (jl_el hr hM9 hx) hs hl).mono fun o M' h => ?_
  obtain ⟨rfl, h⟩ := h
  refine ⟨xs ++ [x], h, fun y hy => ?_, fun w hw' => by cases hw'; trivial, rfl, rfl⟩
  rcases List.mem_append.mp hy with h1 | h1
  · exact hw y h1
  · rw [List.mem_singleton.mp h1]
    obtain ⟨ci, fs, q, h1, -⟩ := hx
    rw [h1]; exact fun z => by cases z
theorem jl_addAt {x : px_R} {i B : Nat} (hl : xs.length ≤ 180) (hB : 11 + xs.length + xs.length / 2 ≤ B) (hi : i ≤ xs.length) (hx : px_obs M x) (ho : ∀ y ∈ xs, px_obs M y) (hr : M r = some (.inr (.inr xs))) (h9 : r.1 ≠ 99) (hM9 : ∀ k, M (99, k) = none) : px_Met 6 1 B mJx4a65c_add_7a177 [.inr r, .inl (.int (nI i)), .inr x] M (px_rt none (px_up M r (.inr (.inr (xs.take i ++ x :: xs.drop i))))) := by
  refine je_open hr h9 hM9 fun E M1 hs hw => ?_
  refine (je_addAt ⟨h9, fun y hy => jl_el hr hM9 (ho y hy)⟩ (jl_el hr hM9 hx) hs hl hB hi).mono fun o M' h => ?_
  obtain ⟨rfl, h⟩ := h
  refine ⟨_, h, fun y hy => ?_, fun w hw' => (by cases hw'), rfl, rfl⟩
  rcases List.mem_append.mp hy with h1 | h1
  · exact hw y (List.mem_of_mem_take h1)
  · rcases List.mem_cons.mp h1 with h2 | h2
    · rw [h2]
      obtain ⟨ci, fs, q, h1, -⟩ := hx
      rw [h1]; exact fun z => by cases z
    · exact hw y (List.mem_of_mem_drop h2)
theorem jl_remove {x : px_R} {i : Nat} (hi : xs[i]? = some x) (ho : ∀ y ∈ xs, px_obs M y) (hr : M r = some (.inr (.inr xs))) (h9 : r.1 ≠ 99) (hM9 : ∀ k, M (99, k) = none) : px_Met 2 0 0 mJx4a65c_remove_915e3 [.inr r, .inl (.int (nI i))] M (px_rt (some (.inr x)) (px_up M r (.inr (.inr (xs.eraseIdx i))))) := by
  refine je_open hr h9 hM9 fun E M1 hs hw => ?_
  refine (je_remove ⟨h9, fun y hy => jl_el hr hM9 (ho y hy)⟩ hs hi).mono fun o M' h => ?_
  obtain ⟨rfl, h⟩ := h
  exact ⟨_, h, fun y hy => hw y (List.mem_of_mem_eraseIdx hy), fun w hw' => by cases hw'; exact hw x (List.mem_of_getElem? hi), rfl, rfl⟩
theorem jl_init {v : px_V} {mo : Int32} (hr : M r = some (.inl (6, [.inl (.int mo), v, .inl (.int (nI 0))]))) (h9 : r.1 ≠ 99) (hM9 : ∀ k, M (99, k) = none) : px_Met 2 0 0 mJx4a65c_init_da8c8 [.inr r] M (px_rt none (px_up M r (.inr (.inr [])))) := by
  refine je_openI h9 hM9 (by rw [hr]; exact fun z => by cases z) fun E => ?_
  refine (je_init (M0 := M) hr rfl hM9 h9).mono fun o M' h => ?_
  obtain ⟨rfl, h⟩ := h
  exact ⟨[], h, fun y hy => absurd hy List.not_mem_nil, fun w hw' => (by cases hw'), rfl, rfl⟩
end JL
set_option maxRecDepth 100000 in
set_option maxHeartbeats 4000000 in
theorem jl_fill {M : px_M} {r : px_R} {len : Nat} {f : Nat → Int32} {v : Int32} (hn : len ≤ 65536) (hr : M r = some (.inr (.inl (0, len, .inl f)))) : px_Met 0 0 0 mJ7_fill_53178 [.inr r, .inl (.int v)] M (px_rt none (px_up M r (.inr (.inl (0, len, .inl fun j => if j < len then v else f j))))) := by
  refine px_ofW (by decide) W_mJ7_fill_53178 (Nat.le_of_ble_eq_true rfl) ?_
  have loop : ∀ (n i : Nat), i + n = len → px_W 0 0 0 mJ7_fill_53178 (px_rt none (px_up M r (.inr (.inl (0, len, .inl fun j => if j < len then v else f j))))) 5 [(0, .inr r), (1, .inl (.int v)), (2, .inl (.int (nI i))), (3, .inl (.int (nI len)))] [] (px_up M r (.inr (.inl (0, len, .inl fun j => if j < i then v else f j)))) 0 0 := by
    intro n
    induction n with
    | zero =>
      intro i h
      refine px_iload_n dJ7_fill_53178_5 rfl ?_
      refine px_iload_n dJ7_fill_53178_6 rfl ?_
      refine pn_icmp_ge (tgt := 20) dJ7_fill_53178_7 (by decide) (nI_leI (by omega) (by omega)) (fun h => ?_) (fun h => ?_)
      · refine px_vret dJ7_fill_53178_20 rfl ?_ (by omega) (by omega)
        obtain rfl : i = len := by omega
        exact ⟨rfl, rfl⟩
      · omega
    | succ n ih =>
      intro i h
      refine px_iload_n dJ7_fill_53178_5 rfl ?_
      refine px_iload_n dJ7_fill_53178_6 rfl ?_
      refine pn_icmp_ge (tgt := 20) dJ7_fill_53178_7 (by decide) (nI_leI (by omega) (by omega)) (fun h7 => ?_) (fun h7 => ?_)
      · omega
      · refine px_aload_n dJ7_fill_53178_10 rfl trivial ?_
        refine px_iload_n dJ7_fill_53178_11 rfl ?_
        refine px_iload_n dJ7_fill_53178_12 rfl ?_
        refine px_ast_i (j := i) dJ7_fill_53178_13 (px_up_s _ _ _) rfl (by omega) hn ?_
        refine px_iinc dJ7_fill_53178_14 rfl (pn_i1 _) (by decide) ?_
        refine px_goto (tgt := 5) dJ7_fill_53178_17 (by decide) ?_
        have e : px_up (px_up M r (.inr (.inl (0, len, .inl fun j => if j < i then v else f j)))) r (.inr (.inl (0, len, .inl (upd (fun j => if j < i then v else f j) i v)))) = px_up M r (.inr (.inl (0, len, .inl fun j => if j < i + 1 then v else f j))) := by
          funext x
          by_cases ex : x = r
          · rw [ex, px_up_s, px_up_s]
            refine congrArg (fun g => some (Sum.inr (Sum.inl (0, len, Sum.inl g)))) (funext fun j => ?_)
            unfold upd
            by_cases e1 : j = i
            · rw [if_pos e1, if_pos (by omega)]
            · rw [if_neg e1]
              by_cases e2 : j < i
              · simp only [if_pos e2]; rw [if_pos (by omega)]
              · simp only [if_neg e2]; rw [if_neg (by omega)]
          · rw [px_up_n _ _ ex, px_up_n _ _ ex, px_up_n _ _ ex]
        rw [e]
        exact px_sub (ih (i + 1) (by omega)) rfl
  refine px_iconst (v := nI 0) dJ7_fill_53178_0 (by decide) ?_
  refine px_istore_n dJ7_fill_53178_1 (by decide) ?_
  refine px_aload_n dJ7_fill_53178_2 rfl trivial ?_
  refine px_alen dJ7_fill_53178_3 hr (by decide) ?_
  refine px_istore_n dJ7_fill_53178_4 (by decide) ?_
  have e0 : px_up M r (.inr (.inl (0, len, .inl fun j => if j < 0 then v else f j))) = M := px_up_id (by rw [hr]; rfl)
  have := loop len 0 (by omega)
  rw [e0] at this
  exact px_sub this rfl
