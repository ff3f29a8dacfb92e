/-! ===== the reference is made: the whole constructor ===== -/
theorem mm_0_R : mm_R mi_0 14 (fun j => if j < 10 then 0 else 1) = mm_0 := by
  refine Prod.ext rfl (Prod.ext (funext fun k => funext fun j => ?_) rfl)
  show px_upN mi_0.2.1 14 (fun j => if j < 10 then 0 else 1) k j = (if k = 14 then (if j < 10 then 0 else 1) else if k = 2 ∨ k = 18 then 1 else 0)
  unfold px_upN
  by_cases e : k = 14
  · rw [if_pos e, if_pos e]
  · rw [if_neg e, if_neg e]
    show (if k = 14 then 1 else if k = 2 ∨ k = 18 then 1 else 0) = _
    rw [if_neg e]
theorem mi_fresh {X : px_M} (h : ∀ k, X (1, k) = none) : px_up X (1, 0) (.inl (5, mi_obj [])) = mi [] X := by
  funext r
  obtain ⟨a, b⟩ := r
  by_cases ha : a = 1
  · subst ha
    by_cases hb : b = 0
    · subst hb; rw [px_up_s, mi_ob]
    · rw [px_up_n _ _ (fun z => hb (congrArg Prod.snd z)), h b]
      show _ = (if 1 = 1 then (if b = 0 then _ else if b ∈ [] then mm_cell mi_0 b else none) else _)
      rw [if_pos rfl, if_neg hb, if_neg List.not_mem_nil]
  · rw [px_up_n _ _ (fun z => ha (congrArg Prod.fst z))]
    show _ = (if a = 1 then _ else _)
    rw [if_neg ha]
set_option maxRecDepth 100000 in
set_option maxHeartbeats 8000000 in
theorem me_init (X : px_M) : px_Met 1 23 81583 mX5_init [.inr (1, 0)] (mi [] X) (px_rt none (mm_M mm_0 X)) := by
  refine px_ofW (by decide) W_mX5_init (Nat.le_of_ble_eq_true rfl) ?_
  have loop : ∀ (u k : Nat), k ≤ 10 → 10 < k + u → px_W 1 23 81583 mX5_init (px_rt none (mm_M mm_0 X)) 199 [(0, .inr (1, 0)), (1, .inl (.int (nI k)))] [] (mm_M (mm_R mi_0 14 (fun j => if j < k then 0 else 1)) X) 23 81583 := by
    intro u
    induction u with
    | zero => intro k g1 g2; omega
    | succ u ih =>
      intro k g1 g2
      refine px_iload_n dX5_init_199 rfl ?_
      refine px_bipush (v := nI 10) dX5_init_200 (by decide) ?_
      refine pn_icmp_ge (tgt := 218) dX5_init_202 (by decide) (nI_leI (by omega) (by omega)) (fun z => ?_) (fun z => ?_)
      · refine px_vret dX5_init_218 rfl ⟨rfl, ?_⟩ (by omega) (by omega)
        rw [show k = 10 by omega, mm_0_R]
      · refine px_aload_n dX5_init_205 rfl trivial ?_
        refine mm_get dX5_init_206 F_RX5_38 rfl ?_
        refine px_iload_n dX5_init_209 rfl ?_
        refine px_iconst (v := -1) dX5_init_210 (by decide) ?_
        refine mm_ast_o dX5_init_211 rfl (by first | rfl | assumption) (by first | exact px_o_n | exact px_o_s _ | rfl | assumption) (by first | assumption | omega) ?_
        refine px_iinc dX5_init_212 rfl (pn_i1 _) (by decide) ?_
        refine px_goto (tgt := 199) dX5_init_215 (by decide) ?_
        rw [mr_RA]
        rw [show px_upN (fun j => if j < k then 0 else 1) k 0 = fun j => if j < k + 1 then 0 else 1 from funext fun j => by
          unfold px_upN
          by_cases e : j = k
          · rw [if_pos e, if_pos (by omega)]
          · rw [if_neg e]
            show (if j < k then 0 else 1) = _
            by_cases e2 : j < k
            · rw [if_pos e2, if_pos (by omega)]
            · rw [if_neg e2, if_neg (by omega)]]
        exact px_sub (ih (k + 1) (by omega) (by omega)) rfl
  refine px_aload_n dX5_init_0 rfl trivial ?_
  refine px_objInit dX5_init_1 O_RX5_1 (by decide) ?_
  refine px_sub (me_init_a X _ ?_) rfl
  rw [mi_all]
  refine px_iconst (v := nI 0) dX5_init_197 (by decide) ?_
  refine px_istore_n dX5_init_198 (by decide) ?_
  have := loop 11 0 (by omega) (by omega)
  rw [show (fun j => if j < 0 then 0 else 1) = mi_0.2.1 14 from funext fun j => by rw [if_neg (Nat.not_lt_zero j)]; rfl, mr_R0] at this
  exact px_sub this rfl
