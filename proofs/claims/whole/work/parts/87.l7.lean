/-! ===== the law's beginning ===== -/
theorem lW_u (s : mm_S) (u : cc_U) (X : px_M) (i : Nat) (o : px_O) : px_up (mm_M s (cc_M u X)) (15, i) o = mm_M s (cc_M u (px_up X (15, i) o)) := by
  rw [lW_c, cc_up15 (show ¬ (2 ≤ 15 ∧ 15 ≤ 14) by decide), lW_b]
theorem lM_mi (u : cc_U) : px_up (cc_M u (fun _ => none)) (1, 0) (.inl (5, mi_obj [])) = mi [] (cc_M u (fun _ => none)) := by
  funext r
  obtain ⟨a, b⟩ := r
  by_cases h : ((a, b) : px_R) = (1, 0)
  · rw [h, px_up_s, mi_ob]
  · rw [px_up_n _ _ h]
    by_cases ha : a = 1
    · subst ha
      have hb : b ≠ 0 := fun e => h (by rw [e])
      rw [mi_new [] _ hb List.not_mem_nil]
      unfold cc_M
      rw [if_neg (show ¬ (2 ≤ 1 ∧ 1 ≤ 14) by decide)]
    · show _ = if a = 1 then _ else _
      rw [if_neg ha]
theorem lM_al (N : Nat) (ad : px_R → Nat) (cA : ClassId) : vp_cell cA (N, px_a ad (.inr (.inl fun _ => 0))) = arrV cA N (fun _ => defaultValue (px_ty 3)) := rfl
theorem lM_no {u : cc_U} {s : mm_S} {X : px_M} {i : Nat} (h : X (15, i) = none) : mm_M s (cc_M u X) (15, i) = none := by
  unfold mm_M
  rw [if_neg (show ¬ 15 = 1 by decide)]
  unfold cc_M
  rw [if_neg (show ¬ (2 ≤ 15 ∧ 15 ≤ 14) by decide)]
  exact h
theorem ok_0 : mm_ok mm_0 := by
  refine ⟨⟨Nat.zero_le _, Nat.zero_le _, Nat.zero_le _, Nat.zero_le _, Nat.zero_le _, Nat.zero_le _, Nat.zero_le _⟩, fun a h => absurd h (Nat.not_lt_zero _), fun a h => absurd h (Nat.not_lt_zero _), fun a h => absurd h (Nat.not_lt_zero _), fun j hj => ?_, fun a h => absurd h (Nat.not_lt_zero _), fun a h => absurd h (Nat.not_lt_zero _), fun _ => 0, fun a h => absurd h (Nat.not_lt_zero _)⟩
  show (if j < 10 then 0 else 1) ≤ 0
  rw [if_pos hj]
  exact Nat.le_refl 0
set_option maxRecDepth 100000 in
set_option maxHeartbeats 8000000 in
theorem lw_walk0 {G0 : px_G} {Q : px_Q} (hL : px_gL G0 ≤ 2048) (hQ : ∀ M, Q (.inl (some (.inl (.int (nI 1))))) M) : pg_W G0 12 601024 7293034 mL_law Q 0 [(0, .inl (.ref (px_gb G0)))] [] (fun _ => none) 0 0 := by
  have c0 : c9 (fun _ => none) := fun _ => rfl
  refine pg_new (ci := 4) (14, 0) dL_law_0 rfl K_RL_8 N_RX4 Z_RX4 rfl rfl (by omega) (show 0 + 11 ≤ 7293034 by omega) ?_
  refine pg_wid (k' := 1) (n' := 11) (by omega) (show 0 + 11 ≤ 11 by omega) ?_
  refine pg_dup dL_law_3 rfl ?_
  refine pg_callI (ce_init (fun _ => none) c0 (fun _ _ _ _ => rfl)) dL_law_4 L_RL_67 rfl rfl rfl (by decide) (by omega) (by omega) (Nat.le_of_ble_eq_true rfl) ?_
  refine pg_astore_n dL_law_7 (by decide) trivial ?_
  refine pg_new (ci := 5) (1, 0) dL_law_8 rfl K_RL_68 N_RX5 Z_RX5 ?_ rfl (by omega) (show 11 + 3000 + 31 ≤ 7293034 by omega) ?_
  · unfold cc_M; rw [if_neg (show ¬ (2 ≤ 1 ∧ 1 ≤ 14) by decide)]
  refine pg_wid (k' := 42) (n' := 3042) (by omega) (show 11 + 3000 + 31 ≤ 3042 by omega) ?_
  refine pg_dup dL_law_11 rfl ?_
  rw [show px_up (cc_M cU_0 (fun _ => none)) (1, 0) (.inl (5, (List.range 31).map fun j => px_dv (px_fty 5 j))) = mi [] (cc_M cU_0 (fun _ => none)) from lM_mi cU_0]
  refine pg_callI (me_init (cc_M cU_0 (fun _ => none))) dL_law_12 L_RL_70 rfl rfl rfl (by decide) (by omega) (by omega) (Nat.le_of_ble_eq_true rfl) ?_
  refine pg_astore_n dL_law_15 (by decide) trivial ?_
  refine pg_iconst (v := nI 1) dL_law_16 (by decide) ?_
  refine pg_newa (t := 3) (N := 1) (a0 := .inr (.inl fun _ => 0)) (15, 0) dL_law_17 rfl (by decide) A_long (lM_no rfl) rfl (by omega) (lM_al 1) trivial (by omega) (by omega) ?_
  rw [lW_u]
  refine pg_astore_n dL_law_19 (by decide) trivial ?_
  refine pg_iconst (v := nI 1) dL_law_20 (by decide) ?_
  refine pg_newa (t := 1) (N := 1) (a0 := .inr (.inr (.inl fun _ => 0))) (15, 1) dL_law_21 rfl (by decide) A_double (lM_no ((px_up_n _ _ (by decide)).trans rfl)) rfl (by omega) (mi_a1 1 fun _ => rfl) trivial (by omega) (by omega) ?_
  rw [lW_u]
  refine pg_astore dL_law_23 (by decide) trivial ?_
  refine pg_iconst (v := nI 0) dL_law_25 (by decide) ?_
  refine pg_istore dL_law_26 (by decide) ?_
  refine pg_sub (pg_wid (by omega) (by omega) (lw_loop hL hQ 513 0 mm_0 cU_0 _ [] ⟨ok_0, cok_0, ⟨⟨_, (px_up_n _ _ (by decide)).trans (px_up_s _ _ _)⟩, ⟨_, px_up_s _ _ _⟩⟩, ?_⟩ rfl (fun z => absurd rfl z))) rfl
  exact px_u9 (px_u9 c0 (by decide)) (by decide)
