/-! ===== the class's object is made ===== -/
def cE_0 : cc_E := (fun _ => 0, fun _ => 0, fun _ => none, [], 0)
def cE_1 (c : Nat) : cc_E := (fun _ => c, fun _ => 0, fun _ => none, [], 1)
def cU_A (n : Nat) : cc_U := fun k i => if k = 14 ∧ 1 ≤ i ∧ i ≤ n then cE_1 0 else cE_0
def cU_0 : cc_U := fun k i => if k = 14 ∧ i ≤ 8 then (if i = 7 then ((fun j => if j < 10 then 0 else 1), fun _ => 0, fun _ => none, [], 1) else cE_1 0) else if (i = 60 ∨ i = 61) ∧ (k = 2 ∨ (7 ≤ k ∧ k ≤ 13)) then ((fun j => if k = 2 ∧ i = 61 ∧ j = 0 then 61 else if k = 7 ∧ i = 61 ∧ j = 0 then 1 else 0), (fun _ => if k = 2 then -8 else 0), fun _ => none, [], 1) else cE_0
theorem cU_A0 (n : Nat) {k i : Nat} (h : ¬ (k = 14 ∧ 1 ≤ i ∧ i ≤ n)) : ¬ cx (cU_A n) k i := by unfold cx cU_A; rw [if_neg h]; exact fun z => z rfl
theorem cU_Ae {X : px_M} (hX : ∀ k i, 2 ≤ k → k ≤ 14 → X (k, i) = none) : cc_M (cU_A 0) X = X := by
  funext r
  obtain ⟨k, i⟩ := r
  by_cases h : 2 ≤ k ∧ k ≤ 14
  · rw [cc_no (cU_A0 0 (by omega)) h, hX k i h.1 h.2]
  · unfold cc_M; rw [if_neg h]
theorem cU_As {n : Nat} : cc_set (cU_A n) 14 (n + 1) (cE_1 0) = cU_A (n + 1) := by
  funext k i
  unfold cc_set cU_A
  by_cases h : k = 14 ∧ i = n + 1
  · rw [if_pos h, if_pos (by omega)]
  · rw [if_neg h]
    by_cases g : k = 14 ∧ 1 ≤ i ∧ i ≤ n
    · rw [if_pos g, if_pos (by omega)]
    · rw [if_neg g, if_neg (by omega)]
/-- a thing made, and its field set -/
theorem ci_up {u : cc_U} {X : px_M} {k i : Nat} {e : cc_E} {o o' o1 : px_O} (hk : 2 ≤ k ∧ k ≤ 14) (hn : ((k, i) : px_R) ≠ (14, 0)) (h : cc_cell k i e = some o1) : px_up (px_up (px_up (cc_M u X) (14, 0) o) (k, i) o1) (14, 0) o' = px_up (cc_M (cc_set u k i e) X) (14, 0) o' := by
  rw [← cc_up hk h]
  funext r
  unfold px_up
  by_cases h1 : r = (14, 0)
  · simp [h1]
  · by_cases h2 : r = (k, i)
    · subst h2; simp [hn]
    · simp [h1, h2]
theorem ci_np {u : cc_U} {X : px_M} {p c : Nat} {o o' d : px_O} : px_up (ce_np (px_up (px_up (cc_M u X) (14, 0) o) (2, p) d) p (cc_wl p) (px_o c)) (14, 0) o' = px_up (cc_M (cc_np u p c) X) (14, 0) o' := by
  rw [← cc_np_eq u X p c d]
  funext r
  by_cases h1 : r = (14, 0)
  · subst h1; rw [px_up_s, px_up_s]
  · rw [px_up_n _ _ h1, px_up_n _ _ h1]
    unfold ce_np ce_nw
    by_cases h2 : r = (2, p)
    · subst h2; rw [if_pos rfl, if_pos rfl]
    · rw [if_neg h2, if_neg h2, px_up_n _ _ h2, px_up_n _ _ h2, px_up_n _ _ h1]
theorem ci_no {u : cc_U} {X : px_M} {k i : Nat} {o : px_O} (hx : ¬ cx u k i) (hk : 2 ≤ k ∧ k ≤ 14) (hn : ((k, i) : px_R) ≠ (14, 0)) : px_up (cc_M u X) (14, 0) o (k, i) = none := (px_up_n _ _ hn).trans (cc_no hx hk)
theorem ci_9 {u : cc_U} {X : px_M} {o : px_O} (hX : c9 X) (k : Nat) : px_up (cc_M u X) (14, 0) o (99, k) = none := px_u9 (cc_99 hX) (by decide) k
theorem ci_np0 {M : px_M} {p w : Nat} {v : Int32} {o d : px_O} : ce_np (px_up (px_up M (14, 0) o) (2, p) d) p w v (14, 0) = some o := by
  unfold ce_np ce_nw
  rw [if_neg (ce_ne (by decide)), if_neg (ce_ne (by decide)), if_neg (ce_ne (by decide)), if_neg (ce_ne (by decide)), if_neg (ce_ne (by decide)), if_neg (ce_ne (by decide)), if_neg (ce_ne (by decide)), if_neg (ce_ne (by decide)), px_up_n _ _ (ce_ne (by decide)), px_up_s]
theorem ci_no2 {u : cc_U} {X : px_M} {k p : Nat} {o d : px_O} (hx : ¬ cx u k p) (hk : 7 ≤ k ∧ k ≤ 13) : px_up (px_up (cc_M u X) (14, 0) o) (2, p) d (k, p) = none := (px_up_n _ _ (ce_ne (by omega))).trans (ci_no hx (by omega) (ce_ne (by omega)))
theorem cU_end : cN (cR (cc_set (cc_set (cc_np (cc_np (cc_set (cU_A 6) 14 7 (cE_1 1)) 60 0) 61 61) 14 8 (cE_1 0)) 14 0 (cE_1 0)) 14 7 (fun j => if j < 10 then 0 else 1)) 7 61 0 1 = cU_0 := by
  funext k i
  unfold cU_0 cN cR cc_set cc_np cU_A
  by_cases h14 : k = 14
  · subst h14
    by_cases h7 : i = 7
    · subst h7; rfl
    · by_cases h8 : i ≤ 8
      · rcases (show i = 0 ∨ i = 1 ∨ i = 2 ∨ i = 3 ∨ i = 4 ∨ i = 5 ∨ i = 6 ∨ i = 8 by omega) with rfl | rfl | rfl | rfl | rfl | rfl | rfl | rfl <;> rfl
      · simp [h7, h8, show ¬ i = 8 by omega, show ¬ i = 0 by omega, show ¬ i ≤ 6 by omega]
  · by_cases h : (i = 60 ∨ i = 61) ∧ (k = 2 ∨ (7 ≤ k ∧ k ≤ 13))
    · rcases h with ⟨rfl | rfl, h⟩
      · rcases (show k = 2 ∨ k = 7 ∨ k = 8 ∨ k = 9 ∨ k = 10 ∨ k = 11 ∨ k = 12 ∨ k = 13 by omega) with rfl | rfl | rfl | rfl | rfl | rfl | rfl | rfl <;> refine Prod.ext (funext fun j => ?_) rfl <;> simp
      · rcases (show k = 2 ∨ k = 7 ∨ k = 8 ∨ k = 9 ∨ k = 10 ∨ k = 11 ∨ k = 12 ∨ k = 13 by omega) with rfl | rfl | rfl | rfl | rfl | rfl | rfl | rfl <;> refine Prod.ext (funext fun j => ?_) rfl <;> simp [px_upN]
    · have h7 : ¬ (k = 7 ∧ i = 61) := fun z => h ⟨Or.inr z.2, Or.inr (by omega)⟩
      have h60 : ¬ (i = 60 ∧ (k = 2 ∨ (7 ≤ k ∧ k ≤ 13))) := fun z => h ⟨Or.inl z.1, z.2⟩
      have h61 : ¬ (i = 61 ∧ (k = 2 ∨ (7 ≤ k ∧ k ≤ 13))) := fun z => h ⟨Or.inr z.1, z.2⟩
      simp only [h7, h14, h60, h61, h, false_and, if_false]
set_option maxRecDepth 100000 in
set_option maxHeartbeats 8000000 in
theorem ce_init (X : px_M) (hX : c9 X) (hX0 : ∀ k i, 2 ≤ k → k ≤ 14 → X (k, i) = none) {v0 v1 v2 v3 v4 v5 v6 v7 v8 v9 v10 : px_V} : px_Met 4 40 3000 mX4_init [.inr (14, 0)] (px_up X (14, 0) (.inl (4, [v0, v1, v2, v3, v4, v5, v6, v7, v8, v9, v10]))) (px_rt none (cc_M cU_0 X)) := by
  rw [show px_up X (14, 0) (.inl (4, [v0, v1, v2, v3, v4, v5, v6, v7, v8, v9, v10])) = px_up (cc_M (cU_A 0) X) (14, 0) (.inl (4, [v0, v1, v2, v3, v4, v5, v6, v7, v8, v9, v10])) by rw [cU_Ae hX0]]
  refine px_ofW (by decide) W_mX4_init (Nat.le_of_ble_eq_true rfl) ?_
  refine px_aload_n dX4_init_0 rfl trivial ?_
  refine px_objInit dX4_init_1 O_RX4_3 (Nat.le_of_ble_eq_true rfl) ?_
  refine px_aload_n dX4_init_4 rfl trivial ?_
  refine px_newo (ci := 6) (14, 1) dX4_init_5 rfl K_RX4_9 N_RJx4a65c Z_RJx4a65c (ci_no (cU_A0 0 (by omega)) (by decide) (by decide)) rfl (by omega) (by omega) ?_
  refine px_dup dX4_init_8 rfl ?_
  refine px_callI (jl_init (mo := 0) (v := .inl .null) (px_up_s _ _ _) (by simp) (px_u9 (ci_9 hX) (by simp))) dX4_init_9 L_RX4_11 rfl rfl rfl (by decide) (by omega) (by omega) (Nat.le_of_ble_eq_true rfl) ?_
  rw [px_up2]
  refine px_putF dX4_init_12 G_RX4_12 rfl (((px_up_n _ _ (by decide)).trans (px_up_s _ _ _))) (Nat.le_of_ble_eq_true rfl) (fun _ => ⟨rfl, rfl⟩) ?_
  refine px_eqM ((ci_up (e := cE_1 0) (by decide) (by decide) rfl).trans (by rw [cU_As])) ?_
  refine px_aload_n dX4_init_15 rfl trivial ?_
  refine px_newo (ci := 6) (14, 2) dX4_init_16 rfl K_RX4_9 N_RJx4a65c Z_RJx4a65c (ci_no (cU_A0 1 (by omega)) (by decide) (by decide)) rfl (by omega) (by omega) ?_
  refine px_dup dX4_init_19 rfl ?_
  refine px_callI (jl_init (mo := 0) (v := .inl .null) (px_up_s _ _ _) (by simp) (px_u9 (ci_9 hX) (by simp))) dX4_init_20 L_RX4_11 rfl rfl rfl (by decide) (by omega) (by omega) (Nat.le_of_ble_eq_true rfl) ?_
  rw [px_up2]
  refine px_putF dX4_init_23 G_RX4_16 rfl (((px_up_n _ _ (by decide)).trans (px_up_s _ _ _))) (Nat.le_of_ble_eq_true rfl) (fun _ => ⟨rfl, rfl⟩) ?_
  refine px_eqM ((ci_up (e := cE_1 0) (by decide) (by decide) rfl).trans (by rw [cU_As])) ?_
  refine px_aload_n dX4_init_26 rfl trivial ?_
  refine px_newo (ci := 6) (14, 3) dX4_init_27 rfl K_RX4_9 N_RJx4a65c Z_RJx4a65c (ci_no (cU_A0 2 (by omega)) (by decide) (by decide)) rfl (by omega) (by omega) ?_
  refine px_dup dX4_init_30 rfl ?_
  refine px_callI (jl_init (mo := 0) (v := .inl .null) (px_up_s _ _ _) (by simp) (px_u9 (ci_9 hX) (by simp))) dX4_init_31 L_RX4_11 rfl rfl rfl (by decide) (by omega) (by omega) (Nat.le_of_ble_eq_true rfl) ?_
  rw [px_up2]
  refine px_putF dX4_init_34 G_RX4_19 rfl (((px_up_n _ _ (by decide)).trans (px_up_s _ _ _))) (Nat.le_of_ble_eq_true rfl) (fun _ => ⟨rfl, rfl⟩) ?_
  refine px_eqM ((ci_up (e := cE_1 0) (by decide) (by decide) rfl).trans (by rw [cU_As])) ?_
  refine px_aload_n dX4_init_37 rfl trivial ?_
  refine px_newo (ci := 6) (14, 4) dX4_init_38 rfl K_RX4_9 N_RJx4a65c Z_RJx4a65c (ci_no (cU_A0 3 (by omega)) (by decide) (by decide)) rfl (by omega) (by omega) ?_
  refine px_dup dX4_init_41 rfl ?_
  refine px_callI (jl_init (mo := 0) (v := .inl .null) (px_up_s _ _ _) (by simp) (px_u9 (ci_9 hX) (by simp))) dX4_init_42 L_RX4_11 rfl rfl rfl (by decide) (by omega) (by omega) (Nat.le_of_ble_eq_true rfl) ?_
  rw [px_up2]
  refine px_putF dX4_init_45 G_RX4_22 rfl (((px_up_n _ _ (by decide)).trans (px_up_s _ _ _))) (Nat.le_of_ble_eq_true rfl) (fun _ => ⟨rfl, rfl⟩) ?_
  refine px_eqM ((ci_up (e := cE_1 0) (by decide) (by decide) rfl).trans (by rw [cU_As])) ?_
  refine px_aload_n dX4_init_48 rfl trivial ?_
  refine px_newo (ci := 6) (14, 5) dX4_init_49 rfl K_RX4_9 N_RJx4a65c Z_RJx4a65c (ci_no (cU_A0 4 (by omega)) (by decide) (by decide)) rfl (by omega) (by omega) ?_
  refine px_dup dX4_init_52 rfl ?_
  refine px_callI (jl_init (mo := 0) (v := .inl .null) (px_up_s _ _ _) (by simp) (px_u9 (ci_9 hX) (by simp))) dX4_init_53 L_RX4_11 rfl rfl rfl (by decide) (by omega) (by omega) (Nat.le_of_ble_eq_true rfl) ?_
  rw [px_up2]
  refine px_putF dX4_init_56 G_RX4_25 rfl (((px_up_n _ _ (by decide)).trans (px_up_s _ _ _))) (Nat.le_of_ble_eq_true rfl) (fun _ => ⟨rfl, rfl⟩) ?_
  refine px_eqM ((ci_up (e := cE_1 0) (by decide) (by decide) rfl).trans (by rw [cU_As])) ?_
  refine px_aload_n dX4_init_59 rfl trivial ?_
  refine px_newo (ci := 6) (14, 6) dX4_init_60 rfl K_RX4_9 N_RJx4a65c Z_RJx4a65c (ci_no (cU_A0 5 (by omega)) (by decide) (by decide)) rfl (by omega) (by omega) ?_
  refine px_dup dX4_init_63 rfl ?_
  refine px_callI (jl_init (mo := 0) (v := .inl .null) (px_up_s _ _ _) (by simp) (px_u9 (ci_9 hX) (by simp))) dX4_init_64 L_RX4_11 rfl rfl rfl (by decide) (by omega) (by omega) (Nat.le_of_ble_eq_true rfl) ?_
  rw [px_up2]
  refine px_putF dX4_init_67 G_RX4_28 rfl (((px_up_n _ _ (by decide)).trans (px_up_s _ _ _))) (Nat.le_of_ble_eq_true rfl) (fun _ => ⟨rfl, rfl⟩) ?_
  refine px_eqM ((ci_up (e := cE_1 0) (by decide) (by decide) rfl).trans (by rw [cU_As])) ?_
  have x0 : ∀ k i, ¬ (k = 14 ∧ 1 ≤ i ∧ i ≤ 6) → ¬ cx (cU_A 6) k i := fun k i h => cU_A0 6 h
  generalize hA : cU_A 6 = uA at x0 ⊢
  refine px_aload_n dX4_init_70 rfl trivial ?_
  refine px_bipush (v := nI 10) dX4_init_71 (by decide) ?_
  refine px_newa (t := 0) (N := 10) (a0 := .inl fun _ => nI 0) (14, 7) dX4_init_73 rfl (by decide) A_int (ci_no (x0 14 7 (by omega)) (by decide) (by decide)) rfl (by omega) (mi_a0 10 fun j => rfl) trivial (by omega) (by omega) ?_
  refine px_putF dX4_init_75 G_RX4_31 rfl (((px_up_n _ _ (by decide)).trans (px_up_s _ _ _))) (Nat.le_of_ble_eq_true rfl) (fun _ => ⟨rfl, rfl⟩) ?_
  refine px_eqM (ci_up (e := cE_1 1) (by decide) (by decide) rfl) ?_
  have x1 : ∀ k i, ¬ (k = 14 ∧ 1 ≤ i ∧ i ≤ 7) → ¬ cx (cc_set uA 14 7 (cE_1 1)) k i := fun k i h => by
    unfold cx
    rw [cc_set_n _ _ (by omega)]
    exact x0 k i (by omega)
  generalize hB : cc_set uA 14 7 (cE_1 1) = uB at x1 ⊢
  refine px_aload_n dX4_init_78 rfl trivial ?_
  refine px_newo (ci := 1) (2, 60) dX4_init_79 rfl K_RX4_35 N_RX1 Z_RX1 (ci_no (x1 _ _ (by omega)) (by decide) (by decide)) rfl (by omega) (by omega) ?_
  refine px_dup dX4_init_82 rfl ?_
  refine px_iconst (v := -1) dX4_init_83 (by decide) ?_
  refine px_sipush (v := nI 320) dX4_init_84 (by decide) ?_
  refine px_callI (ce_newP (p := 60) (w := 320) (Nat.le_refl _) (px_u9 (ci_9 hX) (by simp)) (px_up_s _ _ _) (ci_no2 (x1 _ _ (by omega)) (by decide)) (ci_no2 (x1 _ _ (by omega)) (by decide)) (ci_no2 (x1 _ _ (by omega)) (by decide)) (ci_no2 (x1 _ _ (by omega)) (by decide)) (ci_no2 (x1 _ _ (by omega)) (by decide)) (ci_no2 (x1 _ _ (by omega)) (by decide)) (ci_no2 (x1 _ _ (by omega)) (by decide))) dX4_init_87 L_RX4_37 rfl rfl rfl (by decide) (by omega) (by omega) (Nat.le_of_ble_eq_true rfl) ?_
  refine px_putF dX4_init_90 G_RX4_40 rfl (ci_np0) (Nat.le_of_ble_eq_true rfl) (fun _ => ⟨rfl, rfl⟩) ?_
  refine px_eqM (ci_np (p := 60) (c := 0)) ?_
  have x2 : ∀ k i, ¬ (k = 14 ∧ 1 ≤ i ∧ i ≤ 7) → i ≠ 60 → ¬ cx (cc_np uB 60 0) k i := fun k i h hi z => by
    rcases (cxNP _ _ _ _ _).mp z with w | w
    · exact hi w.1
    · exact x1 k i h w
  generalize hC : cc_np uB 60 0 = uC at x2 ⊢
  refine px_aload_n dX4_init_93 rfl trivial ?_
  refine px_newo (ci := 1) (2, 61) dX4_init_94 rfl K_RX4_35 N_RX1 Z_RX1 (ci_no (x2 _ _ (by omega) (by omega)) (by decide) (by decide)) rfl (by omega) (by omega) ?_
  refine px_dup dX4_init_97 rfl ?_
  refine px_bipush (v := nI 60) dX4_init_98 (by decide) ?_
  refine px_iconst (v := nI 1) dX4_init_100 (by decide) ?_
  refine px_callI (ce_newP (p := 61) (w := 1) (by decide) (px_u9 (ci_9 hX) (by simp)) (px_up_s _ _ _) (ci_no2 (x2 _ _ (by omega) (by omega)) (by decide)) (ci_no2 (x2 _ _ (by omega) (by omega)) (by decide)) (ci_no2 (x2 _ _ (by omega) (by omega)) (by decide)) (ci_no2 (x2 _ _ (by omega) (by omega)) (by decide)) (ci_no2 (x2 _ _ (by omega) (by omega)) (by decide)) (ci_no2 (x2 _ _ (by omega) (by omega)) (by decide)) (ci_no2 (x2 _ _ (by omega) (by omega)) (by decide))) dX4_init_101 L_RX4_37 rfl rfl rfl (by decide) (by omega) (by omega) (Nat.le_of_ble_eq_true rfl) ?_
  refine px_putF dX4_init_104 G_RX4_44 rfl (ci_np0) (Nat.le_of_ble_eq_true rfl) (fun _ => ⟨rfl, rfl⟩) ?_
  refine px_eqM (ci_np (p := 61) (c := 61)) ?_
  have x3 : ∀ k i, ¬ (k = 14 ∧ 1 ≤ i ∧ i ≤ 7) → i ≠ 60 → i ≠ 61 → ¬ cx (cc_np uC 61 61) k i := fun k i h hi hi2 z => by
    rcases (cxNP _ _ _ _ _).mp z with w | w
    · exact hi2 w.1
    · exact x2 k i h hi w
  have xs : cx (cc_np uC 61 61) 2 61 ∧ cx (cc_np uC 61 61) 7 61 := ⟨(cxNP _ _ _ _ _).mpr (Or.inl ⟨rfl, Or.inl rfl⟩), (cxNP _ _ _ _ _).mpr (Or.inl ⟨rfl, Or.inr (by decide)⟩)⟩
  have e7 : cc_np uC 61 61 14 7 = cE_1 1 := by rw [← hC, ← hB]; rfl
  generalize hD : cc_np uC 61 61 = uD at x3 xs e7 ⊢
  refine px_aload_n dX4_init_107 rfl trivial ?_
  refine px_bipush (v := nI 8) dX4_init_108 (by decide) ?_
  refine px_newa (t := 0) (N := 8) (a0 := .inl fun _ => nI 0) (14, 8) dX4_init_110 rfl (by decide) A_int (ci_no (x3 14 8 (by omega) (by omega) (by omega)) (by decide) (by decide)) rfl (by omega) (mi_a0 8 fun j => rfl) trivial (by omega) (by omega) ?_
  refine px_putF dX4_init_112 G_RX4_47 rfl (((px_up_n _ _ (by decide)).trans (px_up_s _ _ _))) (Nat.le_of_ble_eq_true rfl) (fun _ => ⟨rfl, rfl⟩) ?_
  refine px_eqM (ci_up (e := cE_1 0) (by decide) (by decide) rfl) ?_
  refine px_aload_n dX4_init_115 rfl trivial ?_
  refine px_iconst (v := nI 0) dX4_init_116 (by decide) ?_
  refine px_putf dX4_init_117 F_RX4_50 nf_4_10 ((px_up_s _ _ _)) (Nat.le_of_ble_eq_true rfl) (fun _ => ⟨rfl, rfl⟩) ?_
  rw [px_up2]
  refine px_eqM (cc_up (e := cE_1 0) (by decide) rfl) ?_
  have xF : ∀ k i, cx uD k i → cx (cc_set (cc_set uD 14 8 (cE_1 0)) 14 0 (cE_1 0)) k i := fun k i h => by
    unfold cx cc_set
    split
    · exact Nat.one_ne_zero
    · split
      · exact Nat.one_ne_zero
      · exact h
  have y0 : cx (cc_set (cc_set uD 14 8 (cE_1 0)) 14 0 (cE_1 0)) 14 0 := by unfold cx; rw [cc_set_s]; exact Nat.one_ne_zero
  have y2 := xF 2 61 xs.1
  have y7 := xF 7 61 xs.2
  have e7' : cc_set (cc_set uD 14 8 (cE_1 0)) 14 0 (cE_1 0) 14 7 = cE_1 1 := by rw [cc_set_n _ _ (by decide), cc_set_n _ _ (by decide)]; exact e7
  have y147 : cx (cc_set (cc_set uD 14 8 (cE_1 0)) 14 0 (cE_1 0)) 14 7 := by unfold cx; rw [e7']; exact Nat.one_ne_zero
  have fin := cU_end
  rw [hA, hB, hC, hD] at fin
  generalize cc_set (cc_set uD 14 8 (cE_1 0)) 14 0 (cE_1 0) = uF at y0 y2 y7 y147 e7' fin ⊢
  refine px_aload_n dX4_init_120 rfl trivial ?_
  refine px_getf dX4_init_121 F_RX4_31 (cc_obj (by first | assumption | (simp only [cxN, cxZ, cxS, cxL, cxR]; assumption))) (by rfl) ?_
  refine px_iconst (v := -1) dX4_init_124 (by decide) ?_
  refine px_callSv (jl_fill (len := 10) (f := fun j => px_o (cn uF 14 7 j)) (by decide) (cc_at y147 (by decide) rfl)) dX4_init_125 L_RX4_54 rfl rfl (by decide) (by omega) (by omega) (Nat.le_of_ble_eq_true rfl) ?_
  refine px_eqM (M' := cc_M (cR uF 14 7 (fun j => if j < 10 then 0 else 1)) X) ?_ ?_
  · refine cc_upx (e := ((fun j => if j < 10 then 0 else 1), (uF 14 7).2)) (by decide) y147 rfl ?_
    show some _ = some _
    congr 6
    funext j
    show px_o (if j < 10 then 0 else 1) = _
    by_cases hj : j < 10
    · rw [if_pos hj, if_pos hj]; rfl
    · rw [if_neg hj, if_neg hj]; unfold cn; rw [e7']; rfl
  refine px_aload_n dX4_init_128 rfl trivial ?_
  refine px_getf dX4_init_129 F_RX4_44 (cc_obj (by first | assumption | (simp only [cxN, cxZ, cxS, cxL, cxR]; assumption))) (by rfl) ?_
  refine px_getf dX4_init_132 F_RX4_60 (cc_pin (by first | assumption | (simp only [cxN, cxZ, cxS, cxL, cxR]; assumption))) (by rfl) ?_
  refine px_iconst (v := nI 1) dX4_init_135 (by decide) ?_
  refine cp_size dX4_init_136 F_RX4_64 (by first | assumption | (simp only [cxN, cxZ, cxS, cxL, cxR]; assumption)) rfl ?_
  refine px_vret dX4_init_139 rfl ?_ (by omega) (by omega)
  exact ⟨rfl, by rw [fin]⟩
theorem cU_cx {k i : Nat} : cx cU_0 k i ↔ (k = 14 ∧ i ≤ 8) ∨ ((i = 60 ∨ i = 61) ∧ (k = 2 ∨ (7 ≤ k ∧ k ≤ 13))) := by
  unfold cx cU_0
  by_cases h1 : k = 14 ∧ i ≤ 8
  · rw [if_pos h1]
    by_cases h2 : i = 7
    · rw [if_pos h2]; exact ⟨fun _ => Or.inl h1, fun _ => Nat.one_ne_zero⟩
    · rw [if_neg h2]; exact ⟨fun _ => Or.inl h1, fun _ => Nat.one_ne_zero⟩
  · rw [if_neg h1]
    by_cases h2 : (i = 60 ∨ i = 61) ∧ (k = 2 ∨ (7 ≤ k ∧ k ≤ 13))
    · rw [if_pos h2]; exact ⟨fun _ => Or.inr h2, fun _ => Nat.one_ne_zero⟩
    · rw [if_neg h2]; exact ⟨fun z => absurd rfl z, fun z => z.elim (fun w => absurd w h1) fun w => absurd w h2⟩
theorem cU_cl (k i : Nat) : cl cU_0 k i = [] := by
  unfold cl cU_0
  split
  · split <;> rfl
  · split <;> rfl
theorem cU_cs (k i j : Nat) : cs cU_0 k i j = none := by
  unfold cs cU_0
  split
  · split <;> rfl
  · split <;> rfl
theorem cU_cn {k i : Nat} (h : k ≠ 14) (j : Nat) : cn cU_0 k i j = if (i = 61 ∧ k = 2) ∧ j = 0 then 61 else if (i = 61 ∧ k = 7) ∧ j = 0 then 1 else 0 := by
  unfold cn cU_0
  rw [if_neg (fun z => h z.1)]
  by_cases h2 : (i = 60 ∨ i = 61) ∧ (k = 2 ∨ (7 ≤ k ∧ k ≤ 13))
  · rw [if_pos h2]
    show (if k = 2 ∧ i = 61 ∧ j = 0 then 61 else if k = 7 ∧ i = 61 ∧ j = 0 then 1 else 0) = _
    split
    · rw [if_pos (by omega)]
    · split
      · rw [if_neg (by omega), if_pos (by omega)]
      · rw [if_neg (by omega), if_neg (by omega)]
  · rw [if_neg h2]
    show 0 = _
    rw [if_neg (by omega), if_neg (by omega)]
theorem cU_cz {k i j : Nat} : cz cU_0 k i j = if (i = 60 ∨ i = 61) ∧ k = 2 then -8 else 0 := by
  unfold cz cU_0
  by_cases h1 : k = 14 ∧ i ≤ 8
  · rw [if_pos h1]
    have e : ¬ ((i = 60 ∨ i = 61) ∧ k = 2) := by omega
    by_cases h7 : i = 7
    · rw [if_pos h7, if_neg e]
    · rw [if_neg h7, if_neg e]; rfl
  · rw [if_neg h1]
    by_cases h2 : (i = 60 ∨ i = 61) ∧ (k = 2 ∨ (7 ≤ k ∧ k ≤ 13))
    · rw [if_pos h2]
      show (if k = 2 then (-8 : Int) else 0) = _
      by_cases g : k = 2
      · rw [if_pos g, if_pos ⟨h2.1, g⟩]
      · rw [if_neg g, if_neg (fun z => g z.2)]
    · rw [if_neg h2, if_neg (fun z => h2 ⟨z.1, Or.inl z.2⟩)]; rfl
theorem cok_0 : cok mm_0 cU_0 := by
  have z1 : ∀ k, mm_0.1 k = 0 := fun _ => rfl
  refine ⟨⟨[], ⟨fun i hi => cU_cx.mpr (Or.inl ⟨rfl, hi⟩), cU_cl _ _, cU_cl _ _, cU_cl _ _, cU_cl _ _, cU_cl _ _⟩, ⟨List.nodup_nil, fun p => ⟨fun z => absurd z List.not_mem_nil, fun z => absurd z (Nat.not_lt_zero _)⟩, fun i p z => (by cases z), fun a z => absurd z (Nat.not_lt_zero _)⟩, ⟨fun p hp => ?_, fun p hp k hk z => ?_, fun p hp => absurd hp (Nat.not_lt_zero _), ?_, ?_, ?_, ?_⟩, ⟨fun n => ?_, fun a z => absurd z (Nat.not_lt_zero _), fun a z => absurd z (Nat.not_lt_zero _), fun a z => absurd z (Nat.not_lt_zero _)⟩, ⟨fun p z => absurd z (Nat.not_lt_zero _), cU_cl _ _, fun p z => absurd z (Nat.not_lt_zero _)⟩, ⟨fun j hj => ?_, ?_⟩, ⟨[], cU_cl _ _, rfl, fun i n z => (by cases z), 0, fun n _ z => ?_⟩, ⟨fun q => ?_, fun p j r z => ?_, fun p j => ?_, ?_, ?_, cU_cs _ _ _⟩⟩, cRW.no rfl⟩
  · have hp2 : p = 60 ∨ p = 61 := hp.resolve_left (Nat.not_lt_zero _)
    refine ⟨cU_cx.mpr (Or.inr ⟨hp2, Or.inl rfl⟩), cU_cx.mpr (Or.inr ⟨hp2, Or.inr (by omega)⟩), cU_cx.mpr (Or.inr ⟨hp2, Or.inr (by omega)⟩), cU_cx.mpr (Or.inr ⟨hp2, Or.inr (by omega)⟩), cU_cx.mpr (Or.inr ⟨hp2, Or.inr (by omega)⟩), cU_cx.mpr (Or.inr ⟨hp2, Or.inr (by omega)⟩), cU_cx.mpr (Or.inr ⟨hp2, Or.inr (by omega)⟩), cU_cx.mpr (Or.inr ⟨hp2, Or.inr (by omega)⟩), ?_⟩
    rw [cU_cn (by decide), if_neg (by omega)]
    unfold cc_wl
    split <;> split <;> omega
  · rcases cU_cx.mp z with w | w
    · omega
    · exact hp (Or.inr w.1)
  · rw [cU_cn (by decide)]; rfl
  · rw [cU_cn (by decide)]; rfl
  · rw [cU_cn (by decide)]; rfl
  · rw [cU_cn (by decide)]; rfl
  · refine ⟨fun z => ?_, fun z => ?_⟩
    · rcases cU_cx.mp z with w | w <;> omega
    · rcases z with z | z | z
      · exact absurd z (Nat.not_lt_zero _)
      · have h9 := z1 9; omega
      · have h13 := z1 13; omega
  · show (if j < 10 then 0 else 1) = (if j < 10 then 0 else 1)
    rfl
  · rfl
  · rcases cU_cx.mp z with w | w <;> omega
  · rw [cU_cz]; split <;> omega
  · rw [cU_cs] at z; cases z
  · rw [cU_cn (by decide), if_neg (by omega), if_neg (by omega)]; exact Nat.zero_le _
  · rw [cU_cn (by decide)]; rfl
  · rw [cU_cz]; rfl
