/-! ===== a new pin ===== -/
def ce_nw (M : px_M) (p w : Nat) : px_M := fun x => if x = (7, p) then some (.inl (3, [.inr (8, p), .inr (9, p), .inr (10, p), .inr (11, p), .inl (.int (nI 0))])) else if x = (8, p) then some (.inr (.inl (1, w, .inr (.inr (.inl fun _ => dz 0))))) else if x = (9, p) then some (.inr (.inl (4, w, .inr (.inr (.inr fun _ => none))))) else if x = (10, p) then some (.inr (.inl (0, w, .inl fun _ => nI 0))) else if x = (11, p) then some (.inr (.inl (0, w, .inl fun _ => nI 0))) else M x
theorem px_newo {d mc ms : Nat} {Γ : px_Y} {Q : px_Q} {pc : Nat} {lv : List (Nat × px_V)} {st : List px_V} {M : px_M} {k n : Nat} {index ci N : Nat} {C : String} {T : u_T} {fs : List px_V} (r : px_R) (hd : decode Γ.2.1 pc = .ok (.new index, 3)) (hc : px_cl[ci]? = some (C, T, N)) (h1 : Cond.classLink Γ.1.cls index C ∈ px_T) (h2 : Cond.instantiable C N ∈ px_T) (h3 : Cond.initialized C ∈ px_T) (hr : M r = none)
    (hfs : fs = (List.range N).map fun j => px_dv (px_fty ci j)) (hk : k + 1 ≤ mc) (hn : n + N ≤ ms)
    (kk : px_W d mc ms Γ Q (pc + 3) lv (.inr r :: st) (px_up M r (.inl (ci, fs))) (k + 1) (n + N)) : px_W d mc ms Γ Q pc lv st M k n := px_new r hd hc h1 h2 h3 hr hfs hk hn kk
theorem ce_ne {a b c d : Nat} (h : a ≠ b) : ((a, c) : px_R) ≠ (b, d) := fun e => h (congrArg Prod.fst e)
set_option maxRecDepth 100000 in
set_option maxHeartbeats 4000000 in
theorem ce_newW {M : px_M} {p w : Nat} {v0 v1 v2 v3 v4 : px_V} (hw : w ≤ 320) (hr : M (7, p) = some (.inl (3, [v0, v1, v2, v3, v4]))) (h8 : M (8, p) = none) (h9 : M (9, p) = none) (h10 : M (10, p) = none) (h11 : M (11, p) = none) : px_Met 0 4 (4 * w) mX3_init [.inr (7, p), .inl (.int (nI w))] M (px_rt none (ce_nw M p w)) := by
  refine px_ofW (by decide) W_mX3_init (Nat.le_of_ble_eq_true rfl) ?_
  refine px_aload_n dX3_init_0 rfl trivial ?_
  refine px_objInit dX3_init_1 O_RX3_1 (Nat.le_of_ble_eq_true rfl) ?_
  refine px_aload_n dX3_init_4 rfl trivial ?_
  refine px_iconst (v := nI 0) dX3_init_5 (by decide) ?_
  refine px_putf dX3_init_6 F_RX3_7 nf_3_4 (hr) (Nat.le_of_ble_eq_true rfl) (fun _ => ⟨rfl, rfl⟩) ?_
  refine px_aload_n dX3_init_9 rfl trivial ?_
  refine px_iload_n dX3_init_10 rfl ?_
  refine px_newa (t := 1) (N := w) (a0 := .inr (.inr (.inl fun _ => dz 0))) (8, p) dX3_init_11 rfl (by decide) A_double ((px_up_n _ _ (ce_ne (by decide))).trans h8) rfl (by omega) (mi_a1 w fun j => dz_z.symm) trivial (by omega) (by omega) ?_
  refine px_putF dX3_init_13 G_RX3_13 rfl (((px_up_n _ _ (ce_ne (by decide))).trans (px_up_s _ _ _))) (Nat.le_of_ble_eq_true rfl) (fun _ => ⟨rfl, rfl⟩) ?_
  refine px_aload_n dX3_init_16 rfl trivial ?_
  refine px_iload_n dX3_init_17 rfl ?_
  refine px_newq (t := 4) (nm := "PathLists$Step") (9, p) dX3_init_18 (Or.inl ⟨rfl, rfl⟩) K_RX3_17 ?_ rfl (by omega) (by omega) (by omega) ?_
  · rw [px_up_n _ _ (ce_ne (by decide)), px_up_n _ _ (ce_ne (by decide)), px_up_n _ _ (ce_ne (by decide)), h9]
  refine px_putF dX3_init_21 G_RX3_19 rfl (((px_up_n _ _ (ce_ne (by decide))).trans (px_up_s _ _ _))) (Nat.le_of_ble_eq_true rfl) (fun _ => ⟨rfl, rfl⟩) ?_
  refine px_aload_n dX3_init_24 rfl trivial ?_
  refine px_iload_n dX3_init_25 rfl ?_
  refine px_newa (t := 0) (N := w) (a0 := .inl fun _ => nI 0) (10, p) dX3_init_26 rfl (by decide) A_int ?_ rfl (by omega) (mi_a0 w fun j => rfl) trivial (by omega) (by omega) ?_
  · rw [px_up_n _ _ (ce_ne (by decide)), px_up_n _ _ (ce_ne (by decide)), px_up_n _ _ (ce_ne (by decide)), px_up_n _ _ (ce_ne (by decide)), px_up_n _ _ (ce_ne (by decide)), h10]
  refine px_putF dX3_init_28 G_RX3_23 rfl (((px_up_n _ _ (ce_ne (by decide))).trans (px_up_s _ _ _))) (Nat.le_of_ble_eq_true rfl) (fun _ => ⟨rfl, rfl⟩) ?_
  refine px_aload_n dX3_init_31 rfl trivial ?_
  refine px_iload_n dX3_init_32 rfl ?_
  refine px_newa (t := 0) (N := w) (a0 := .inl fun _ => nI 0) (11, p) dX3_init_33 rfl (by decide) A_int ?_ rfl (by omega) (mi_a0 w fun j => rfl) trivial (by omega) (by omega) ?_
  · rw [px_up_n _ _ (ce_ne (by decide)), px_up_n _ _ (ce_ne (by decide)), px_up_n _ _ (ce_ne (by decide)), px_up_n _ _ (ce_ne (by decide)), px_up_n _ _ (ce_ne (by decide)), px_up_n _ _ (ce_ne (by decide)), px_up_n _ _ (ce_ne (by decide)), h11]
  refine px_putF dX3_init_35 G_RX3_27 rfl (((px_up_n _ _ (ce_ne (by decide))).trans (px_up_s _ _ _))) (Nat.le_of_ble_eq_true rfl) (fun _ => ⟨rfl, rfl⟩) ?_
  refine px_vret dX3_init_38 rfl ?_ (by omega) (by omega)
  refine ⟨rfl, ?_⟩
  funext x
  by_cases e7 : x = (7, p)
  · subst e7; simp [ce_nw, px_up]
  by_cases e8 : x = (8, p)
  · subst e8; simp [ce_nw, px_up]
  by_cases e9 : x = (9, p)
  · subst e9; simp [ce_nw, px_up]
  by_cases e10 : x = (10, p)
  · subst e10; simp [ce_nw, px_up]
  by_cases e11 : x = (11, p)
  · subst e11; simp [ce_nw, px_up]
  simp [ce_nw, px_up, e7, e8, e9, e10, e11]
def ce_np (M : px_M) (p w : Nat) (v : Int32) : px_M := fun x => if x = (2, p) then some (.inl (1, [.inr (12, p), .inr (13, p), .inr (7, p), .inl (.int v), .inl (.int (nI 0)), .inl (.int (px_o 0)), .inl (.double (dz (-8)))])) else if x = (12, p) then some (.inr (.inr [])) else if x = (13, p) then some (.inr (.inr [])) else ce_nw M p w x
theorem px_u9 {M : px_M} {r : px_R} {o : px_O} (h : ∀ k, M (99, k) = none) (hr : r.1 ≠ 99) (k : Nat) : px_up M r o (99, k) = none := (px_up_n _ _ (je_r9 hr).symm).trans (h k)
set_option maxRecDepth 100000 in
set_option maxHeartbeats 4000000 in
theorem ce_newP {M : px_M} {p w : Nat} {v : Int32} {v0 v1 v2 v3 v4 v5 v6 : px_V} (hw : w ≤ 320) (hM9 : ∀ k, M (99, k) = none) (hr : M (2, p) = some (.inl (1, [v0, v1, v2, v3, v4, v5, v6]))) (h7 : M (7, p) = none) (h8 : M (8, p) = none) (h9 : M (9, p) = none) (h10 : M (10, p) = none) (h11 : M (11, p) = none) (h12 : M (12, p) = none) (h13 : M (13, p) = none) : px_Met 3 7 1291 mX1_init [.inr (2, p), .inl (.int v), .inl (.int (nI w))] M (px_rt none (ce_np M p w v)) := by
  refine px_ofW (by decide) W_mX1_init (Nat.le_of_ble_eq_true rfl) ?_
  refine px_aload_n dX1_init_0 rfl trivial ?_
  refine px_objInit dX1_init_1 O_RX1_3 (Nat.le_of_ble_eq_true rfl) ?_
  refine px_aload_n dX1_init_4 rfl trivial ?_
  refine px_newo (ci := 6) (12, p) dX1_init_5 rfl K_RX1_9 N_RJx4a65c Z_RJx4a65c h12 rfl (by omega) (by omega) ?_
  refine px_dup dX1_init_8 rfl ?_
  refine px_callI (jl_init (mo := 0) (v := .inl .null) (px_up_s _ _ _) (by simp) (px_u9 hM9 (by simp))) dX1_init_9 L_RX1_11 rfl rfl rfl (by decide) (by omega) (by omega) (Nat.le_of_ble_eq_true rfl) ?_
  rw [px_up2]
  refine px_putF dX1_init_12 G_RX1_12 rfl (((px_up_n _ _ (ce_ne (by decide))).trans hr)) (Nat.le_of_ble_eq_true rfl) (fun _ => ⟨rfl, rfl⟩) ?_
  refine px_aload_n dX1_init_15 rfl trivial ?_
  refine px_newo (ci := 6) (13, p) dX1_init_16 rfl K_RX1_9 N_RJx4a65c Z_RJx4a65c ?_ rfl (by omega) (by omega) ?_
  · rw [px_up_n _ _ (ce_ne (by decide)), px_up_n _ _ (ce_ne (by decide)), h13]
  refine px_dup dX1_init_19 rfl ?_
  refine px_callI (jl_init (mo := 0) (v := .inl .null) (px_up_s _ _ _) (by simp) (px_u9 (px_u9 (px_u9 hM9 (by simp)) (by simp)) (by simp))) dX1_init_20 L_RX1_11 rfl rfl rfl (by decide) (by omega) (by omega) (Nat.le_of_ble_eq_true rfl) ?_
  rw [px_up2]
  refine px_putF dX1_init_23 G_RX1_18 rfl (((px_up_n _ _ (ce_ne (by decide))).trans (px_up_s _ _ _))) (Nat.le_of_ble_eq_true rfl) (fun _ => ⟨rfl, rfl⟩) ?_
  refine px_aload_n dX1_init_26 rfl trivial ?_
  refine px_iconst (v := nI 0) dX1_init_27 (by decide) ?_
  refine px_putf dX1_init_28 F_RX1_21 nf_1_4 ((px_up_s _ _ _)) (Nat.le_of_ble_eq_true rfl) (fun _ => ⟨rfl, rfl⟩) ?_
  refine px_aload_n dX1_init_31 rfl trivial ?_
  refine px_iconst (v := -1) dX1_init_32 (by decide) ?_
  refine px_putf dX1_init_33 F_RX1_25 nf_1_5 ((px_up_s _ _ _)) (Nat.le_of_ble_eq_true rfl) (fun _ => ⟨rfl, rfl⟩) ?_
  refine px_aload_n dX1_init_36 rfl trivial ?_
  refine pn_ldc2d dX1_init_37 D_RX1_28 dz_m1 ?_
  refine px_putf dX1_init_40 F_RX1_30 nf_1_6 ((px_up_s _ _ _)) (Nat.le_of_ble_eq_true rfl) (fun _ => ⟨rfl, rfl⟩) ?_
  refine px_aload_n dX1_init_43 rfl trivial ?_
  refine px_iload_n dX1_init_44 rfl ?_
  refine px_putf dX1_init_45 F_RX1_34 nf_1_3 ((px_up_s _ _ _)) (Nat.le_of_ble_eq_true rfl) (fun _ => ⟨rfl, rfl⟩) ?_
  rw [px_up2, px_up2, px_up2, px_up2]
  refine px_aload_n dX1_init_48 rfl trivial ?_
  refine px_newo (ci := 3) (7, p) dX1_init_49 rfl K_RX1_37 N_RX3 Z_RX3 ?_ rfl (by omega) (by omega) ?_
  · rw [px_up_n _ _ (ce_ne (by decide)), px_up_n _ _ (ce_ne (by decide)), px_up_n _ _ (ce_ne (by decide)), px_up_n _ _ (ce_ne (by decide)), h7]
  refine px_dup dX1_init_52 rfl ?_
  refine px_iload_n dX1_init_53 rfl ?_
  have n8 : ∀ k, 8 ≤ k → k ≤ 11 → M (k, p) = none := fun k g1 g2 => by
    rcases (show k = 8 ∨ k = 9 ∨ k = 10 ∨ k = 11 by omega) with rfl | rfl | rfl | rfl <;> assumption
  have up8 : ∀ (k : Nat) (a b c e f : px_O), 8 ≤ k → k ≤ 11 → px_up (px_up (px_up (px_up (px_up M (12, p) a) (2, p) b) (13, p) c) (2, p) e) (7, p) f (k, p) = none := fun k a b c e f g1 g2 => by
    rw [px_up_n _ _ (ce_ne (by omega)), px_up_n _ _ (ce_ne (by omega)), px_up_n _ _ (ce_ne (by omega)), px_up_n _ _ (ce_ne (by omega)), px_up_n _ _ (ce_ne (by omega)), n8 k g1 g2]
  refine px_callI (ce_newW (p := p) (w := w) hw (px_up_s _ _ _) (up8 8 _ _ _ _ _ (by decide) (by decide)) (up8 9 _ _ _ _ _ (by decide) (by decide)) (up8 10 _ _ _ _ _ (by decide) (by decide)) (up8 11 _ _ _ _ _ (by decide) (by decide))) dX1_init_54 L_RX1_39 rfl rfl rfl (by decide) (by omega) (by simp; omega) (Nat.le_of_ble_eq_true rfl) ?_
  have hc : ∀ (M1 : px_M) (o : px_O), M1 (2, p) = some o → ∀ f : px_O, ce_nw (px_up M1 (7, p) f) p w (2, p) = some o := fun M1 o h f => by
    unfold ce_nw
    rw [if_neg (ce_ne (by decide)), if_neg (ce_ne (by decide)), if_neg (ce_ne (by decide)), if_neg (ce_ne (by decide)), if_neg (ce_ne (by decide)), px_up_n _ _ (ce_ne (by decide)), h]
  refine px_putF dX1_init_57 G_RX1_42 rfl ((hc _ _ (px_up_s _ _ _) _)) (Nat.le_of_ble_eq_true rfl) (fun _ => ⟨rfl, rfl⟩) ?_
  refine px_vret dX1_init_60 rfl ?_ (by omega) (by simp; omega)
  refine ⟨rfl, ?_⟩
  funext x
  by_cases e2 : x = (2, p)
  · subst e2; simp [ce_np, px_up]; rfl
  by_cases e12 : x = (12, p)
  · subst e12; simp [ce_np, ce_nw, px_up]
  by_cases e13 : x = (13, p)
  · subst e13; simp [ce_np, ce_nw, px_up]
  by_cases e7 : x = (7, p)
  · subst e7; simp [ce_np, ce_nw, px_up]
  simp [ce_np, ce_nw, px_up, e2, e12, e13, e7]
/-- the class's world with a pin more -/
def cc_np (u : cc_U) (p c : Nat) : cc_U := fun k i => if i = p ∧ (k = 2 ∨ (7 ≤ k ∧ k ≤ 13)) then ((fun j => if k = 2 ∧ j = 0 then c else 0), (fun _ => if k = 2 then -8 else 0), (fun _ => none), [], 1) else u k i
theorem cc_np_eq (u : cc_U) (X : px_M) (p c : Nat) (o : px_O) : ce_np (px_up (cc_M u X) (2, p) o) p (cc_wl p) (px_o c) = cc_M (cc_np u p c) X := by
  funext x
  obtain ⟨a, b⟩ := x
  by_cases hb : b = p
  · subst hb
    rcases (show a = 2 ∨ a = 7 ∨ a = 8 ∨ a = 9 ∨ a = 10 ∨ a = 11 ∨ a = 12 ∨ a = 13 ∨ (a ≠ 2 ∧ ¬ (7 ≤ a ∧ a ≤ 13)) by omega) with rfl | rfl | rfl | rfl | rfl | rfl | rfl | rfl | ⟨h1, h2⟩
    · simp [ce_np, cc_M, cc_cell, cc_np, cc_ob]
    · simp [ce_np, ce_nw, cc_M, cc_cell, cc_np, cc_ob]
    · simp [ce_np, ce_nw, cc_M, cc_cell, cc_np, cc_ob]
    · simp [ce_np, ce_nw, cc_M, cc_cell, cc_np, cc_ob]
    · simp [ce_np, ce_nw, cc_M, cc_cell, cc_np, cc_ob]
    · simp [ce_np, ce_nw, cc_M, cc_cell, cc_np, cc_ob]
    · simp [ce_np, ce_nw, cc_M, cc_cell, cc_np, cc_ob]
    · simp [ce_np, ce_nw, cc_M, cc_cell, cc_np, cc_ob]
    · have e : cc_np u b c a b = u a b := if_neg (fun z => z.2.elim h1 h2)
      unfold ce_np ce_nw
      rw [if_neg (ce_ne h1), if_neg (ce_ne (by omega)), if_neg (ce_ne (by omega)), if_neg (ce_ne (by omega)), if_neg (ce_ne (by omega)), if_neg (ce_ne (by omega)), if_neg (ce_ne (by omega)), if_neg (ce_ne (by omega)), px_up_n _ _ (ce_ne h1)]
      unfold cc_M
      simp only [e]
  · have hn : ∀ k, ((a, b) : px_R) ≠ (k, p) := fun k e => hb (congrArg Prod.snd e)
    have e : cc_np u p c a b = u a b := if_neg (fun z => hb z.1)
    unfold ce_np ce_nw
    rw [if_neg (hn _), if_neg (hn _), if_neg (hn _), if_neg (hn _), if_neg (hn _), if_neg (hn _), if_neg (hn _), if_neg (hn _), px_up_n _ _ (hn _)]
    unfold cc_M
    simp only [e]
