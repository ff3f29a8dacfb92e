/-! ===== groups, blocks, delays ===== -/
def px_cnt (f : Nat → Nat) (g : Nat) : Nat → Nat
  | 0 => 0
  | k + 1 => px_cnt f g k + (if f k = g then 1 else 0)
theorem px_cnt_le (f : Nat → Nat) (g : Nat) : ∀ k, px_cnt f g k ≤ k := by
  intro k
  induction k with
  | zero => exact Nat.le_refl _
  | succ k ih =>
    show px_cnt f g k + _ ≤ _
    split <;> omega
def kc_group (s : mm_S) (x g : Int32) : Nat := if ¬ px_ix x (s.1 13) then 1 else if ¬ px_ix g 8 then 2 else 0
def nx_group (s : mm_S) (x g : Int32) : mm_S := if kc_group s x g = 0 then mm_A (mm_I s 25 (if s.1 25 ≠ 0 ∧ s.2.1 12 (px_tn x) = px_tn g then 1 else 0)) 12 (px_tn x) (px_tn g) else s
def va_group (s : mm_S) (x g : Int32) : Nat := px_cnt (px_upN (s.2.1 12) (px_tn x) (px_tn g)) (px_tn g) (s.1 13)
theorem mr_A0 (s : mm_S) (k j x : Nat) : (mm_A s k j x).2.1 k = px_upN (s.2.1 k) j x := if_pos rfl
theorem kc_group0 {s : mm_S} {x g : Int32} (c0 : kc_group s x g = 0) : px_ix x (s.1 13) ∧ px_ix g 8 := by
  unfold kc_group at c0
  by_cases h1 : px_ix x (s.1 13)
  · rw [if_neg (fun z => z h1)] at c0
    by_cases h2 : px_ix g 8
    · exact ⟨h1, h2⟩
    · rw [if_pos h2] at c0; omega
  · rw [if_pos h1] at c0; omega
set_option maxRecDepth 100000 in
set_option maxHeartbeats 4000000 in
theorem me_group_l (X : px_M) (x g : Int32) (hg : px_ix g 8) (Q : px_Q) (t : mm_S) (G : Nat → Nat) (N : Nat) (hN : N ≤ 30) (t13 : t.1 13 = N) (t12 : t.2.1 12 = G) (hG : ∀ k, k < N → G k < 8) (hQ : Q (.inl (some (.inl (.int (nI (px_cnt G (px_tn g) N)))))) (mm_M t X)) : px_W 0 0 0 mX5_group Q 77 [(0, .inr (1, 0)), (1, .inl (.int x)), (2, .inl (.int g))] [] (mm_M t X) 0 0 := by
  have loop : ∀ (f k : Nat), k ≤ N → N < k + f → px_W 0 0 0 mX5_group Q 82 [(0, .inr (1, 0)), (2, .inl (.int g)), (3, .inl (.int (nI (px_cnt G (px_tn g) k)))), (4, .inl (.int (nI k)))] [] (mm_M t X) 0 0 := by
    intro f
    induction f with
    | zero => intro k h1 h2; omega
    | succ f ih =>
      intro k h1 h2
      have hc := px_cnt_le G (px_tn g) k
      have ec : px_cnt G (px_tn g) (k + 1) = px_cnt G (px_tn g) k + (if G k = px_tn g then 1 else 0) := rfl
      refine px_iload dX5_group_82 rfl ?_
      refine px_aload_n dX5_group_84 rfl trivial ?_
      refine mm_gets dX5_group_85 F_RX5_111 (by decide) (by (try simp only [mr_In, mr_Ie, mr_A1, mr_D1, mr_R1, mr_T1, ne_eq, Nat.reduceEqDiff, not_false_eq_true]); rfl) ?_
      refine pn_icmp_ge (tgt := 116) dX5_group_88 (by decide) (nI_leI (by omega) (by omega)) (fun h3 => ?_) (fun h3 => ?_)
      · refine px_iload_n dX5_group_116 rfl ?_
        refine px_iret dX5_group_117 rfl ?_ (by omega) (by omega)
        rw [show N = k by omega] at hQ
        exact hQ
      · have hg8 : t.2.1 12 k < 8 := by rw [t12]; exact hG k (by omega)
        refine px_iload_n dX5_group_91 rfl ?_
        refine px_aload_n dX5_group_92 rfl trivial ?_
        refine mm_get dX5_group_93 F_RX5_35 rfl ?_
        refine px_iload dX5_group_96 rfl ?_
        refine mm_ald dX5_group_98 rfl (by first | rfl | assumption) (by (try simp only [mr_I2, mr_An, mr_Ae, mr_D2, mr_Rn, mr_Re, mr_T2, ne_eq, Nat.reduceEqDiff, not_false_eq_true]); rfl) (by first | assumption | omega) ?_
        refine px_iload_n dX5_group_99 rfl ?_
        refine pn_icmp_ne (tgt := 107) dX5_group_100 (by decide) (px_eqn (n:=8) (by omega) hg) (fun h4 => ?_) (fun h4 => ?_)
        · refine px_iconst (v := nI 0) dX5_group_107 (by decide) ?_
          refine pn_iadd dX5_group_108 (by first | exact nI_add _ _ | rfl) ?_
          refine px_istore_n dX5_group_109 (by decide) ?_
          refine px_iinc dX5_group_110 rfl (pn_i1 _) (by decide) ?_
          refine px_goto (tgt := 82) dX5_group_113 (by decide) ?_
          rw [t12] at h4
          rw [if_neg h4] at ec
          rw [← ec]
          exact px_sub (ih (k + 1) (by omega) (by omega)) rfl
        · refine px_iconst (v := nI 1) dX5_group_103 (by decide) ?_
          refine px_goto (tgt := 108) dX5_group_104 (by decide) ?_
          refine pn_iadd dX5_group_108 (by first | exact nI_add _ _ | rfl) ?_
          refine px_istore_n dX5_group_109 (by decide) ?_
          refine px_iinc dX5_group_110 rfl (pn_i1 _) (by decide) ?_
          refine px_goto (tgt := 82) dX5_group_113 (by decide) ?_
          rw [t12] at h4
          rw [if_pos h4] at ec
          rw [← ec]
          exact px_sub (ih (k + 1) (by omega) (by omega)) rfl
  refine px_iconst (v := nI 0) dX5_group_77 (by decide) ?_
  refine px_istore_n dX5_group_78 (by decide) ?_
  refine px_iconst (v := nI 0) dX5_group_79 (by decide) ?_
  refine px_istore dX5_group_80 (by decide) ?_
  exact px_sub (loop (N + 1) 0 (by omega) (by omega)) rfl
set_option maxRecDepth 100000 in
set_option maxHeartbeats 4000000 in
theorem me_group (s : mm_S) (X : px_M) (ok : mm_ok s) (x g : Int32) : px_Met 0 0 0 mX5_group [.inr (1, 0), .inl (.int x), .inl (.int g)] (mm_M s X) (mq X (kc_group s x g) (nI (va_group s x g)) (nx_group s x g)) := by
  have h13 := ok.1.2.2.2.1
  have h25 := ok.1.2.2.2.2.2.1
  refine px_ofW (by decide) W_mX5_group (Nat.le_of_ble_eq_true rfl) ?_
  have tail : ∀ c, c < 4 → kc_group s x g = c → px_W 0 0 0 mX5_group (mq X (kc_group s x g) (nI (va_group s x g)) (nx_group s x g)) 32 [(0, .inr (1, 0)), (1, .inl (.int x)), (2, .inl (.int g))] [.inl (.int (nI c)), .inr (1, 0)] (mm_M s X) 0 0 := by
    intro c c4 hc
    refine mm_put dX5_group_32 F_RX5_81 nf_5_0 (by decide) (by first | exact ⟨rfl, rfl⟩ | decide) ?_
    refine px_aload_n dX5_group_35 rfl trivial ?_
    refine mm_gets dX5_group_36 F_RX5_81 (by decide) (by (try simp only [mr_In, mr_Ie, mr_A1, mr_D1, mr_R1, mr_T1, ne_eq, Nat.reduceEqDiff, not_false_eq_true]); rfl) ?_
    refine pn_if_le (tgt := 44) dX5_group_39 (by decide) (pn_lez (by omega)) (fun h => ?_) (fun h => ?_)
    · have c0 : kc_group s x g = 0 := by omega
      obtain ⟨hx, hg⟩ := kc_group0 c0
      obtain ⟨e1, e2⟩ := px_ix_tn hx
      obtain ⟨e3, e4⟩ := px_ix_tn hg
      have hgx := (ok.2.2.2.1 (px_tn x) e2).2.1
      have fin : ∀ y, y = (if s.1 25 ≠ 0 ∧ s.2.1 12 (px_tn x) = px_tn g then 1 else 0) → px_W 0 0 0 mX5_group (mq X (kc_group s x g) (nI (va_group s x g)) (nx_group s x g)) 67 [(0, .inr (1, 0)), (1, .inl (.int x)), (2, .inl (.int g))] [.inl (.int (nI y)), .inr (1, 0)] (mm_M (mm_I s 0 c) X) 0 0 := by
        intro y hy
        have y1 : y = 0 ∨ y = 1 := by rw [hy]; split <;> omega
        have hb : narrow (px_fty 5 25) (.int (nI y)) = .int (nI y) ∧ fits (px_fty 5 25) (.int (nI y)) = true := by
          rcases y1 with rfl | rfl <;> exact ⟨rfl, rfl⟩
        refine mm_put dX5_group_67 F_RX5_92 nf_5_25 (by decide) hb ?_
        refine px_aload_n dX5_group_70 rfl trivial ?_
        refine mm_get dX5_group_71 F_RX5_35 rfl ?_
        refine px_iload_n dX5_group_74 rfl ?_
        refine px_iload_n dX5_group_75 rfl ?_
        refine mm_ast dX5_group_76 rfl (by first | rfl | assumption) (by first | rfl | assumption) (by first | assumption | omega) ?_
        refine px_sub (me_group_l X x g hg _ _ (px_upN (s.2.1 12) (px_tn x) (px_tn g)) (s.1 13) h13 rfl ?_ ?_ ?_) rfl
        · exact mr_A0 _ _ _ _
        · intro k hk
          unfold px_upN
          split
          · exact e4
          · exact (ok.2.2.2.1 k hk).2.1
        · refine ⟨_, _, rfl, rfl, ?_, ?_, fun _ => rfl⟩
          · rw [c0]; exact (show c = 0 by omega)
          · unfold nx_group
            rw [if_pos c0, ← hy]
            exact mm_nq.A (mm_nq.I ((mm_nq.rf s).I0 c) _ _) (by decide) _ _
      refine px_aload_n dX5_group_44 rfl trivial ?_
      refine px_aload_n dX5_group_45 rfl trivial ?_
      refine mm_gets dX5_group_46 F_RX5_92 (by decide) (by (try simp only [mr_In, mr_Ie, mr_A1, mr_D1, mr_R1, mr_T1, ne_eq, Nat.reduceEqDiff, not_false_eq_true]); rfl) ?_
      refine pn_if_eq (tgt := 66) dX5_group_49 (by decide) (pn_z (by omega)) (fun h2 => ?_) (fun h2 => ?_)
      · refine px_iconst (v := nI 0) dX5_group_66 (by decide) ?_
        exact px_sub (fin 0 (by rw [if_neg (fun z => z.1 h2)])) rfl
      · refine px_aload_n dX5_group_52 rfl trivial ?_
        refine mm_get dX5_group_53 F_RX5_35 rfl ?_
        refine px_iload_n dX5_group_56 rfl ?_
        refine mm_ald dX5_group_57 rfl (by first | rfl | assumption) (by (try simp only [mr_I2, mr_An, mr_Ae, mr_D2, mr_Rn, mr_Re, mr_T2, ne_eq, Nat.reduceEqDiff, not_false_eq_true]); rfl) (by first | assumption | omega) ?_
        refine px_iload_n dX5_group_58 rfl ?_
        refine pn_icmp_ne (tgt := 66) dX5_group_59 (by decide) (px_eqn (n:=8) (by show s.2.1 12 _ < _; omega) hg) (fun h3 => ?_) (fun h3 => ?_)
        · refine px_iconst (v := nI 0) dX5_group_66 (by decide) ?_
          exact px_sub (fin 0 (by rw [if_neg (fun z => h3 z.2)])) rfl
        · refine px_iconst (v := nI 1) dX5_group_62 (by decide) ?_
          refine px_goto (tgt := 67) dX5_group_63 (by decide) ?_
          exact px_sub (fin 1 (by rw [if_pos ⟨h2, h3⟩])) rfl
    · refine px_iconst (v := nI 0) dX5_group_42 (by decide) ?_
      refine px_iret dX5_group_43 rfl ?_ (by omega) (by omega)
      exact ⟨_, _, rfl, rfl, hc.symm ▸ rfl, by unfold nx_group; rw [if_neg (by omega)]; exact (mm_nq.rf s).I0 c, fun z => by omega⟩
  have t2 : px_ix x (s.1 13) → px_W 0 0 0 mX5_group (mq X (kc_group s x g) (nI (va_group s x g)) (nx_group s x g)) 17 [(0, .inr (1, 0)), (1, .inl (.int x)), (2, .inl (.int g))] [.inr (1, 0)] (mm_M s X) 0 0 := by
    intro hx
    refine px_iload_n dX5_group_17 rfl ?_
    refine pn_if_lt (tgt := 27) dX5_group_18 (by decide) (px_lt0 _) (fun h => ?_) (fun h => ?_)
    · refine px_iconst (v := nI 2) dX5_group_27 (by decide) ?_
      refine px_goto (tgt := 32) dX5_group_28 (by decide) ?_
      exact px_sub (tail 2 (by decide) (by unfold kc_group; rw [if_neg (fun z => z hx), if_pos (fun z => by have := z.1; omega)])) rfl
    · refine px_iload_n dX5_group_21 rfl ?_
      refine px_bipush (v := nI 8) dX5_group_22 (by decide) ?_
      refine pn_icmp_lt (tgt := 31) dX5_group_24 (by decide) (px_ltN _ (by decide)) (fun h2 => ?_) (fun h2 => ?_)
      · refine px_iconst (v := nI 0) dX5_group_31 (by decide) ?_
        exact px_sub (tail 0 (by decide) (by unfold kc_group; rw [if_neg (fun z => z hx), if_neg (fun z => z ⟨by omega, by omega⟩)])) rfl
      · refine px_iconst (v := nI 2) dX5_group_27 (by decide) ?_
        refine px_goto (tgt := 32) dX5_group_28 (by decide) ?_
        exact px_sub (tail 2 (by decide) (by unfold kc_group; rw [if_neg (fun z => z hx), if_pos (fun z => by have := z.2; omega)])) rfl
  refine px_aload_n dX5_group_0 rfl trivial ?_
  refine px_iload_n dX5_group_1 rfl ?_
  refine pn_if_lt (tgt := 13) dX5_group_2 (by decide) (px_lt0 _) (fun h => ?_) (fun h => ?_)
  · refine px_iconst (v := nI 1) dX5_group_13 (by decide) ?_
    refine px_goto (tgt := 32) dX5_group_14 (by decide) ?_
    exact px_sub (tail 1 (by decide) (if_pos (fun z => by have := z.1; omega))) rfl
  · refine px_iload_n dX5_group_5 rfl ?_
    refine px_aload_n dX5_group_6 rfl trivial ?_
    refine mm_gets dX5_group_7 F_RX5_111 (by decide) (by (try simp only [mr_In, mr_Ie, mr_A1, mr_D1, mr_R1, mr_T1, ne_eq, Nat.reduceEqDiff, not_false_eq_true]); rfl) ?_
    refine pn_icmp_lt (tgt := 17) dX5_group_10 (by decide) (px_ltN _ (by omega)) (fun h2 => ?_) (fun h2 => ?_)
    · exact px_sub (t2 ⟨by omega, by omega⟩) rfl
    · refine px_iconst (v := nI 1) dX5_group_13 (by decide) ?_
      refine px_goto (tgt := 32) dX5_group_14 (by decide) ?_
      exact px_sub (tail 1 (by decide) (if_pos (fun z => by have := z.2; omega))) rfl
def kc_into (s : mm_S) (x b : Int32) : Nat := if ¬ px_ix x (s.1 1) then 1 else if b ≠ -1 ∧ ¬ px_ix b 8 then 1 else 0
def va_into (s : mm_S) (x b : Int32) : Nat := if s.2.1 2 (px_tn x) = px_oc b then 0 else 1
def nx_into (s : mm_S) (x b : Int32) : mm_S := if kc_into s x b = 0 ∧ s.2.1 2 (px_tn x) ≠ px_oc b then mm_A s 2 (px_tn x) (px_oc b) else s
theorem kc_into0 {s : mm_S} {x b : Int32} (c0 : kc_into s x b = 0) : px_ix x (s.1 1) ∧ (b ≠ -1 → px_ix b 8) := by
  unfold kc_into at c0
  by_cases h1 : px_ix x (s.1 1)
  · rw [if_neg (fun z => z h1)] at c0
    by_cases h2 : b ≠ -1 ∧ ¬ px_ix b 8
    · rw [if_pos h2] at c0; omega
    · exact ⟨h1, fun h3 => Decidable.of_not_not fun h4 => h2 ⟨h3, h4⟩⟩
  · rw [if_pos h1] at c0; omega
theorem px_ltm (b : Int32) : b < -1 ↔ b.toInt < -1 := Int32.lt_iff_toInt_lt
theorem px_m1_of {b : Int32} (h : b.toInt = -1) : b = -1 := Int32.toInt_inj.mp h
set_option maxRecDepth 100000 in
set_option maxHeartbeats 4000000 in
theorem me_into (s : mm_S) (X : px_M) (ok : mm_ok s) (x b : Int32) : px_Met 1 0 0 mX5_into [.inr (1, 0), .inl (.int x), .inl (.int b)] (mm_M s X) (mq X (kc_into s x b) (nI (va_into s x b)) (nx_into s x b)) := by
  have hp := ok.1.1
  refine px_ofW (by decide) W_mX5_into (Nat.le_of_ble_eq_true rfl) ?_
  have tail : ∀ c, c < 4 → kc_into s x b = c → px_W 1 0 0 mX5_into (mq X (kc_into s x b) (nI (va_into s x b)) (nx_into s x b)) 25 [(0, .inr (1, 0)), (1, .inl (.int x)), (2, .inl (.int b))] [.inl (.int (nI c)), .inr (1, 0)] (mm_M s X) 0 0 := by
    intro c c4 hc
    refine mm_put dX5_into_25 F_RX5_81 nf_5_0 (by decide) (by first | exact ⟨rfl, rfl⟩ | decide) ?_
    refine px_aload_n dX5_into_28 rfl trivial ?_
    refine mm_gets dX5_into_29 F_RX5_81 (by decide) (by (try simp only [mr_In, mr_Ie, mr_A1, mr_D1, mr_R1, mr_T1, ne_eq, Nat.reduceEqDiff, not_false_eq_true]); rfl) ?_
    refine pn_if_gt (tgt := 45) dX5_into_32 (by decide) (pn_gtz (by omega)) (fun h => ?_) (fun h => ?_)
    · refine px_iconst (v := nI 0) dX5_into_45 (by decide) ?_
      refine px_zret dX5_into_46 rfl (by decide) ⟨_, _, rfl, rfl, hc.symm ▸ rfl, ?_, fun z => by omega⟩ (by omega) (by omega)
      unfold nx_into; rw [if_neg (by omega)]; exact (mm_nq.rf s).I0 c
    · have c0 : kc_into s x b = 0 := by omega
      obtain ⟨hx, hb⟩ := kc_into0 c0
      obtain ⟨e1, e2⟩ := px_ix_tn hx
      obtain ⟨e3, e4⟩ := px_oc_o hb
      have e5 := ok.2.2.2.2.2.1 (px_tn x) e2
      refine px_aload_n dX5_into_35 rfl trivial ?_
      refine mm_get dX5_into_36 F_RX5_7 rfl ?_
      refine px_iload_n dX5_into_39 rfl ?_
      refine mm_ald_o dX5_into_40 rfl (by first | rfl | assumption) (by (try simp only [mr_I2, mr_An, mr_Ae, mr_D2, mr_Rn, mr_Re, mr_T2, ne_eq, Nat.reduceEqDiff, not_false_eq_true]); rfl) (by first | assumption | omega) ?_
      refine px_iload_n dX5_into_41 rfl ?_
      refine pn_icmp_ne (tgt := 47) dX5_into_42 (by decide) (px_eqo (n:=8) (by omega) (by show s.2.1 2 _ < _; omega) hb) (fun h2 => ?_) (fun h2 => ?_)
      · refine px_aload_n dX5_into_47 rfl trivial ?_
        refine mm_get dX5_into_48 F_RX5_7 rfl ?_
        refine px_iload_n dX5_into_51 rfl ?_
        refine px_iload_n dX5_into_52 rfl ?_
        refine mm_ast_o dX5_into_53 rfl (by first | rfl | assumption) (by first | exact px_o_n | exact px_o_s _ | rfl | assumption) (by first | assumption | omega) ?_
        refine px_iconst (v := nI 1) dX5_into_54 (by decide) ?_
        refine px_zret dX5_into_55 rfl (by decide) ⟨_, _, rfl, rfl, ?_, ?_, fun _ => ?_⟩ (by omega) (by omega)
        · rw [c0]; exact (show c = 0 by omega)
        · unfold nx_into
          rw [if_pos ⟨c0, h2⟩]
          exact mm_nq.A ((mm_nq.rf s).I0 c) (by decide) _ _
        · unfold va_into
          rw [if_neg h2]
      · refine px_iconst (v := nI 0) dX5_into_45 (by decide) ?_
        refine px_zret dX5_into_46 rfl (by decide) ⟨_, _, rfl, rfl, hc.symm ▸ rfl, ?_, fun _ => ?_⟩ (by omega) (by omega)
        · unfold nx_into; rw [if_neg (fun z => z.2 h2)]; exact (mm_nq.rf s).I0 c
        · unfold va_into; rw [if_pos h2]
  refine px_aload_n dX5_into_0 rfl trivial ?_
  refine px_aload_n dX5_into_1 rfl trivial ?_
  refine px_iload_n dX5_into_2 rfl ?_
  refine px_callVr ((me_isPin s X x hp)) dX5_into_3 L_RX5_99 (mm_rcv _ _) rfl rfl (by decide) (by omega) (by omega) (Nat.le_of_ble_eq_true rfl) ?_
  refine pn_if_eq (tgt := 20) dX5_into_6 (by decide) (px_bi_0 _) (fun h => ?_) (fun h => ?_)
  · refine px_iconst (v := nI 1) dX5_into_20 (by decide) ?_
    refine px_goto (tgt := 25) dX5_into_21 (by decide) ?_
    exact px_sub (tail 1 (by decide) (if_pos h)) rfl
  · have hx : px_ix x (s.1 1) := Decidable.of_not_not h
    refine px_iload_n dX5_into_9 rfl ?_
    refine px_iconst (v := -1) dX5_into_10 (by decide) ?_
    refine pn_icmp_lt (tgt := 20) dX5_into_11 (by decide) (px_ltm _) (fun h2 => ?_) (fun h2 => ?_)
    · refine px_iconst (v := nI 1) dX5_into_20 (by decide) ?_
      refine px_goto (tgt := 25) dX5_into_21 (by decide) ?_
      refine px_sub (tail 1 (by decide) ?_) rfl
      unfold kc_into
      rw [if_neg h, if_pos ⟨fun e => by rw [e] at h2; exact absurd h2 (by decide), fun z => by have := z.1; omega⟩]
    · refine px_iload_n dX5_into_14 rfl ?_
      refine px_bipush (v := nI 8) dX5_into_15 (by decide) ?_
      refine pn_icmp_lt (tgt := 24) dX5_into_17 (by decide) (px_ltN _ (by decide)) (fun h3 => ?_) (fun h3 => ?_)
      · refine px_iconst (v := nI 0) dX5_into_24 (by decide) ?_
        refine px_sub (tail 0 (by decide) ?_) rfl
        unfold kc_into
        rw [if_neg h, if_neg (fun z => z.2 ⟨by
          by_cases g : 0 ≤ b.toInt
          · exact g
          · exact absurd (px_m1_of (show b.toInt = -1 by omega)) z.1, by omega⟩)]
      · refine px_iconst (v := nI 1) dX5_into_20 (by decide) ?_
        refine px_goto (tgt := 25) dX5_into_21 (by decide) ?_
        refine px_sub (tail 1 (by decide) ?_) rfl
        unfold kc_into
        rw [if_neg h, if_pos ⟨fun e => by rw [e] at h3; exact h3 (by decide), fun z => by have := z.2; omega⟩]
