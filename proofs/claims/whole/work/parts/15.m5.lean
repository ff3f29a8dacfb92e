/-! ===== starts, orders, groups, blocks ===== -/
theorem px_eqn {a n : Nat} {x : Int32} (ha : a < 2 ^ 31) (h : px_ix x n) : nI a = x ↔ a = px_tn x := by
  obtain ⟨h1, h2⟩ := px_ix_tn h
  have h3 : px_tn x < 2 ^ 31 := by
    have := x.toInt_lt
    unfold px_tn
    omega
  rw [← nI_eq ha h3, ← h1]
def px_oc (x : Int32) : Nat := if x = -1 then 0 else px_tn x + 1
theorem px_oc_m : px_oc (-1) = 0 := if_pos rfl
theorem px_oc_o {x : Int32} {n : Nat} (h : x ≠ -1 → px_ix x n) : x = px_o (px_oc x) ∧ px_oc x ≤ n := by
  unfold px_oc
  by_cases e : x = -1
  · rw [if_pos e]; exact ⟨e, Nat.zero_le _⟩
  · rw [if_neg e]; exact px_ix_tn (h e)
theorem px_eqo {a n : Nat} {x : Int32} (hn : n < 2 ^ 31) (ha : a < 2 ^ 31) (h : x ≠ -1 → px_ix x n) : px_o a = x ↔ a = px_oc x := by
  obtain ⟨h1, h2⟩ := px_oc_o h
  rw [← px_o_eq ha (show px_oc x < 2 ^ 31 by omega), ← h1]
def kc_start (s : mm_S) (x : Int32) (d : Int) : Nat := if ¬ px_ix x (s.1 1) then 1 else if s.1 9 = 30 then 2 else if -8388608 ≤ d ∧ d ≤ 8388608 then 0 else 3
def nx_start (s : mm_S) (x : Int32) (d : Int) : mm_S := if kc_start s x d = 0 then mm_I (mm_I (mm_D (mm_A s 7 (s.1 9) (px_tn x)) 8 (s.1 9) d) 9 (s.1 9 + 1)) 25 0 else s
set_option maxRecDepth 100000 in
set_option maxHeartbeats 4000000 in
theorem me_start (s : mm_S) (X : px_M) (ok : mm_ok s) (x : Int32) (d : Int) (hd : d.natAbs ≤ 2 ^ 32) : px_Met 1 0 0 mX5_start [.inr (1, 0), .inl (.int x), .inl (.double (dz d))] (mm_M s X) (mq X (kc_start s x d) (nI (s.1 9)) (nx_start s x d)) := by
  have hp := ok.1.1
  have h13 := ok.1.2.2.1
  refine px_ofW (by decide) W_mX5_start (Nat.le_of_ble_eq_true rfl) ?_
  have tail : ∀ c, c < 4 → kc_start s x d = c → px_W 1 0 0 mX5_start (mq X (kc_start s x d) (nI (s.1 9)) (nx_start s x d)) 41 [(0, .inr (1, 0)), (1, .inl (.int x)), (2, .inl (.double (dz d)))] [.inl (.int (nI c)), .inr (1, 0)] (mm_M s X) 0 0 := by
    intro c c4 hc
    refine mm_put dX5_start_41 F_RX5_81 nf_5_0 (by decide) (by first | exact ⟨rfl, rfl⟩ | decide) ?_
    refine px_aload_n dX5_start_44 rfl trivial ?_
    refine mm_gets dX5_start_45 F_RX5_81 (by decide) (by (try simp only [mr_In, mr_Ie, mr_A1, mr_D1, mr_R1, mr_T1, ne_eq, Nat.reduceEqDiff, not_false_eq_true]); rfl) ?_
    refine pn_if_le (tgt := 53) dX5_start_48 (by decide) (pn_lez (by omega)) (fun h => ?_) (fun h => ?_)
    · refine px_aload_n dX5_start_53 rfl trivial ?_
      refine mm_get dX5_start_54 F_RX5_23 rfl ?_
      refine px_aload_n dX5_start_57 rfl trivial ?_
      refine mm_gets dX5_start_58 F_RX5_116 (by decide) (by (try simp only [mr_In, mr_Ie, mr_A1, mr_D1, mr_R1, mr_T1, ne_eq, Nat.reduceEqDiff, not_false_eq_true]); rfl) ?_
      have c0 : kc_start s x d = 0 := by omega
      have hx : px_ix x (s.1 1) ∧ s.1 9 < 30 := by
        unfold kc_start at c0
        by_cases h1 : px_ix x (s.1 1)
        · rw [if_neg (fun z => z h1)] at c0
          by_cases h2 : s.1 9 = 30
          · rw [if_pos h2] at c0; omega
          · exact ⟨h1, by omega⟩
        · rw [if_pos h1] at c0; omega
      obtain ⟨e1, e2⟩ := px_ix_tn hx.1
      have e3 := hx.2
      refine px_iload_n dX5_start_61 rfl ?_
      refine mm_ast dX5_start_62 rfl (by first | rfl | assumption) (by first | rfl | assumption) (by first | assumption | omega) ?_
      refine px_aload_n dX5_start_63 rfl trivial ?_
      refine mm_get dX5_start_64 F_RX5_26 rfl ?_
      refine px_aload_n dX5_start_67 rfl trivial ?_
      refine mm_gets dX5_start_68 F_RX5_116 (by decide) (by (try simp only [mr_In, mr_Ie, mr_A1, mr_D1, mr_R1, mr_T1, ne_eq, Nat.reduceEqDiff, not_false_eq_true]); rfl) ?_
      refine px_dload_n dX5_start_71 rfl ?_
      refine pn_dconst0 dX5_start_72 ?_
      refine pn_dadd dX5_start_73 (by omega) (by omega) (by first | exact Int.add_zero _ | rfl) ?_
      refine mm_ast_d dX5_start_74 rfl (by first | rfl | assumption) (by first | rfl | assumption) (by first | assumption | omega) ?_
      refine px_aload_n dX5_start_75 rfl trivial ?_
      refine px_dup dX5_start_76 rfl ?_
      refine mm_gets dX5_start_77 F_RX5_116 (by decide) (by (try simp only [mr_In, mr_Ie, mr_A1, mr_D1, mr_R1, mr_T1, ne_eq, Nat.reduceEqDiff, not_false_eq_true]); rfl) ?_
      refine px_iconst (v := nI 1) dX5_start_80 (by decide) ?_
      refine pn_iadd dX5_start_81 (by first | exact nI_add _ _ | rfl) ?_
      refine mm_put dX5_start_82 F_RX5_116 nf_5_9 (by decide) (by first | exact ⟨rfl, rfl⟩ | decide) ?_
      refine px_aload_n dX5_start_85 rfl trivial ?_
      refine px_iconst (v := nI 0) dX5_start_86 (by decide) ?_
      refine mm_put dX5_start_87 F_RX5_92 nf_5_25 (by decide) (by first | exact ⟨rfl, rfl⟩ | decide) ?_
      refine px_aload_n dX5_start_90 rfl trivial ?_
      refine mm_gets dX5_start_91 F_RX5_116 (by decide) (by (try simp only [mr_In, mr_Ie, mr_A1, mr_D1, mr_R1, mr_T1, ne_eq, Nat.reduceEqDiff, not_false_eq_true]); rfl) ?_
      refine px_iconst (v := nI 1) dX5_start_94 (by decide) ?_
      refine pn_isub dX5_start_95 (by first | exact pk_sub (by omega) | rfl) ?_
      refine px_iret dX5_start_96 rfl ?_ (by omega) (by omega)
      refine ⟨_, _, rfl, rfl, ?_, ?_, fun _ => ?_⟩
      · rw [c0]; exact (show c = 0 by omega)
      · unfold nx_start
        rw [if_pos c0]
        refine mm_nq.I (mm_nq.I (mm_nq.D (mm_nq.A ((mm_nq.rf s).I0 c) (by decide) _ _) (by decide) _ _) _ _) _ _
      · rfl
    · refine px_iconst (v := nI 0) dX5_start_51 (by decide) ?_
      refine px_iret dX5_start_52 rfl ?_ (by omega) (by omega)
      exact ⟨_, _, rfl, rfl, hc.symm ▸ rfl, by unfold nx_start; rw [if_neg (by omega)]; exact (mm_nq.rf s).I0 c, fun z => by omega⟩
  refine px_aload_n dX5_start_0 rfl trivial ?_
  refine px_aload_n dX5_start_1 rfl trivial ?_
  refine px_iload_n dX5_start_2 rfl ?_
  refine px_callVr ((me_isPin s X x hp)) dX5_start_3 L_RX5_99 (mm_rcv _ _) rfl rfl (by decide) (by omega) (by omega) (Nat.le_of_ble_eq_true rfl) ?_
  refine pn_if_ne (tgt := 13) dX5_start_6 (by decide) (px_bi_0 _) (fun h => ?_) (fun h => ?_)
  · refine px_aload_n dX5_start_13 rfl trivial ?_
    refine mm_gets dX5_start_14 F_RX5_116 (by decide) (by (try simp only [mr_In, mr_Ie, mr_A1, mr_D1, mr_R1, mr_T1, ne_eq, Nat.reduceEqDiff, not_false_eq_true]); rfl) ?_
    refine px_bipush (v := nI 30) dX5_start_17 (by decide) ?_
    refine pn_icmp_ne (tgt := 26) dX5_start_19 (by decide) (nI_eq (by omega) (by omega)) (fun h2 => ?_) (fun h2 => ?_)
    · refine px_dload_n dX5_start_26 rfl ?_
      refine pn_ldc2d dX5_start_27 D_RX5_114 dz_bot ?_
      refine px_callSr ((me_isTime _ d (-8388608) (by omega) (by omega))) dX5_start_30 L_RX5_103 rfl rfl (by decide) (by omega) (by omega) (Nat.le_of_ble_eq_true rfl) ?_
      refine pn_if_eq (tgt := 40) dX5_start_33 (by decide) (px_bi_0 _) (fun h3 => ?_) (fun h3 => ?_)
      · refine px_iconst (v := nI 3) dX5_start_40 (by decide) ?_
        refine px_sub (tail 3 (by decide) ?_) rfl
        unfold kc_start
        rw [if_neg (fun z => h z), if_neg h2, if_neg h3]
      · refine px_iconst (v := nI 0) dX5_start_36 (by decide) ?_
        refine px_goto (tgt := 41) dX5_start_37 (by decide) ?_
        refine px_sub (tail 0 (by decide) ?_) rfl
        unfold kc_start
        rw [if_neg (fun z => h z), if_neg h2, if_pos (Decidable.of_not_not h3)]
    · refine px_iconst (v := nI 2) dX5_start_22 (by decide) ?_
      refine px_goto (tgt := 41) dX5_start_23 (by decide) ?_
      refine px_sub (tail 2 (by decide) ?_) rfl
      unfold kc_start
      rw [if_neg (fun z => h z), if_pos h2]
  · refine px_iconst (v := nI 1) dX5_start_9 (by decide) ?_
    refine px_goto (tgt := 41) dX5_start_10 (by decide) ?_
    exact px_sub (tail 1 (by decide) (if_pos h)) rfl
def kc_through (s : mm_S) (x o : Int32) : Nat := if x ≠ -1 ∧ ¬ px_ix x (s.1 1) then 1 else if ¬ px_ix o 10 then 2 else 0
def va_through (s : mm_S) (x o : Int32) : Nat := if s.2.1 14 (px_tn o) = px_oc x then 0 else 1
def nx_through (s : mm_S) (x o : Int32) : mm_S := if kc_through s x o = 0 ∧ s.2.1 14 (px_tn o) ≠ px_oc x then mm_I (mm_A s 14 (px_tn o) (px_oc x)) 25 0 else s
set_option maxRecDepth 100000 in
set_option maxHeartbeats 4000000 in
theorem me_through (s : mm_S) (X : px_M) (ok : mm_ok s) (x o : Int32) : px_Met 1 0 0 mX5_through [.inr (1, 0), .inl (.int x), .inl (.int o)] (mm_M s X) (mq X (kc_through s x o) (nI (va_through s x o)) (nx_through s x o)) := by
  have hp := ok.1.1
  refine px_ofW (by decide) W_mX5_through (Nat.le_of_ble_eq_true rfl) ?_
  have tail : ∀ c, c < 4 → kc_through s x o = c → px_W 1 0 0 mX5_through (mq X (kc_through s x o) (nI (va_through s x o)) (nx_through s x o)) 33 [(0, .inr (1, 0)), (1, .inl (.int x)), (2, .inl (.int o))] [.inl (.int (nI c)), .inr (1, 0)] (mm_M s X) 0 0 := by
    intro c c4 hc
    refine mm_put dX5_through_33 F_RX5_81 nf_5_0 (by decide) (by first | exact ⟨rfl, rfl⟩ | decide) ?_
    refine px_aload_n dX5_through_36 rfl trivial ?_
    refine mm_gets dX5_through_37 F_RX5_81 (by decide) (by (try simp only [mr_In, mr_Ie, mr_A1, mr_D1, mr_R1, mr_T1, ne_eq, Nat.reduceEqDiff, not_false_eq_true]); rfl) ?_
    refine pn_if_gt (tgt := 53) dX5_through_40 (by decide) (pn_gtz (by omega)) (fun h => ?_) (fun h => ?_)
    · refine px_iconst (v := nI 0) dX5_through_53 (by decide) ?_
      refine px_zret dX5_through_54 rfl (by decide) ⟨_, _, rfl, rfl, hc.symm ▸ rfl, ?_, fun z => by omega⟩ (by omega) (by omega)
      unfold nx_through; rw [if_neg (by omega)]; exact (mm_nq.rf s).I0 c
    · have c0 : kc_through s x o = 0 := by omega
      have hx : (x ≠ -1 → px_ix x (s.1 1)) ∧ px_ix o 10 := by
        unfold kc_through at c0
        by_cases h1 : x ≠ -1 ∧ ¬ px_ix x (s.1 1)
        · rw [if_pos h1] at c0; omega
        · rw [if_neg h1] at c0
          by_cases h2 : px_ix o 10
          · exact ⟨fun h3 => Decidable.of_not_not fun h4 => h1 ⟨h3, h4⟩, h2⟩
          · rw [if_pos h2] at c0; omega
      obtain ⟨e1, e2⟩ := px_ix_tn hx.2
      obtain ⟨e3, e4⟩ := px_oc_o hx.1
      have e5 := ok.2.2.2.2.1 (px_tn o) e2
      refine px_aload_n dX5_through_43 rfl trivial ?_
      refine mm_get dX5_through_44 F_RX5_38 rfl ?_
      refine px_iload_n dX5_through_47 rfl ?_
      refine mm_ald_o dX5_through_48 rfl (by first | rfl | assumption) (by (try simp only [mr_I2, mr_An, mr_Ae, mr_D2, mr_Rn, mr_Re, mr_T2, ne_eq, Nat.reduceEqDiff, not_false_eq_true]); rfl) (by first | assumption | omega) ?_
      refine px_iload_n dX5_through_49 rfl ?_
      refine pn_icmp_ne (tgt := 55) dX5_through_50 (by decide) (px_eqo (n:=s.1 1) (by omega) (by show s.2.1 14 _ < _; omega) hx.1) (fun h2 => ?_) (fun h2 => ?_)
      · refine px_aload_n dX5_through_55 rfl trivial ?_
        refine mm_get dX5_through_56 F_RX5_38 rfl ?_
        refine px_iload_n dX5_through_59 rfl ?_
        refine px_iload_n dX5_through_60 rfl ?_
        refine mm_ast_o dX5_through_61 rfl (by first | rfl | assumption) (by first | exact px_o_n | exact px_o_s _ | rfl | assumption) (by first | assumption | omega) ?_
        refine px_aload_n dX5_through_62 rfl trivial ?_
        refine px_iconst (v := nI 0) dX5_through_63 (by decide) ?_
        refine mm_put dX5_through_64 F_RX5_92 nf_5_25 (by decide) (by first | exact ⟨rfl, rfl⟩ | decide) ?_
        refine px_iconst (v := nI 1) dX5_through_67 (by decide) ?_
        refine px_zret dX5_through_68 rfl (by decide) ⟨_, _, rfl, rfl, ?_, ?_, fun _ => ?_⟩ (by omega) (by omega)
        · rw [c0]; exact (show c = 0 by omega)
        · unfold nx_through
          rw [if_pos ⟨c0, h2⟩]
          exact mm_nq.I (mm_nq.A ((mm_nq.rf s).I0 c) (by decide) _ _) _ _
        · unfold va_through
          rw [if_neg h2]
      · refine px_iconst (v := nI 0) dX5_through_53 (by decide) ?_
        refine px_zret dX5_through_54 rfl (by decide) ⟨_, _, rfl, rfl, hc.symm ▸ rfl, ?_, fun _ => ?_⟩ (by omega) (by omega)
        · unfold nx_through; rw [if_neg (fun z => z.2 h2)]; exact (mm_nq.rf s).I0 c
        · unfold va_through; rw [if_pos h2]
  have t2 : ¬ (x ≠ -1 ∧ ¬ px_ix x (s.1 1)) → px_W 1 0 0 mX5_through (mq X (kc_through s x o) (nI (va_through s x o)) (nx_through s x o)) 18 [(0, .inr (1, 0)), (1, .inl (.int x)), (2, .inl (.int o))] [.inr (1, 0)] (mm_M s X) 0 0 := by
    intro hx
    refine px_iload_n dX5_through_18 rfl ?_
    refine pn_if_lt (tgt := 28) dX5_through_19 (by decide) (px_lt0 _) (fun h => ?_) (fun h => ?_)
    · refine px_iconst (v := nI 2) dX5_through_28 (by decide) ?_
      refine px_goto (tgt := 33) dX5_through_29 (by decide) ?_
      exact px_sub (tail 2 (by decide) (by unfold kc_through; rw [if_neg hx, if_pos (fun z => by have := z.1; omega)])) rfl
    · refine px_iload_n dX5_through_22 rfl ?_
      refine px_bipush (v := nI 10) dX5_through_23 (by decide) ?_
      refine pn_icmp_lt (tgt := 32) dX5_through_25 (by decide) (px_ltN _ (by decide)) (fun h2 => ?_) (fun h2 => ?_)
      · refine px_iconst (v := nI 0) dX5_through_32 (by decide) ?_
        exact px_sub (tail 0 (by decide) (by unfold kc_through; rw [if_neg hx, if_neg (fun z => z ⟨by omega, by omega⟩)])) rfl
      · refine px_iconst (v := nI 2) dX5_through_28 (by decide) ?_
        refine px_goto (tgt := 33) dX5_through_29 (by decide) ?_
        exact px_sub (tail 2 (by decide) (by unfold kc_through; rw [if_neg hx, if_pos (fun z => by have := z.2; omega)])) rfl
  refine px_aload_n dX5_through_0 rfl trivial ?_
  refine px_iload_n dX5_through_1 rfl ?_
  refine px_iconst (v := -1) dX5_through_2 (by decide) ?_
  refine pn_icmp_eq (tgt := 18) dX5_through_3 (by decide) (Iff.rfl) (fun h => ?_) (fun h => ?_)
  · exact px_sub (t2 (fun z => z.1 h)) rfl
  · refine px_aload_n dX5_through_6 rfl trivial ?_
    refine px_iload_n dX5_through_7 rfl ?_
    refine px_callVr ((me_isPin s X x hp)) dX5_through_8 L_RX5_99 (mm_rcv _ _) rfl rfl (by decide) (by omega) (by omega) (Nat.le_of_ble_eq_true rfl) ?_
    refine pn_if_ne (tgt := 18) dX5_through_11 (by decide) (px_bi_0 _) (fun h2 => ?_) (fun h2 => ?_)
    · exact px_sub (t2 (fun z => h2 z.2)) rfl
    · refine px_iconst (v := nI 1) dX5_through_14 (by decide) ?_
      refine px_goto (tgt := 33) dX5_through_15 (by decide) ?_
      exact px_sub (tail 1 (by decide) (if_pos ⟨h, h2⟩)) rfl
