/-! ===== delays that change ===== -/
def kc_whatIf (s : mm_S) (x : Int32) (d : Int) : Nat := if ¬ px_ix x (s.1 6) then 1 else if s.1 17 = 50 then 2 else if 0 ≤ d ∧ d ≤ 8388608 then 0 else 3
def va_whatIf (s : mm_S) (x : Int32) (d : Int) : Nat := if s.2.2 5 (px_tn x) = d then 0 else 1
def nx_whatIf (s : mm_S) (x : Int32) (d : Int) : mm_S := if kc_whatIf s x d = 0 ∧ s.2.2 5 (px_tn x) ≠ d then mm_I (mm_D (mm_I (mm_D (mm_A s 15 (s.1 17) (px_tn x)) 16 (s.1 17) (s.2.2 5 (px_tn x))) 17 (s.1 17 + 1)) 5 (px_tn x) d) 25 0 else s
theorem kc_whatIf0 {s : mm_S} {x : Int32} {d : Int} (c0 : kc_whatIf s x d = 0) : px_ix x (s.1 6) ∧ s.1 17 ≠ 50 ∧ 0 ≤ d ∧ d ≤ 8388608 := by
  unfold kc_whatIf at c0
  by_cases h1 : px_ix x (s.1 6)
  · rw [if_neg (fun z => z h1)] at c0
    by_cases h2 : s.1 17 = 50
    · rw [if_pos h2] at c0; omega
    · rw [if_neg h2] at c0
      by_cases h3 : 0 ≤ d ∧ d ≤ 8388608
      · exact ⟨h1, h2, h3⟩
      · rw [if_neg h3] at c0; omega
  · rw [if_pos h1] at c0; omega
set_option maxRecDepth 100000 in
set_option maxHeartbeats 4000000 in
theorem me_whatIf (s : mm_S) (X : px_M) (ok : mm_ok s) (x : Int32) (d : Int) (hd : d.natAbs ≤ 2 ^ 32) : px_Met 1 0 0 mX5_whatIf [.inr (1, 0), .inl (.int x), .inl (.double (dz d))] (mm_M s X) (mq X (kc_whatIf s x d) (nI (va_whatIf s x d)) (nx_whatIf s x d)) := by
  have h6 := ok.1.2.1
  have h17 := ok.1.2.2.2.2.1
  refine px_ofW (by decide) W_mX5_whatIf (Nat.le_of_ble_eq_true rfl) ?_
  have tail : ∀ c, c < 4 → kc_whatIf s x d = c → px_W 1 0 0 mX5_whatIf (mq X (kc_whatIf s x d) (nI (va_whatIf s x d)) (nx_whatIf s x d)) 43 [(0, .inr (1, 0)), (1, .inl (.int x)), (2, .inl (.double (dz d)))] [.inl (.int (nI c)), .inr (1, 0)] (mm_M s X) 0 0 := by
    intro c c4 hc
    refine mm_put dX5_whatIf_43 F_RX5_81 nf_5_0 (by decide) (by first | exact ⟨rfl, rfl⟩ | decide) ?_
    refine px_aload_n dX5_whatIf_46 rfl trivial ?_
    refine mm_gets dX5_whatIf_47 F_RX5_81 (by decide) (by (try simp only [mr_In, mr_Ie, mr_A1, mr_D1, mr_R1, mr_T1, ne_eq, Nat.reduceEqDiff, not_false_eq_true]); rfl) ?_
    refine pn_if_gt (tgt := 64) dX5_whatIf_50 (by decide) (pn_gtz (by omega)) (fun h => ?_) (fun h => ?_)
    · refine px_iconst (v := nI 0) dX5_whatIf_64 (by decide) ?_
      refine px_zret dX5_whatIf_65 rfl (by decide) ⟨_, _, rfl, rfl, hc.symm ▸ rfl, ?_, fun z => by omega⟩ (by omega) (by omega)
      unfold nx_whatIf; rw [if_neg (by omega)]; exact (mm_nq.rf s).I0 c
    · have c0 : kc_whatIf s x d = 0 := by omega
      obtain ⟨hx, hn, hd0, hd1⟩ := kc_whatIf0 c0
      obtain ⟨e1, e2⟩ := px_ix_tn hx
      have e5 := (ok.2.1 (px_tn x) e2).2.2
      have e6 := e5.1
      have e7 := e5.2
      refine px_aload_n dX5_whatIf_53 rfl trivial ?_
      refine mm_get dX5_whatIf_54 F_RX5_19 rfl ?_
      refine px_iload_n dX5_whatIf_57 rfl ?_
      refine mm_ald_d dX5_whatIf_58 rfl (by first | rfl | assumption) (by (try simp only [mr_I3, mr_A3, mr_Dn, mr_De, mr_R3, mr_Tn, mr_Te, ne_eq, Nat.reduceEqDiff, not_false_eq_true]); rfl) (by first | assumption | omega) ?_
      refine px_dload_n dX5_whatIf_59 rfl ?_
      refine pn_dcmp dX5_whatIf_60 rfl rfl (by omega) (by omega) ?_
      refine pn_if_ne (tgt := 66) dX5_whatIf_61 (by decide) (dz_c_eq _ _) (fun h2 => ?_) (fun h2 => ?_)
      · refine px_aload_n dX5_whatIf_66 rfl trivial ?_
        refine mm_get dX5_whatIf_67 F_RX5_41 rfl ?_
        refine px_aload_n dX5_whatIf_70 rfl trivial ?_
        refine mm_gets dX5_whatIf_71 F_RX5_173 (by decide) (by (try simp only [mr_In, mr_Ie, mr_A1, mr_D1, mr_R1, mr_T1, ne_eq, Nat.reduceEqDiff, not_false_eq_true]); rfl) ?_
        refine px_iload_n dX5_whatIf_74 rfl ?_
        refine mm_ast dX5_whatIf_75 rfl (by first | rfl | assumption) (by first | rfl | assumption) (by first | assumption | omega) ?_
        refine px_aload_n dX5_whatIf_76 rfl trivial ?_
        refine mm_get dX5_whatIf_77 F_RX5_44 rfl ?_
        refine px_aload_n dX5_whatIf_80 rfl trivial ?_
        refine mm_gets dX5_whatIf_81 F_RX5_173 (by decide) (by (try simp only [mr_In, mr_Ie, mr_A1, mr_D1, mr_R1, mr_T1, ne_eq, Nat.reduceEqDiff, not_false_eq_true]); rfl) ?_
        refine px_aload_n dX5_whatIf_84 rfl trivial ?_
        refine mm_get dX5_whatIf_85 F_RX5_19 rfl ?_
        refine px_iload_n dX5_whatIf_88 rfl ?_
        refine mm_ald_d dX5_whatIf_89 rfl (by first | rfl | assumption) (by (try simp only [mr_I3, mr_A3, mr_Dn, mr_De, mr_R3, mr_Tn, mr_Te, ne_eq, Nat.reduceEqDiff, not_false_eq_true]); rfl) (by first | assumption | omega) ?_
        refine mm_ast_d dX5_whatIf_90 rfl (by first | rfl | assumption) (by first | rfl | assumption) (by first | assumption | omega) ?_
        refine px_aload_n dX5_whatIf_91 rfl trivial ?_
        refine px_dup dX5_whatIf_92 rfl ?_
        refine mm_gets dX5_whatIf_93 F_RX5_173 (by decide) (by (try simp only [mr_In, mr_Ie, mr_A1, mr_D1, mr_R1, mr_T1, ne_eq, Nat.reduceEqDiff, not_false_eq_true]); rfl) ?_
        refine px_iconst (v := nI 1) dX5_whatIf_96 (by decide) ?_
        refine pn_iadd dX5_whatIf_97 (by first | exact nI_add _ _ | rfl) ?_
        refine mm_put dX5_whatIf_98 F_RX5_173 nf_5_17 (by decide) (by first | exact ⟨rfl, rfl⟩ | decide) ?_
        refine px_aload_n dX5_whatIf_101 rfl trivial ?_
        refine mm_get dX5_whatIf_102 F_RX5_19 rfl ?_
        refine px_iload_n dX5_whatIf_105 rfl ?_
        refine px_dload_n dX5_whatIf_106 rfl ?_
        refine pn_dconst0 dX5_whatIf_107 ?_
        refine pn_dadd dX5_whatIf_108 (by omega) (by omega) (by first | exact Int.add_zero _ | rfl) ?_
        refine mm_ast_d dX5_whatIf_109 rfl (by first | rfl | assumption) (by first | rfl | assumption) (by first | assumption | omega) ?_
        refine px_aload_n dX5_whatIf_110 rfl trivial ?_
        refine px_iconst (v := nI 0) dX5_whatIf_111 (by decide) ?_
        refine mm_put dX5_whatIf_112 F_RX5_92 nf_5_25 (by decide) (by first | exact ⟨rfl, rfl⟩ | decide) ?_
        refine px_iconst (v := nI 1) dX5_whatIf_115 (by decide) ?_
        refine px_zret dX5_whatIf_116 rfl (by decide) ⟨_, _, rfl, rfl, ?_, ?_, fun _ => ?_⟩ (by omega) (by omega)
        · rw [c0]; exact (show c = 0 by omega)
        · unfold nx_whatIf
          rw [if_pos ⟨c0, h2⟩]
          exact mm_nq.I (mm_nq.D (mm_nq.I (mm_nq.D (mm_nq.A ((mm_nq.rf s).I0 c) (by decide) _ _) (by decide) _ _) _ _) (by decide) _ _) _ _
        · unfold va_whatIf
          rw [if_neg h2]
      · refine px_iconst (v := nI 0) dX5_whatIf_64 (by decide) ?_
        refine px_zret dX5_whatIf_65 rfl (by decide) ⟨_, _, rfl, rfl, hc.symm ▸ rfl, ?_, fun _ => ?_⟩ (by omega) (by omega)
        · unfold nx_whatIf; rw [if_neg (fun z => z.2 h2)]; exact (mm_nq.rf s).I0 c
        · unfold va_whatIf; rw [if_pos h2]
  have t2 : px_ix x (s.1 6) → px_W 1 0 0 mX5_whatIf (mq X (kc_whatIf s x d) (nI (va_whatIf s x d)) (nx_whatIf s x d)) 17 [(0, .inr (1, 0)), (1, .inl (.int x)), (2, .inl (.double (dz d)))] [.inr (1, 0)] (mm_M s X) 0 0 := by
    intro hx
    refine px_aload_n dX5_whatIf_17 rfl trivial ?_
    refine mm_gets dX5_whatIf_18 F_RX5_173 (by decide) (by (try simp only [mr_In, mr_Ie, mr_A1, mr_D1, mr_R1, mr_T1, ne_eq, Nat.reduceEqDiff, not_false_eq_true]); rfl) ?_
    refine px_bipush (v := nI 50) dX5_whatIf_21 (by decide) ?_
    refine pn_icmp_ne (tgt := 30) dX5_whatIf_23 (by decide) (nI_eq (by omega) (by omega)) (fun h2 => ?_) (fun h2 => ?_)
    · refine px_dload_n dX5_whatIf_30 rfl ?_
      refine pn_dconst0 dX5_whatIf_31 ?_
      refine px_callSr ((me_isTime _ d 0 (by omega) (by omega))) dX5_whatIf_32 L_RX5_103 rfl rfl (by decide) (by omega) (by omega) (Nat.le_of_ble_eq_true rfl) ?_
      refine pn_if_eq (tgt := 42) dX5_whatIf_35 (by decide) (px_bi_0 _) (fun h3 => ?_) (fun h3 => ?_)
      · refine px_iconst (v := nI 3) dX5_whatIf_42 (by decide) ?_
        refine px_sub (tail 3 (by decide) ?_) rfl
        unfold kc_whatIf
        rw [if_neg (fun z => z hx), if_neg h2, if_neg h3]
      · refine px_iconst (v := nI 0) dX5_whatIf_38 (by decide) ?_
        refine px_goto (tgt := 43) dX5_whatIf_39 (by decide) ?_
        refine px_sub (tail 0 (by decide) ?_) rfl
        unfold kc_whatIf
        rw [if_neg (fun z => z hx), if_neg h2, if_pos (Decidable.of_not_not h3)]
    · refine px_iconst (v := nI 2) dX5_whatIf_26 (by decide) ?_
      refine px_goto (tgt := 43) dX5_whatIf_27 (by decide) ?_
      refine px_sub (tail 2 (by decide) ?_) rfl
      unfold kc_whatIf
      rw [if_neg (fun z => z hx), if_pos h2]
  refine px_aload_n dX5_whatIf_0 rfl trivial ?_
  refine px_iload_n dX5_whatIf_1 rfl ?_
  refine pn_if_lt (tgt := 13) dX5_whatIf_2 (by decide) (px_lt0 _) (fun h => ?_) (fun h => ?_)
  · refine px_iconst (v := nI 1) dX5_whatIf_13 (by decide) ?_
    refine px_goto (tgt := 43) dX5_whatIf_14 (by decide) ?_
    exact px_sub (tail 1 (by decide) (if_pos (fun z => by have := z.1; omega))) rfl
  · refine px_iload_n dX5_whatIf_5 rfl ?_
    refine px_aload_n dX5_whatIf_6 rfl trivial ?_
    refine mm_gets dX5_whatIf_7 F_RX5_96 (by decide) (by (try simp only [mr_In, mr_Ie, mr_A1, mr_D1, mr_R1, mr_T1, ne_eq, Nat.reduceEqDiff, not_false_eq_true]); rfl) ?_
    refine pn_icmp_lt (tgt := 17) dX5_whatIf_10 (by decide) (px_ltN _ (by omega)) (fun h2 => ?_) (fun h2 => ?_)
    · exact px_sub (t2 ⟨by omega, by omega⟩) rfl
    · refine px_iconst (v := nI 1) dX5_whatIf_13 (by decide) ?_
      refine px_goto (tgt := 43) dX5_whatIf_14 (by decide) ?_
      exact px_sub (tail 1 (by decide) (if_pos (fun z => by have := z.2; omega))) rfl
def va_back (s : mm_S) : Nat := if s.1 17 = 0 then 0 else 1
def nx_back (s : mm_S) : mm_S := if s.1 17 = 0 then s else mm_I (mm_D (mm_I s 17 (s.1 17 - 1)) 5 (s.2.1 15 (s.1 17 - 1)) (s.2.2 16 (s.1 17 - 1))) 25 0
set_option maxRecDepth 100000 in
set_option maxHeartbeats 4000000 in
theorem me_back (s : mm_S) (X : px_M) (ok : mm_ok s) : px_Met 0 0 0 mX5_back [.inr (1, 0)] (mm_M s X) (mq X 0 (nI (va_back s)) (nx_back s)) := by
  have h6 := ok.1.2.1
  have h17 := ok.1.2.2.2.2.1
  refine px_ofW (by decide) W_mX5_back (Nat.le_of_ble_eq_true rfl) ?_
  refine px_aload_n dX5_back_0 rfl trivial ?_
  refine px_iconst (v := nI 0) dX5_back_1 (by decide) ?_
  refine mm_put dX5_back_2 F_RX5_81 nf_5_0 (by decide) (by first | exact ⟨rfl, rfl⟩ | decide) ?_
  refine px_aload_n dX5_back_5 rfl trivial ?_
  refine mm_gets dX5_back_6 F_RX5_173 (by decide) (by (try simp only [mr_In, mr_Ie, mr_A1, mr_D1, mr_R1, mr_T1, ne_eq, Nat.reduceEqDiff, not_false_eq_true]); rfl) ?_
  refine pn_if_ne (tgt := 14) dX5_back_9 (by decide) (pn_z (by omega)) (fun h => ?_) (fun h => ?_)
  · have h0 := (ok.2.2.2.2.2.2.1 (s.1 17 - 1) (by omega)).1
    refine px_aload_n dX5_back_14 rfl trivial ?_
    refine px_dup dX5_back_15 rfl ?_
    refine mm_gets dX5_back_16 F_RX5_173 (by decide) (by (try simp only [mr_In, mr_Ie, mr_A1, mr_D1, mr_R1, mr_T1, ne_eq, Nat.reduceEqDiff, not_false_eq_true]); rfl) ?_
    refine px_iconst (v := nI 1) dX5_back_19 (by decide) ?_
    refine pn_isub dX5_back_20 (by first | exact pk_sub (by omega) | rfl) ?_
    refine mm_put dX5_back_21 F_RX5_173 nf_5_17 (by decide) (by first | exact ⟨rfl, rfl⟩ | decide) ?_
    refine px_aload_n dX5_back_24 rfl trivial ?_
    refine mm_get dX5_back_25 F_RX5_19 rfl ?_
    refine px_aload_n dX5_back_28 rfl trivial ?_
    refine mm_get dX5_back_29 F_RX5_41 rfl ?_
    refine px_aload_n dX5_back_32 rfl trivial ?_
    refine mm_gets dX5_back_33 F_RX5_173 (by decide) (by (try simp only [mr_In, mr_Ie, mr_A1, mr_D1, mr_R1, mr_T1, ne_eq, Nat.reduceEqDiff, not_false_eq_true]); rfl) ?_
    refine mm_ald dX5_back_36 rfl (by first | rfl | assumption) (by (try simp only [mr_I2, mr_An, mr_Ae, mr_D2, mr_Rn, mr_Re, mr_T2, ne_eq, Nat.reduceEqDiff, not_false_eq_true]); rfl) (by first | assumption | omega) ?_
    refine px_aload_n dX5_back_37 rfl trivial ?_
    refine mm_get dX5_back_38 F_RX5_44 rfl ?_
    refine px_aload_n dX5_back_41 rfl trivial ?_
    refine mm_gets dX5_back_42 F_RX5_173 (by decide) (by (try simp only [mr_In, mr_Ie, mr_A1, mr_D1, mr_R1, mr_T1, ne_eq, Nat.reduceEqDiff, not_false_eq_true]); rfl) ?_
    refine mm_ald_d dX5_back_45 rfl (by first | rfl | assumption) (by (try simp only [mr_I3, mr_A3, mr_Dn, mr_De, mr_R3, mr_Tn, mr_Te, ne_eq, Nat.reduceEqDiff, not_false_eq_true]); rfl) (by first | assumption | omega) ?_
    refine mm_ast_d dX5_back_46 rfl (by first | rfl | assumption) (by first | rfl | assumption) (by first | assumption | omega) ?_
    refine px_aload_n dX5_back_47 rfl trivial ?_
    refine px_iconst (v := nI 0) dX5_back_48 (by decide) ?_
    refine mm_put dX5_back_49 F_RX5_92 nf_5_25 (by decide) (by first | exact ⟨rfl, rfl⟩ | decide) ?_
    refine px_iconst (v := nI 1) dX5_back_52 (by decide) ?_
    refine px_zret dX5_back_53 rfl (by decide) ⟨_, _, rfl, rfl, rfl, ?_, fun _ => ?_⟩ (by omega) (by omega)
    · unfold nx_back; rw [if_neg h]
      exact mm_nq.I (mm_nq.D (mm_nq.I ((mm_nq.rf s).I0 0) _ _) (by decide) _ _) _ _
    · unfold va_back; rw [if_neg h]
  · refine px_iconst (v := nI 0) dX5_back_12 (by decide) ?_
    refine px_zret dX5_back_13 rfl (by decide) ⟨_, _, rfl, rfl, rfl, ?_, fun _ => ?_⟩ (by omega) (by omega)
    · unfold nx_back; rw [if_pos h]; exact (mm_nq.rf s).I0 0
    · unfold va_back; rw [if_pos h]
def kc_fault (s : mm_S) (x : Int32) : Nat := if s.1 25 = 0 then 1 else if ¬ px_ix x (s.1 24) then 2 else 0
set_option maxRecDepth 100000 in
set_option maxHeartbeats 4000000 in
theorem me_faultOf (s : mm_S) (X : px_M) (ok : mm_ok s) (x : Int32) : px_Met 0 0 0 mX5_faultOf [.inr (1, 0), .inl (.int x)] (mm_M s X) (px_rt (some (.inl (.int (nI (kc_fault s x))))) (mm_M s X)) := by
  have h25 := ok.1.2.2.2.2.2.1
  have h24 := ok.1.2.2.2.2.2.2
  refine px_ofW (by decide) W_mX5_faultOf (Nat.le_of_ble_eq_true rfl) ?_
  refine px_aload_n dX5_faultOf_0 rfl trivial ?_
  refine mm_gets dX5_faultOf_1 F_RX5_92 (by decide) (by (try simp only [mr_In, mr_Ie, mr_A1, mr_D1, mr_R1, mr_T1, ne_eq, Nat.reduceEqDiff, not_false_eq_true]); rfl) ?_
  refine pn_if_ne (tgt := 11) dX5_faultOf_4 (by decide) (pn_z (by omega)) (fun h => ?_) (fun h => ?_)
  · refine px_iload_n dX5_faultOf_11 rfl ?_
    refine pn_if_lt (tgt := 23) dX5_faultOf_12 (by decide) (px_lt0 _) (fun h2 => ?_) (fun h2 => ?_)
    · refine px_iconst (v := nI 2) dX5_faultOf_23 (by decide) ?_
      refine px_goto (tgt := 28) dX5_faultOf_24 (by decide) ?_
      refine px_iret dX5_faultOf_28 rfl ?_ (by omega) (by omega)
      exact ⟨by unfold kc_fault; rw [if_neg h, if_pos (fun z => by have := z.1; omega)], rfl⟩
    · refine px_iload_n dX5_faultOf_15 rfl ?_
      refine px_aload_n dX5_faultOf_16 rfl trivial ?_
      refine mm_gets dX5_faultOf_17 F_RX5_145 (by decide) (by (try simp only [mr_In, mr_Ie, mr_A1, mr_D1, mr_R1, mr_T1, ne_eq, Nat.reduceEqDiff, not_false_eq_true]); rfl) ?_
      refine pn_icmp_lt (tgt := 27) dX5_faultOf_20 (by decide) (px_ltN _ (by omega)) (fun h3 => ?_) (fun h3 => ?_)
      · refine px_iconst (v := nI 0) dX5_faultOf_27 (by decide) ?_
        refine px_iret dX5_faultOf_28 rfl ?_ (by omega) (by omega)
        exact ⟨by unfold kc_fault; rw [if_neg h, if_neg (fun z => z ⟨by omega, by omega⟩)], rfl⟩
      · refine px_iconst (v := nI 2) dX5_faultOf_23 (by decide) ?_
        refine px_goto (tgt := 28) dX5_faultOf_24 (by decide) ?_
        refine px_iret dX5_faultOf_28 rfl ?_ (by omega) (by omega)
        exact ⟨by unfold kc_fault; rw [if_neg h, if_pos (fun z => by have := z.2; omega)], rfl⟩
  · refine px_iconst (v := nI 1) dX5_faultOf_7 (by decide) ?_
    refine px_goto (tgt := 28) dX5_faultOf_8 (by decide) ?_
    refine px_iret dX5_faultOf_28 rfl ?_ (by omega) (by omega)
    exact ⟨by unfold kc_fault; rw [if_pos h], rfl⟩
