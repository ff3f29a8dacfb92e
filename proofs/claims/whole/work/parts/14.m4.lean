/-! ===== the reference's net calls: ends, starts, orders, groups, blocks, delays ===== -/
def px_tn (x : Int32) : Nat := x.toInt.toNat
theorem px_ix_tn {x : Int32} {n : Nat} (h : px_ix x n) : x = nI (px_tn x) ∧ px_tn x < n := by
  obtain ⟨h1, h2⟩ := h
  have e : ((px_tn x : Nat) : Int) = x.toInt := Int.toNat_of_nonneg h1
  exact ⟨(Int32.ofInt_toInt x).symm.trans ((congrArg Int32.ofInt e.symm).trans (by first | rfl | exact Int32.ofInt_eq_ofNat ..)), by omega⟩
theorem nI_tn {p : Nat} (h : p < 2 ^ 31) : px_tn (nI p) = p := by
  unfold px_tn
  rw [nI_toInt h]; rfl
def kc_end (s : mm_S) (x : Int32) (d : Int) : Nat := if ¬ px_ix x (s.1 1) then 1 else if s.1 13 = 30 then 2 else if -8388608 ≤ d ∧ d ≤ 8388608 then 0 else 3
def nx_end (s : mm_S) (x : Int32) (d : Int) : mm_S := if kc_end s x d = 0 then mm_I (mm_I (mm_A (mm_D (mm_A s 10 (s.1 13) (px_tn x)) 11 (s.1 13) d) 12 (s.1 13) 0) 13 (s.1 13 + 1)) 25 0 else s
set_option maxRecDepth 100000 in
set_option maxHeartbeats 4000000 in
theorem me_end (s : mm_S) (X : px_M) (ok : mm_ok s) (x : Int32) (d : Int) (hd : d.natAbs ≤ 2 ^ 32) : px_Met 1 0 0 mX5_end [.inr (1, 0), .inl (.int x), .inl (.double (dz d))] (mm_M s X) (mq X (kc_end s x d) (nI (s.1 13)) (nx_end s x d)) := by
  have hp := ok.1.1
  have h13 := ok.1.2.2.2.1
  refine px_ofW (by decide) W_mX5_end (Nat.le_of_ble_eq_true rfl) ?_
  have tail : ∀ c, c < 4 → kc_end s x d = c → px_W 1 0 0 mX5_end (mq X (kc_end s x d) (nI (s.1 13)) (nx_end s x d)) 41 [(0, .inr (1, 0)), (1, .inl (.int x)), (2, .inl (.double (dz d)))] [.inl (.int (nI c)), .inr (1, 0)] (mm_M s X) 0 0 := by
    intro c c4 hc
    refine mm_put dX5_end_41 F_RX5_81 nf_5_0 (by decide) (by first | exact ⟨rfl, rfl⟩ | decide) ?_
    refine px_aload_n dX5_end_44 rfl trivial ?_
    refine mm_gets dX5_end_45 F_RX5_81 (by decide) (by (try simp only [mr_In, mr_Ie, mr_A1, mr_D1, mr_R1, mr_T1, ne_eq, Nat.reduceEqDiff, not_false_eq_true]); rfl) ?_
    refine pn_if_le (tgt := 53) dX5_end_48 (by decide) (pn_lez (by omega)) (fun h => ?_) (fun h => ?_)
    · refine px_aload_n dX5_end_53 rfl trivial ?_
      refine mm_get dX5_end_54 F_RX5_29 rfl ?_
      refine px_aload_n dX5_end_57 rfl trivial ?_
      refine mm_gets dX5_end_58 F_RX5_111 (by decide) (by (try simp only [mr_In, mr_Ie, mr_A1, mr_D1, mr_R1, mr_T1, ne_eq, Nat.reduceEqDiff, not_false_eq_true]); rfl) ?_
      have c0 : kc_end s x d = 0 := by omega
      have hx : px_ix x (s.1 1) ∧ s.1 13 < 30 := by
        unfold kc_end at c0
        by_cases h1 : px_ix x (s.1 1)
        · rw [if_neg (fun z => z h1)] at c0
          by_cases h2 : s.1 13 = 30
          · rw [if_pos h2] at c0; omega
          · exact ⟨h1, by omega⟩
        · rw [if_pos h1] at c0; omega
      obtain ⟨e1, e2⟩ := px_ix_tn hx.1
      have e3 := hx.2
      refine px_iload_n dX5_end_61 rfl ?_
      refine mm_ast dX5_end_62 rfl (by first | rfl | assumption) (by first | rfl | assumption) (by first | assumption | omega) ?_
      refine px_aload_n dX5_end_63 rfl trivial ?_
      refine mm_get dX5_end_64 F_RX5_32 rfl ?_
      refine px_aload_n dX5_end_67 rfl trivial ?_
      refine mm_gets dX5_end_68 F_RX5_111 (by decide) (by (try simp only [mr_In, mr_Ie, mr_A1, mr_D1, mr_R1, mr_T1, ne_eq, Nat.reduceEqDiff, not_false_eq_true]); rfl) ?_
      refine px_dload_n dX5_end_71 rfl ?_
      refine pn_dconst0 dX5_end_72 ?_
      refine pn_dadd dX5_end_73 (by omega) (by omega) (by first | exact Int.add_zero _ | rfl) ?_
      refine mm_ast_d dX5_end_74 rfl (by first | rfl | assumption) (by first | rfl | assumption) (by first | assumption | omega) ?_
      refine px_aload_n dX5_end_75 rfl trivial ?_
      refine mm_get dX5_end_76 F_RX5_35 rfl ?_
      refine px_aload_n dX5_end_79 rfl trivial ?_
      refine mm_gets dX5_end_80 F_RX5_111 (by decide) (by (try simp only [mr_In, mr_Ie, mr_A1, mr_D1, mr_R1, mr_T1, ne_eq, Nat.reduceEqDiff, not_false_eq_true]); rfl) ?_
      refine px_iconst (v := nI 0) dX5_end_83 (by decide) ?_
      refine mm_ast dX5_end_84 rfl (by first | rfl | assumption) (by first | rfl | assumption) (by first | assumption | omega) ?_
      refine px_aload_n dX5_end_85 rfl trivial ?_
      refine px_dup dX5_end_86 rfl ?_
      refine mm_gets dX5_end_87 F_RX5_111 (by decide) (by (try simp only [mr_In, mr_Ie, mr_A1, mr_D1, mr_R1, mr_T1, ne_eq, Nat.reduceEqDiff, not_false_eq_true]); rfl) ?_
      refine px_iconst (v := nI 1) dX5_end_90 (by decide) ?_
      refine pn_iadd dX5_end_91 (by first | exact nI_add _ _ | rfl) ?_
      refine mm_put dX5_end_92 F_RX5_111 nf_5_13 (by decide) (by first | exact ⟨rfl, rfl⟩ | decide) ?_
      refine px_aload_n dX5_end_95 rfl trivial ?_
      refine px_iconst (v := nI 0) dX5_end_96 (by decide) ?_
      refine mm_put dX5_end_97 F_RX5_92 nf_5_25 (by decide) (by first | exact ⟨rfl, rfl⟩ | decide) ?_
      refine px_aload_n dX5_end_100 rfl trivial ?_
      refine mm_gets dX5_end_101 F_RX5_111 (by decide) (by (try simp only [mr_In, mr_Ie, mr_A1, mr_D1, mr_R1, mr_T1, ne_eq, Nat.reduceEqDiff, not_false_eq_true]); rfl) ?_
      refine px_iconst (v := nI 1) dX5_end_104 (by decide) ?_
      refine pn_isub dX5_end_105 (by first | exact pk_sub (by omega) | rfl) ?_
      refine px_iret dX5_end_106 rfl ?_ (by omega) (by omega)
      refine ⟨_, _, rfl, rfl, ?_, ?_, fun _ => ?_⟩
      · rw [c0]; exact (show c = 0 by omega)
      · unfold nx_end
        rw [if_pos c0]
        refine mm_nq.I (mm_nq.I (mm_nq.A (mm_nq.D (mm_nq.A ((mm_nq.rf s).I0 c) (by decide) _ _) (by decide) _ _) (by decide) _ _) _ _) _ _
      · rfl
    · refine px_iconst (v := nI 0) dX5_end_51 (by decide) ?_
      refine px_iret dX5_end_52 rfl ?_ (by omega) (by omega)
      exact ⟨_, _, rfl, rfl, hc.symm ▸ rfl, by unfold nx_end; rw [if_neg (by omega)]; exact (mm_nq.rf s).I0 c, fun z => by omega⟩
  refine px_aload_n dX5_end_0 rfl trivial ?_
  refine px_aload_n dX5_end_1 rfl trivial ?_
  refine px_iload_n dX5_end_2 rfl ?_
  refine px_callVr ((me_isPin s X x hp)) dX5_end_3 L_RX5_99 (mm_rcv _ _) rfl rfl (by decide) (by omega) (by omega) (Nat.le_of_ble_eq_true rfl) ?_
  refine pn_if_ne (tgt := 13) dX5_end_6 (by decide) (px_bi_0 _) (fun h => ?_) (fun h => ?_)
  · refine px_aload_n dX5_end_13 rfl trivial ?_
    refine mm_gets dX5_end_14 F_RX5_111 (by decide) (by (try simp only [mr_In, mr_Ie, mr_A1, mr_D1, mr_R1, mr_T1, ne_eq, Nat.reduceEqDiff, not_false_eq_true]); rfl) ?_
    refine px_bipush (v := nI 30) dX5_end_17 (by decide) ?_
    refine pn_icmp_ne (tgt := 26) dX5_end_19 (by decide) (nI_eq (by omega) (by omega)) (fun h2 => ?_) (fun h2 => ?_)
    · refine px_dload_n dX5_end_26 rfl ?_
      refine pn_ldc2d dX5_end_27 D_RX5_114 dz_bot ?_
      refine px_callSr ((me_isTime _ d (-8388608) (by omega) (by omega))) dX5_end_30 L_RX5_103 rfl rfl (by decide) (by omega) (by omega) (Nat.le_of_ble_eq_true rfl) ?_
      refine pn_if_eq (tgt := 40) dX5_end_33 (by decide) (px_bi_0 _) (fun h3 => ?_) (fun h3 => ?_)
      · refine px_iconst (v := nI 3) dX5_end_40 (by decide) ?_
        refine px_sub (tail 3 (by decide) ?_) rfl
        unfold kc_end
        rw [if_neg (fun z => h z), if_neg h2, if_neg h3]
      · refine px_iconst (v := nI 0) dX5_end_36 (by decide) ?_
        refine px_goto (tgt := 41) dX5_end_37 (by decide) ?_
        refine px_sub (tail 0 (by decide) ?_) rfl
        unfold kc_end
        rw [if_neg (fun z => h z), if_neg h2, if_pos (Decidable.of_not_not h3)]
    · refine px_iconst (v := nI 2) dX5_end_22 (by decide) ?_
      refine px_goto (tgt := 41) dX5_end_23 (by decide) ?_
      refine px_sub (tail 2 (by decide) ?_) rfl
      unfold kc_end
      rw [if_neg (fun z => h z), if_pos h2]
  · refine px_iconst (v := nI 1) dX5_end_9 (by decide) ?_
    refine px_goto (tgt := 41) dX5_end_10 (by decide) ?_
    exact px_sub (tail 1 (by decide) (if_pos h)) rfl
