/-! ===== arc ===== -/
noncomputable def kc_arc (s : mm_S) (x y : Int32) (d : Int) : Nat := if ¬ px_ix x (s.1 1) then 1 else if ¬ px_ix y (s.1 1) then 1 else if s.1 6 = 150 then 2 else if ¬ (0 ≤ d ∧ d ≤ 8388608) then 3 else 3 * px_ch (mm_rch s 0 (px_tn y) (px_tn x))
noncomputable def nx_arc (s : mm_S) (x y : Int32) (d : Int) : mm_S := if kc_arc s x y d = 0 then mm_I (mm_I (mm_D (mm_A (mm_A s 3 (s.1 6) (px_tn x)) 4 (s.1 6) (px_tn y)) 5 (s.1 6) d) 6 (s.1 6 + 1)) 25 0 else s
theorem kc_arc0 {s : mm_S} {x y : Int32} {d : Int} (h : kc_arc s x y d = 0) : px_ix x (s.1 1) ∧ px_ix y (s.1 1) ∧ s.1 6 ≠ 150 ∧ 0 ≤ d ∧ d ≤ 8388608 ∧ ¬ mm_rch s 0 (px_tn y) (px_tn x) := by
  unfold kc_arc at h
  by_cases h1 : px_ix x (s.1 1)
  · rw [if_neg (fun z => z h1)] at h
    by_cases h2 : px_ix y (s.1 1)
    · rw [if_neg (fun z => z h2)] at h
      by_cases h3 : s.1 6 = 150
      · rw [if_pos h3] at h; omega
      · rw [if_neg h3] at h
        by_cases h4 : 0 ≤ d ∧ d ≤ 8388608
        · rw [if_neg (fun z => z h4)] at h
          refine ⟨h1, h2, h3, h4.1, h4.2, fun z => ?_⟩
          rw [px_ch_1 z] at h; omega
        · rw [if_pos h4] at h; omega
    · rw [if_pos h2] at h; omega
  · rw [if_pos h1] at h; omega
set_option maxRecDepth 100000 in
set_option maxHeartbeats 8000000 in
theorem me_arc (s : mm_S) (X : px_M) (ok : mm_ok s) (x y : Int32) (d : Int) (hd : d.natAbs ≤ 2 ^ 32) : px_Met 1 0 0 mX5_arc [.inr (1, 0), .inl (.int x), .inl (.int y), .inl (.double (dz d))] (mm_M s X) (mq X (kc_arc s x y d) (nI (s.1 6)) (nx_arc s x y d)) := by
  have hp := ok.1.1
  have h6 := ok.1.2.1
  refine px_ofW (by decide) W_mX5_arc (Nat.le_of_ble_eq_true rfl) ?_
  -- refused before the circle is looked for
  have bad : ∀ c, 0 < c → c < 4 → kc_arc s x y d = c → px_W 1 0 0 mX5_arc (mq X (kc_arc s x y d) (nI (s.1 6)) (nx_arc s x y d)) 48 [(0, .inr (1, 0)), (1, .inl (.int x)), (2, .inl (.int y)), (3, .inl (.double (dz d)))] [.inl (.int (nI c)), .inr (1, 0)] (mm_M s X) 0 0 := by
    intro c c0 c4 hc
    refine mm_put dX5_arc_48 F_RX5_81 nf_5_0 (by decide) (by first | exact ⟨rfl, rfl⟩ | decide) ?_
    refine px_aload_n dX5_arc_51 rfl trivial ?_
    refine mm_gets dX5_arc_52 F_RX5_81 (by decide) (by (try simp only [mr_In, mr_Ie, mr_A1, mr_D1, mr_R1, mr_T1, ne_eq, Nat.reduceEqDiff, not_false_eq_true]); rfl) ?_
    refine pn_if_le (tgt := 60) dX5_arc_55 (by decide) (pn_lez (by omega)) (fun h => ?_) (fun h => ?_)
    · omega
    · refine px_iconst (v := nI 0) dX5_arc_58 (by decide) ?_
      refine px_iret dX5_arc_59 rfl ?_ (by omega) (by omega)
      exact ⟨_, _, rfl, rfl, hc.symm ▸ mr_Ie, by unfold nx_arc; rw [if_neg (by omega)]; exact (mm_nq.rf s).I0 c, fun z => by omega⟩
  have good : px_ix x (s.1 1) → px_ix y (s.1 1) → s.1 6 ≠ 150 → 0 ≤ d ∧ d ≤ 8388608 → px_W 1 0 0 mX5_arc (mq X (kc_arc s x y d) (nI (s.1 6)) (nx_arc s x y d)) 47 [(0, .inr (1, 0)), (1, .inl (.int x)), (2, .inl (.int y)), (3, .inl (.double (dz d)))] [.inr (1, 0)] (mm_M s X) 0 0 := by
    intro hx hy hn hdd
    obtain ⟨e1, e2⟩ := px_ix_tn hx
    obtain ⟨e3, e4⟩ := px_ix_tn hy
    have kc : kc_arc s x y d = 3 * px_ch (mm_rch s 0 (px_tn y) (px_tn x)) := by
      unfold kc_arc
      rw [if_neg (fun z => z hx), if_neg (fun z => z hy), if_neg hn, if_neg (fun z => z hdd)]
    have tn : mm_nq s (mm_I s 0 0) := (mm_nq.rf s).I0 0
    have hsp := me_spread (mm_I s 0 0) X (ok.nq tn) (px_tn y) 0 (by omega) (by omega)
    rw [← e3] at hsp
    refine px_iconst (v := nI 0) dX5_arc_47 (by decide) ?_
    refine mm_put dX5_arc_48 F_RX5_81 nf_5_0 (by decide) (by first | exact ⟨rfl, rfl⟩ | decide) ?_
    refine px_aload_n dX5_arc_51 rfl trivial ?_
    refine mm_gets dX5_arc_52 F_RX5_81 (by decide) (by (try simp only [mr_In, mr_Ie, mr_A1, mr_D1, mr_R1, mr_T1, ne_eq, Nat.reduceEqDiff, not_false_eq_true]); rfl) ?_
    refine pn_if_le (tgt := 60) dX5_arc_55 (by decide) (pn_lez (by omega)) (fun h => ?_) (fun h => ?_)
    · refine px_aload_n dX5_arc_60 rfl trivial ?_
      refine px_iload_n dX5_arc_61 rfl ?_
      refine px_iconst (v := -1) dX5_arc_62 (by decide) ?_
      refine px_callV (hsp) dX5_arc_63 L_RX5_107 (mm_rcv _ _) rfl rfl (by decide) (by omega) (by omega) (Nat.le_of_ble_eq_true rfl) (fun v9 M9 hq => ?_) (fun E9 M9 hq => ?_)
      · obtain ⟨h0, f, rfl, hf⟩ := hq
        cases h0
        have tn2 : mm_nq s (mm_R (mm_I s 0 0) 26 f) := tn.R (by decide) f
        have hfx := hf (px_tn x) (by omega)
        have hfc : f (px_tn x) = px_ch (mm_rch s 0 (px_tn y) (px_tn x)) := px_ch_of hfx.1 (hfx.2.trans (mm_rch.nq tn 0 _ _))
        have ef : (mm_R (mm_I s 0 0) 26 f).2.1 26 = f := mr_Re _ _ _
        generalize mm_R (mm_I s 0 0) 26 f = t at tn2 ef ⊢
        have t6 := tn2.1 6 (by decide)
        have et : t.2.1 26 (px_tn x) = f (px_tn x) := by rw [ef]
        refine px_aload_n dX5_arc_66 rfl trivial ?_
        refine px_aload_n dX5_arc_67 rfl trivial ?_
        refine mm_get dX5_arc_68 F_RX5_65 rfl ?_
        refine px_iload_n dX5_arc_71 rfl ?_
        refine mm_ald_z dX5_arc_72 rfl e1 rfl (by omega) ?_
        rw [et]
        refine pn_if_eq (tgt := 80) dX5_arc_73 (by decide) (pn_z (by omega)) (fun h2 => ?_) (fun h2 => ?_)
        · have c0 : kc_arc s x y d = 0 := by rw [kc, ← hfc, h2]
          refine px_iconst (v := nI 0) dX5_arc_80 (by decide) ?_
          refine mm_put dX5_arc_81 F_RX5_81 nf_5_0 (by decide) (by first | exact ⟨rfl, rfl⟩ | decide) ?_
          refine px_aload_n dX5_arc_84 rfl trivial ?_
          refine mm_gets dX5_arc_85 F_RX5_81 (by decide) (by (try simp only [mr_In, mr_Ie, mr_A1, mr_D1, mr_R1, mr_T1, ne_eq, Nat.reduceEqDiff, not_false_eq_true]); rfl) ?_
          refine pn_if_le (tgt := 93) dX5_arc_88 (by decide) (pn_lez (by omega)) (fun h3 => ?_) (fun h3 => ?_)
          · refine px_aload_n dX5_arc_93 rfl trivial ?_
            refine mm_get dX5_arc_94 F_RX5_13 rfl ?_
            refine px_aload_n dX5_arc_97 rfl trivial ?_
            refine mm_gets dX5_arc_98 F_RX5_96 (by decide) (by (try simp only [mr_In, mr_Ie, mr_A1, mr_D1, mr_R1, mr_T1, ne_eq, Nat.reduceEqDiff, not_false_eq_true]); rfl) ?_
            refine px_iload_n dX5_arc_101 rfl ?_
            refine mm_ast dX5_arc_102 rfl (by first | rfl | assumption) (by first | rfl | assumption) (by first | assumption | omega) ?_
            refine px_aload_n dX5_arc_103 rfl trivial ?_
            refine mm_get dX5_arc_104 F_RX5_16 rfl ?_
            refine px_aload_n dX5_arc_107 rfl trivial ?_
            refine mm_gets dX5_arc_108 F_RX5_96 (by decide) (by (try simp only [mr_In, mr_Ie, mr_A1, mr_D1, mr_R1, mr_T1, ne_eq, Nat.reduceEqDiff, not_false_eq_true]); rfl) ?_
            refine px_iload_n dX5_arc_111 rfl ?_
            refine mm_ast dX5_arc_112 rfl (by first | rfl | assumption) (by first | rfl | assumption) (by first | assumption | omega) ?_
            refine px_aload_n dX5_arc_113 rfl trivial ?_
            refine mm_get dX5_arc_114 F_RX5_19 rfl ?_
            refine px_aload_n dX5_arc_117 rfl trivial ?_
            refine mm_gets dX5_arc_118 F_RX5_96 (by decide) (by (try simp only [mr_In, mr_Ie, mr_A1, mr_D1, mr_R1, mr_T1, ne_eq, Nat.reduceEqDiff, not_false_eq_true]); rfl) ?_
            refine px_dload_n dX5_arc_121 rfl ?_
            refine pn_dconst0 dX5_arc_122 ?_
            refine pn_dadd dX5_arc_123 (by omega) (by omega) (by first | exact Int.add_zero _ | rfl) ?_
            refine mm_ast_d dX5_arc_124 rfl (by first | rfl | assumption) (by first | rfl | assumption) (by first | assumption | omega) ?_
            refine px_aload_n dX5_arc_125 rfl trivial ?_
            refine px_dup dX5_arc_126 rfl ?_
            refine mm_gets dX5_arc_127 F_RX5_96 (by decide) (by (try simp only [mr_In, mr_Ie, mr_A1, mr_D1, mr_R1, mr_T1, ne_eq, Nat.reduceEqDiff, not_false_eq_true]); rfl) ?_
            refine px_iconst (v := nI 1) dX5_arc_130 (by decide) ?_
            refine pn_iadd dX5_arc_131 (by first | exact nI_add _ _ | rfl) ?_
            refine mm_put dX5_arc_132 F_RX5_96 nf_5_6 (by decide) (by first | exact ⟨rfl, rfl⟩ | decide) ?_
            refine px_aload_n dX5_arc_135 rfl trivial ?_
            refine px_iconst (v := nI 0) dX5_arc_136 (by decide) ?_
            refine mm_put dX5_arc_137 F_RX5_92 nf_5_25 (by decide) (by first | exact ⟨rfl, rfl⟩ | decide) ?_
            refine px_aload_n dX5_arc_140 rfl trivial ?_
            refine mm_gets dX5_arc_141 F_RX5_96 (by decide) (by (try simp only [mr_In, mr_Ie, mr_A1, mr_D1, mr_R1, mr_T1, ne_eq, Nat.reduceEqDiff, not_false_eq_true]); rfl) ?_
            refine px_iconst (v := nI 1) dX5_arc_144 (by decide) ?_
            refine pn_isub dX5_arc_145 (by first | exact pk_sub (by omega) | rfl) ?_
            refine px_iret dX5_arc_146 rfl ?_ (by omega) (by omega)
            refine ⟨_, _, rfl, rfl, c0.symm ▸ ?_, ?_, fun _ => ?_⟩
            · exact (mr_In (by decide)).trans ((mr_In (by decide)).trans (show (mm_I t 0 0).1 0 = 0 from mr_Ie))
            · unfold nx_arc
              rw [if_pos c0, ← t6]
              exact mm_nq.I (mm_nq.I (mm_nq.D (mm_nq.A (mm_nq.A (tn2.I0 0) (by decide) _ _) (by decide) _ _) (by decide) _ _) _ _) _ _
            · rw [← t6]; rfl
          · exact absurd h3 (by decide)
        · have c3 : kc_arc s x y d = 3 := by rw [kc, ← hfc]; omega
          refine px_iconst (v := nI 3) dX5_arc_76 (by decide) ?_
          refine px_goto (tgt := 81) dX5_arc_77 (by decide) ?_
          refine mm_put dX5_arc_81 F_RX5_81 nf_5_0 (by decide) (by first | exact ⟨rfl, rfl⟩ | decide) ?_
          refine px_aload_n dX5_arc_84 rfl trivial ?_
          refine mm_gets dX5_arc_85 F_RX5_81 (by decide) (by (try simp only [mr_In, mr_Ie, mr_A1, mr_D1, mr_R1, mr_T1, ne_eq, Nat.reduceEqDiff, not_false_eq_true]); rfl) ?_
          refine pn_if_le (tgt := 93) dX5_arc_88 (by decide) (pn_lez (by omega)) (fun h3 => ?_) (fun h3 => ?_)
          · exact absurd h3 (by decide)
          · refine px_iconst (v := nI 0) dX5_arc_91 (by decide) ?_
            refine px_iret dX5_arc_92 rfl ?_ (by omega) (by omega)
            exact ⟨_, _, rfl, rfl, c3.symm ▸ mr_Ie, by unfold nx_arc; rw [if_neg (by omega)]; exact tn2.I0 3, fun z => by omega⟩
      · exact absurd hq.1 (fun z => by cases z)
    · exact absurd rfl h
  refine px_aload_n dX5_arc_0 rfl trivial ?_
  refine px_aload_n dX5_arc_1 rfl trivial ?_
  refine px_iload_n dX5_arc_2 rfl ?_
  refine px_callVr ((me_isPin s X x hp)) dX5_arc_3 L_RX5_99 (mm_rcv _ _) rfl rfl (by decide) (by omega) (by omega) (Nat.le_of_ble_eq_true rfl) ?_
  refine pn_if_eq (tgt := 17) dX5_arc_6 (by decide) (px_bi_0 _) (fun h => ?_) (fun h => ?_)
  · refine px_iconst (v := nI 1) dX5_arc_17 (by decide) ?_
    refine px_goto (tgt := 48) dX5_arc_18 (by decide) ?_
    exact px_sub (bad 1 (by decide) (by decide) (if_pos h)) rfl
  · have hx := Decidable.of_not_not h
    refine px_aload_n dX5_arc_9 rfl trivial ?_
    refine px_iload_n dX5_arc_10 rfl ?_
    refine px_callVr ((me_isPin s X y hp)) dX5_arc_11 L_RX5_99 (mm_rcv _ _) rfl rfl (by decide) (by omega) (by omega) (Nat.le_of_ble_eq_true rfl) ?_
    refine pn_if_ne (tgt := 21) dX5_arc_14 (by decide) (px_bi_0 _) (fun h2 => ?_) (fun h2 => ?_)
    · have hy := Decidable.of_not_not h2
      refine px_aload_n dX5_arc_21 rfl trivial ?_
      refine mm_gets dX5_arc_22 F_RX5_96 (by decide) (by (try simp only [mr_In, mr_Ie, mr_A1, mr_D1, mr_R1, mr_T1, ne_eq, Nat.reduceEqDiff, not_false_eq_true]); rfl) ?_
      refine px_sipush (v := nI 150) dX5_arc_25 (by decide) ?_
      refine pn_icmp_ne (tgt := 35) dX5_arc_28 (by decide) (nI_eq (by omega) (by omega)) (fun h3 => ?_) (fun h3 => ?_)
      · refine px_dload_n dX5_arc_35 rfl ?_
        refine pn_dconst0 dX5_arc_36 ?_
        refine px_callSr ((me_isTime _ d 0 (by omega) (by omega))) dX5_arc_37 L_RX5_103 rfl rfl (by decide) (by omega) (by omega) (Nat.le_of_ble_eq_true rfl) ?_
        refine pn_if_ne (tgt := 47) dX5_arc_40 (by decide) (px_bi_0 _) (fun h4 => ?_) (fun h4 => ?_)
        · exact px_sub (good hx hy h3 (Decidable.of_not_not h4)) rfl
        · refine px_iconst (v := nI 3) dX5_arc_43 (by decide) ?_
          refine px_goto (tgt := 48) dX5_arc_44 (by decide) ?_
          refine px_sub (bad 3 (by decide) (by decide) ?_) rfl
          unfold kc_arc
          rw [if_neg h, if_neg h2, if_neg h3, if_pos h4]
      · refine px_iconst (v := nI 2) dX5_arc_31 (by decide) ?_
        refine px_goto (tgt := 48) dX5_arc_32 (by decide) ?_
        refine px_sub (bad 2 (by decide) (by decide) ?_) rfl
        unfold kc_arc
        rw [if_neg h, if_neg h2, if_pos h3]
    · refine px_iconst (v := nI 1) dX5_arc_17 (by decide) ?_
      refine px_goto (tgt := 48) dX5_arc_18 (by decide) ?_
      refine px_sub (bad 1 (by decide) (by decide) ?_) rfl
      unfold kc_arc
      rw [if_neg h, if_pos h2]
