/-! ===== budget ===== -/
set_option maxRecDepth 100000 in
set_option maxHeartbeats 8000000 in
theorem ce_budget {s : mm_S} {u : cc_U} {X : px_M} (hX : c9 X) (ok : mm_ok s) (h : cok s u) {Z : List mm_P} (hZ : s.1 25 ≠ 0 → mm_vis s Z ∧ cwv s u Z) (x y : Int32) : px_Met 9 70 8000 mX4_budget [.inr (14, 0), .inl (.int x), .inl (.int y)] (cc_M u X) (cqo X [cB, cI] (kc_budget s x y) (.inl (.double (vr_budget s (px_oc x) (mm_zd Z y)))) s) := by
  refine px_ofW (by decide) W_mX4_budget (Nat.le_of_ble_eq_true rfl) ?_
  obtain ⟨⟨O, hR⟩, hW⟩ := id h
  have hbd := ok.h1
  have h0 := hR.obj (i := 0) (by decide)
  have e25 := hR.2.2.2.2.2.1.2
  have hp60 := hR.2.2.1.1 60 (Or.inr (Or.inl rfl))
  obtain ⟨p2, p7, p8, p9, p10, p11, p12, p13, p14⟩ := id hp60
  refine px_aload_n dX4_budget_0 rfl trivial ?_
  by_cases hl : s.1 25 = 0
  · refine px_callVx (ce_lsdN h0 (by rw [e25]; exact hl)) dX4_budget_1 L_RX4_154 (cc_rc4 h0) rfl rfl (by decide) (by omega) (by omega) (Nat.le_of_ble_eq_true rfl) rfl ?_
    exact cqo.no (k := 0) h (by unfold kc_budget; rw [if_pos hl]) rfl
  obtain ⟨hv, hw⟩ := hZ hl
  have hlen := hw.len
  have h24 := hv.1
  have h320 := hv.2.1
  refine px_callVv (ce_lsd h0 (by rw [e25]; omega) (by rw [e25]; exact hl)) dX4_budget_1 L_RX4_154 (cc_rc4 (by first | assumption | (simp only [cxN, cxZ, cxS, cxL, cxR]; assumption))) rfl rfl (by decide) (by omega) (by omega) (Nat.le_of_ble_eq_true rfl) ?_
  refine px_iload_n dX4_budget_4 rfl ?_
  refine px_bipush (v := nI 8) dX4_budget_5 (by decide) ?_
  by_cases hx : px_ix x 8
  · refine px_callSv (ce_chk (n := 8) (by decide) hx) dX4_budget_7 L_RX4_84 rfl rfl (by decide) (by omega) (by omega) (Nat.le_of_ble_eq_true rfl) ?_
    refine px_iload_n dX4_budget_10 rfl ?_
    refine px_aload_n dX4_budget_11 rfl trivial ?_
    refine px_getf dX4_budget_12 F_RX4_40 (cc_obj (by first | assumption | (simp only [cxN, cxZ, cxS, cxL, cxR]; assumption))) (by rfl) ?_
    refine px_getf dX4_budget_15 F_RX4_60 (cc_pin (by first | assumption | (simp only [cxN, cxZ, cxS, cxL, cxR]; assumption))) (by rfl) ?_
    refine px_getf dX4_budget_18 F_RX4_64 (cc_ways (by first | assumption | (simp only [cxN, cxZ, cxS, cxL, cxR]; assumption))) (by rfl) ?_
    rw [cn_def, hlen]
    by_cases hy : px_ix y Z.length
    · refine px_callSv (ce_chk (n := Z.length) (by omega) hy) dX4_budget_21 L_RX4_84 rfl rfl (by decide) (by omega) (by omega) (Nat.le_of_ble_eq_true rfl) ?_
      have hk : kc_budget s x y = 0 := by unfold kc_budget; rw [if_neg hl, if_neg (fun z => z hx), if_neg (fun z => z (by rw [h24]; exact hy))]
      rw [hk]
      obtain ⟨hg, hpq, -⟩ := hv.get (x := y) (by rw [h24]; exact hy)
      obtain ⟨f1, f2, f3, f4, f5⟩ := hw.fol hR ok hg
      obtain ⟨e1, e2⟩ := px_ix_tn hy
      obtain ⟨b1, b2, b3⟩ := px_oc_ix hx
      obtain ⟨q1, q2, q3, q4, ⟨o1, o2, o3, o4⟩⟩ := hpq
      have hz1 : (mm_zd Z y).1.natAbs ≤ 2 ^ 41 := by
        have := ok.2.2.2.1 _ f4
        have o4 : (s.2.2 11 (mm_zd Z y).2.2.2 - (mm_zd Z y).1).natAbs ≤ 2 ^ 40 := o4
        omega
      have o5 : (mm_zd Z y).2.2.1.length ≤ 64 := o2
      clear o1 o2 o3 o4 q1 q2 q3 q4
      generalize mm_zd Z y = z at hg f1 f2 f3 f4 f5 o5 hz1 ⊢
      generalize px_tn y = j at e1 e2 hg f1 f5
      subst e1
      generalize px_oc x = b at b1 b2 b3 ⊢
      subst b1
      have hj : j < cc_wl 60 := by show j < 320; omega
      have fin : ∀ lv8 : List (Nat × px_V), px_W 9 70 8000 mX4_budget (cqo X [cB, cI] 0 (.inl (.double (vr_budget s b z))) s) 105 ([(0, .inr (14, 0)), (1, .inl (.int (px_o b))), (2, .inl (.int (nI j))), (3, .inl (.double (dz (mm_ln s z.2.2.1.reverse)))), (5, .inl (.double (dz (mm_own s b z.2.2.1.reverse))))] ++ lv8) [] (cc_M u X) 3 18 := by
        intro lv8
        have ha : ∀ a ∈ z.2.2.1.reverse, a < s.1 6 := fun a hm => f3 a (List.mem_reverse.mp hm)
        have hb1 := mm_own_bd ok b _ ha
        have hb2 := mm_ln_bd ok _ ha
        have hlt : z.2.2.1.reverse.length ≤ 64 := by rw [List.length_reverse]; exact o5
        have hv : vr_budget s b z = (if mm_ln s z.2.2.1.reverse = 0 then dz 0 else FP.ddiv (FP.dmul (dz z.1) (dz (mm_own s b z.2.2.1.reverse))) (dz (mm_ln s z.2.2.1.reverse))) := rfl
        refine px_dload_n dX4_budget_105 rfl ?_
        refine pn_dconst0 dX4_budget_106 ?_
        refine pn_dcmp dX4_budget_107 rfl rfl (by omega) (by omega) ?_
        refine pn_if_le (tgt := 131) dX4_budget_108 (by decide) (dz_c_le _ _) (fun g4 => ?_) (fun g4 => ?_)
        · rw [if_pos (by omega)] at hv
          rw [hv]
          refine pn_dconst0 dX4_budget_131 ?_
          exact px_dret dX4_budget_132 rfl (cqo.ok h rfl) (by omega) (by omega)
        · have g5 : ¬ mm_ln s z.2.2.1.reverse = 0 := by omega
          rw [if_neg g5] at hv
          rw [hv]
          refine px_aload_n dX4_budget_111 rfl trivial ?_
          refine px_getf dX4_budget_112 F_RX4_40 (cc_obj (by first | assumption | (simp only [cxN, cxZ, cxS, cxL, cxR]; assumption))) (by rfl) ?_
          refine px_getf dX4_budget_115 F_RX4_60 (cc_pin (by first | assumption | (simp only [cxN, cxZ, cxS, cxL, cxR]; assumption))) (by rfl) ?_
          refine px_getf dX4_budget_118 F_RX4_157 (cc_ways (by first | assumption | (simp only [cxN, cxZ, cxS, cxL, cxR]; assumption))) (by rfl) ?_
          refine px_iload_n dX4_budget_121 rfl ?_
          refine ca_left dX4_budget_122 (by first | assumption | (simp only [cxN, cxZ, cxS, cxL, cxR]; assumption)) (by first | rfl | assumption) (by first | assumption | omega) ?_
          rw [f5]
          refine px_dload dX4_budget_123 rfl ?_
          refine px_dmul dX4_budget_125 rfl (dz_num (dz_mul_num _ _ (by omega) (by omega))) ?_
          refine px_dload_n dX4_budget_126 rfl ?_
          refine px_ddiv dX4_budget_127 rfl (dz_div_vf (dz_mul_num _ _ (by omega) (by omega)) (by omega) g5) ?_
          refine px_goto (tgt := 132) dX4_budget_128 (by decide) ?_
          exact px_dret dX4_budget_132 rfl (cqo.ok h rfl) (by omega) (by omega)
      have loop : ∀ (m i : Nat) (lv8 : List (Nat × px_V)), i + m = z.2.2.1.length → px_W 9 70 8000 mX4_budget (cqo X [cB, cI] 0 (.inl (.double (vr_budget s b z))) s) 32 ([(0, .inr (14, 0)), (1, .inl (.int (px_o b))), (2, .inl (.int (nI j))), (3, .inl (.double (dz (mm_ln s (z.2.2.1.reverse.take i))))), (5, .inl (.double (dz (mm_own s b (z.2.2.1.reverse.take i))))), (7, .inl (.int (nI (i + 1))))] ++ lv8) [] (cc_M u X) 3 18 := by
        intro m
        induction m with
        | zero =>
          intro i lv8 hi
          have hi : i = z.2.2.1.length := hi
          subst hi
          have et : z.2.2.1.reverse.take z.2.2.1.length = z.2.2.1.reverse := List.take_of_length_le (by rw [List.length_reverse]; exact Nat.le_refl _)
          rw [et]
          have hs : (cSq z)[z.2.2.1.length + 1]? = some (300 + z.2.2.2) := by
            show (z.2.2.1.reverse ++ [300 + z.2.2.2])[z.2.2.1.length]? = _
            rw [List.getElem?_append_right (by rw [List.length_reverse]; exact Nat.le_refl _), List.length_reverse, Nat.sub_self]; rfl
          obtain ⟨-, -, t2, -, -⟩ := hR.2.2.2.1.2.2.2 _ f4
          have kn : cx u 3 (300 + z.2.2.2) := (hR.2.2.2.1.1 _).mpr (Or.inr (Or.inr (by omega)))
          generalize 300 + z.2.2.2 = n at hs t2 kn
          refine px_iload dX4_budget_32 rfl ?_
          refine px_sipush (v := nI 150) dX4_budget_34 (by decide) ?_
          refine pn_icmp_gt (tgt := 105) dX4_budget_37 (by decide) (nI_ltI (by omega) (by omega)) (fun g1 => ?_) (fun g1 => ?_)
          · omega
          · refine px_aload_n dX4_budget_40 rfl trivial ?_
            refine px_iload_n dX4_budget_41 rfl ?_
            refine px_iload dX4_budget_42 rfl ?_
            refine px_callVr (ce_stepOf h0 hp60 (hR.ws ok) (w := j) (by omega) (nI (z.2.2.1.length + 1))) dX4_budget_44 L_RX4_161 (cc_rc4 (by first | assumption | (simp only [cxN, cxZ, cxS, cxL, cxR]; assumption))) rfl rfl (by decide) (by omega) (by omega) (Nat.le_of_ble_eq_true rfl) ?_
            rw [nI_toInt (by omega), nI_tn (by omega), if_pos (by omega), f1, hs]
            refine px_astore dX4_budget_47 (by decide) trivial ?_
            refine px_aload (v := .inr (3, n)) dX4_budget_49 rfl trivial ?_
            refine px_ifnull (o := some (3, n)) (tgt := 105) dX4_budget_51 (by decide) (fun g => by cases g) (fun r g => ?_)
            refine px_aload (v := .inr (3, n)) dX4_budget_54 rfl trivial ?_
            refine px_getf dX4_budget_56 F_RX4_191 (cc_step (by first | assumption | (simp only [cxN, cxZ, cxS, cxL, cxR]; assumption))) (by rfl) ?_
            refine px_aload_n dX4_budget_59 rfl trivial ?_
            refine px_getf dX4_budget_60 F_RX4_44 (cc_obj (by first | assumption | (simp only [cxN, cxZ, cxS, cxL, cxR]; assumption))) (by rfl) ?_
            refine px_acmp_ne (tgt := 69) dX4_budget_63 (by decide) (fun g5 => ?_) (fun g5 => ?_)
            · exact absurd (show ((2, cn u 3 n 2) : px_R) = (2, 61) by rw [t2]) g5
            · refine px_goto (tgt := 105) dX4_budget_66 (by decide) ?_
              exact px_sub (fin [(7, .inl (.int (nI (z.2.2.1.length + 1)))), (8, .inr (3, n))]) rfl
        | succ m ih =>
          intro i lv8 hi
          have hm : ∀ a ∈ z.2.2.1.reverse.take i, a < s.1 6 := fun a hm => f3 a (List.mem_reverse.mp (List.mem_of_mem_take hm))
          have hb1 := mm_own_bd ok b _ hm
          have hb2 := mm_ln_bd ok _ hm
          have hlt : (z.2.2.1.reverse.take i).length ≤ 64 := by rw [List.length_take, List.length_reverse]; omega
          obtain ⟨n, hn⟩ : ∃ n, z.2.2.1.reverse[i]? = some n := ⟨_, List.getElem?_eq_getElem (by rw [List.length_reverse]; omega)⟩
          have hs : (cSq z)[i + 1]? = some n := by
            show (z.2.2.1.reverse ++ [300 + z.2.2.2])[i]? = _
            rw [List.getElem?_append_left (by rw [List.length_reverse]; omega)]; exact hn
          have hna := f3 n (List.mem_reverse.mp (List.mem_of_getElem? hn))
          obtain ⟨-, -, t2, t3⟩ := hR.2.2.2.1.2.1 _ hna
          have kn : cx u 3 n := (hR.2.2.2.1.1 _).mpr (Or.inl hna)
          obtain ⟨d1, d2, d3, d4⟩ := ok.2.1 n hna
          have kp := (hR.2.2.1.1 _ (Or.inl d2)).1
          have kb := hR.2.2.1.2.2.1 _ d2
          have c4 := ok.2.2.2.2.2.1 _ d2
          have hto : mm_own s b (z.2.2.1.reverse.take (i + 1)) = mm_own s b (z.2.2.1.reverse.take i) + (if s.2.1 2 (s.2.1 4 n) = b then s.2.2 5 n else 0) := by
            rw [List.take_succ, hn, mm_own_ap]
            show _ + ((if s.2.1 2 (s.2.1 4 n) = b then s.2.2 5 n else 0) + 0) = _
            omega
          have hta : mm_ln s (z.2.2.1.reverse.take (i + 1)) = mm_ln s (z.2.2.1.reverse.take i) + s.2.2 5 n := by
            rw [List.take_succ, hn, mm_ln_ap]
            show _ + (s.2.2 5 n + 0) = _
            omega
          have rest : ∀ (v : Int), mm_own s b (z.2.2.1.reverse.take (i + 1)) = v → px_W 9 70 8000 mX4_budget (cqo X [cB, cI] 0 (.inl (.double (vr_budget s b z))) s) 99 [(0, .inr (14, 0)), (1, .inl (.int (px_o b))), (2, .inl (.int (nI j))), (3, .inl (.double (dz (mm_ln s (z.2.2.1.reverse.take i) + s.2.2 5 n)))), (5, .inl (.double (dz v))), (7, .inl (.int (nI (i + 1))))] [] (cc_M u X) 3 18 := by
            intro v hv
            rw [← hv, ← hta]
            refine px_iinc dX4_budget_99 rfl (pn_i1 _) (by decide) ?_
            refine px_goto (tgt := 32) dX4_budget_102 (by decide) ?_
            exact px_sub (ih (i + 1) [] (by omega)) rfl
          refine px_iload dX4_budget_32 rfl ?_
          refine px_sipush (v := nI 150) dX4_budget_34 (by decide) ?_
          refine pn_icmp_gt (tgt := 105) dX4_budget_37 (by decide) (nI_ltI (by omega) (by omega)) (fun g1 => ?_) (fun g1 => ?_)
          · omega
          · refine px_aload_n dX4_budget_40 rfl trivial ?_
            refine px_iload_n dX4_budget_41 rfl ?_
            refine px_iload dX4_budget_42 rfl ?_
            refine px_callVr (ce_stepOf h0 hp60 (hR.ws ok) (w := j) (by omega) (nI (i + 1))) dX4_budget_44 L_RX4_161 (cc_rc4 (by first | assumption | (simp only [cxN, cxZ, cxS, cxL, cxR]; assumption))) rfl rfl (by decide) (by omega) (by omega) (Nat.le_of_ble_eq_true rfl) ?_
            rw [nI_toInt (by omega), nI_tn (by omega), if_pos (by omega), f1, hs]
            refine px_astore dX4_budget_47 (by decide) trivial ?_
            refine px_aload (v := .inr (3, n)) dX4_budget_49 rfl trivial ?_
            refine px_ifnull (o := some (3, n)) (tgt := 105) dX4_budget_51 (by decide) (fun g => by cases g) (fun r g => ?_)
            refine px_aload (v := .inr (3, n)) dX4_budget_54 rfl trivial ?_
            refine px_getf dX4_budget_56 F_RX4_191 (cc_step (by first | assumption | (simp only [cxN, cxZ, cxS, cxL, cxR]; assumption))) (by rfl) ?_
            refine px_aload_n dX4_budget_59 rfl trivial ?_
            refine px_getf dX4_budget_60 F_RX4_44 (cc_obj (by first | assumption | (simp only [cxN, cxZ, cxS, cxL, cxR]; assumption))) (by rfl) ?_
            refine px_acmp_ne (tgt := 69) dX4_budget_63 (by decide) (fun g5 => ?_) (fun g5 => ?_)
            · refine px_dload_n dX4_budget_69 rfl ?_
              refine px_aload (v := .inr (3, n)) dX4_budget_70 rfl trivial ?_
              refine px_getf dX4_budget_72 F_RX4_194 (cc_step (by first | assumption | (simp only [cxN, cxZ, cxS, cxL, cxR]; assumption))) (by rfl) ?_
              rw [cz_def, t3]
              refine pn_dadd dX4_budget_75 (by omega) (by omega) (by first | exact Int.add_zero _ | rfl) ?_
              refine px_dstore_n dX4_budget_76 (by decide) ?_
              refine px_aload (v := .inr (3, n)) dX4_budget_77 rfl trivial ?_
              refine px_getf dX4_budget_79 F_RX4_191 (cc_step (by first | assumption | (simp only [cxN, cxZ, cxS, cxL, cxR]; assumption))) (by rfl) ?_
              rw [cn_def, t2]
              refine px_getf dX4_budget_82 F_RX4_183 (cc_pin (by first | assumption | (simp only [cxN, cxZ, cxS, cxL, cxR]; assumption))) (by rfl) ?_
              rw [cn_def, kb]
              refine px_iload_n dX4_budget_85 rfl ?_
              refine pn_icmp_ne (tgt := 99) dX4_budget_86 (by decide) (px_o_eq (by omega) (by omega)) (fun g6 => ?_) (fun g6 => ?_)
              · exact px_sub (rest _ (by rw [hto, if_neg g6, Int.add_zero])) rfl
              · refine px_dload dX4_budget_89 rfl ?_
                refine px_aload (v := .inr (3, n)) dX4_budget_91 rfl trivial ?_
                refine px_getf dX4_budget_93 F_RX4_194 (cc_step (by first | assumption | (simp only [cxN, cxZ, cxS, cxL, cxR]; assumption))) (by rfl) ?_
                rw [cz_def, t3]
                refine pn_dadd dX4_budget_96 (by omega) (by omega) (by first | exact Int.add_zero _ | rfl) ?_
                refine px_dstore dX4_budget_97 (by decide) ?_
                exact px_sub (rest _ (by rw [hto, if_pos g6])) rfl
            · exact absurd (congrArg Prod.snd g5) (by show ¬ cn u 3 n 2 = 61; omega)
      refine pn_dconst0 dX4_budget_24 ?_
      refine px_dstore_n dX4_budget_25 (by decide) ?_
      refine pn_dconst0 dX4_budget_26 ?_
      refine px_dstore dX4_budget_27 (by decide) ?_
      refine px_iconst (v := nI 1) dX4_budget_29 (by decide) ?_
      refine px_istore dX4_budget_30 (by decide) ?_
      exact px_sub (loop z.2.2.1.length 0 [] (by omega)) rfl
    · refine px_callSx (ce_chkN (by omega) hy) dX4_budget_21 L_RX4_84 rfl rfl (by decide) (by omega) (by omega) (Nat.le_of_ble_eq_true rfl) rfl ?_
      exact cqo.no (k := 1) h (by unfold kc_budget; rw [if_neg hl, if_neg (fun z => z hx), if_pos (fun z => hy (by rw [h24] at z; exact z))]) rfl
  · refine px_callSx (ce_chkN (n := 8) (by decide) hx) dX4_budget_7 L_RX4_84 rfl rfl (by decide) (by omega) (by omega) (Nat.le_of_ble_eq_true rfl) rfl ?_
    exact cqo.no (k := 1) h (by unfold kc_budget; rw [if_neg hl, if_pos hx]) rfl
