set_option maxRecDepth 100000 in
set_option maxHeartbeats 8000000 in
theorem lc_slack {G0 : px_G} {Q : px_Q} {s : mm_S} {u : cc_U} {X : px_M} (hJ : lJ s u X) {Z : List mm_P} (hZ : s.1 25 ≠ 0 → mm_vis s Z ∧ cwv s u Z) {i k n : Nat} (hi : i + 4 ≤ px_gL G0) (hL : px_gL G0 ≤ 2048) (hk : k + 70 ≤ 601024) (hn : n + 8000 ≤ 7293034) (K : ∀ s' u' X', lJ s' u' X' → pg_W G0 12 601024 7293034 mL_law Q 1173 (lB G0 i) [] (mm_M s' (cc_M u' X')) (k + 70) (n + 8000)) (lv : List (Nat × px_V)) : pg_W G0 12 601024 7293034 mL_law Q 541 (lB G0 i ++ lv) [] (mm_M s (cc_M u X)) k n := by
  obtain ⟨ok, hu, hX, h9⟩ := id hJ
  refine pg_aload_n dL_law_541 rfl trivial ?_
  refine pg_aload_n dL_law_542 rfl trivial ?_
  refine pg_iload dL_law_543 rfl ?_
  refine pg_iconst (v := nI 1) dL_law_545 (by decide) ?_
  refine pgn_iadd dL_law_546 (by first | exact nI_add _ _ | rfl) ?_
  refine pg_xldN dL_law_547 rfl (by omega) (by omega) ?_
  refine pg_aload dL_law_548 rfl trivial ?_
  rw [lW_c]
  refine pg_callH (ch_slack (P := lPd (s) (kc_fault s (px_gx G0 (i + 1))) (dz (mm_zd Z (px_gx G0 (i + 1))).1)) _ hu.o0 (h15m hX) (ce_slack (c9m h9) ok hu hZ _) (fun v M1 hq => ?_) (fun E M1 hq => ?_)) dL_law_550 L_RL_101 rfl rfl (by decide) (by omega) (by omega) (Nat.le_of_ble_eq_true rfl) (fun v M1 hq => ?_) (fun E M1 hq => ?_)
  · obtain ⟨e0, e1, u1, e2, hc⟩ := hq.N
    exact ⟨_, u1, e1, e2, e0.symm, Nat.zero_le _, hc, fun _ => rfl⟩
  · obtain ⟨j, e0, e1, u1, e2, hc⟩ := hq.E
    have hl := (List.getElem?_eq_some_iff.mp e1).1
    exact ⟨j, u1, e2, e1, fun z => ⟨e0.symm, by simp at hl; omega, hc, fun z => by omega⟩⟩
  · obtain ⟨c, u1, f, rfl, e, hkc, hc3, hcok, hcv⟩ := hq
    cases e
    rw [lW_b]
    obtain ⟨hX1, h91⟩ := lX_d hX h9 f
    have hf := px_up_s X (15, 1) (.inr (.inl (1, 1, .inr (.inr (.inl f)))))
    generalize px_up X (15, 1) (.inr (.inl (1, 1, .inr (.inr (.inl f))))) = X1 at hX1 h91 hf ⊢
    refine pg_istore dL_law_553 (by decide) ?_
    refine pg_aload_n dL_law_555 rfl trivial ?_
    refine pg_aload_n dL_law_556 rfl trivial ?_
    refine pg_iload dL_law_557 rfl ?_
    refine pg_iconst (v := nI 1) dL_law_559 (by decide) ?_
    refine pgn_iadd dL_law_560 (by first | exact nI_add _ _ | rfl) ?_
    refine pg_xldN dL_law_561 rfl (by omega) (by omega) ?_
    refine pg_callV (me_slack s _ ok Z (fun z => (hZ z).1) _) dL_law_562 L_RL_104 (mm_rcv _ _) rfl rfl (by decide) (by omega) (by omega) (Nat.le_of_ble_eq_true rfl) (fun v M1 hq => ?_) (fun E M1 hq => ?_)
    · obtain ⟨w, s1, e, rfl, g1, g2, g3⟩ := hq
      cases e
      refine pg_dstore dL_law_565 (by decide) ?_
      refine pg_aload_n dL_law_567 rfl trivial ?_
      refine pg_callVr (me_thrown s1 _) dL_law_568 L_RL_77 (mm_rcv _ _) rfl rfl (by decide) (by omega) (by omega) (Nat.le_of_ble_eq_true rfl) ?_
      rw [g1, ← hkc]
      refine pg_iload dL_law_571 rfl ?_
      refine pgn_icmp_eq (tgt := 578) dL_law_573 (by decide) (Iff.rfl) (fun g4 => ?_) (fun g4 => ?_)
      · have KK := K s1 u1 X1 ⟨mm_ok.nq ok g2, hcok.nq g2, hX1, h91⟩
        refine pg_iload dL_law_578 rfl ?_
        refine pgn_if_ne (tgt := 615) dL_law_580 (by decide) (pn_z (by omega)) (fun g5 => ?_) (fun g5 => ?_)
        · refine pg_goto (tgt := 1173) dL_law_615 (by decide) ?_
          exact pg_sub KK rfl
        · have c0 : c = 0 := by omega
          have e5 := hcv c0
          have e6 := g3 (by omega)
          refine pg_aload dL_law_583 rfl trivial ?_
          refine pg_iconst (v := nI 0) dL_law_585 (by decide) ?_
          refine pg_ald_d (j := 0) dL_law_586 (lW_15 hf) rfl (by decide) (by decide) ?_
          rw [e5, ← e6]
          refine pg_dload dL_law_587 rfl ?_
          refine pg_dcmp dL_law_589 ?_
          refine pgn_if_eq (tgt := 615) dL_law_590 (by decide) (Iff.rfl) (fun g6 => ?_) (fun g6 => ?_)
          · refine pg_goto (tgt := 1173) dL_law_615 (by decide) ?_
            exact pg_sub KK rfl
          · refine pg_aload dL_law_593 rfl trivial ?_
            refine pg_iconst (v := nI 0) dL_law_595 (by decide) ?_
            refine pg_ald_d (j := 0) dL_law_596 (lW_15 hf) rfl (by decide) (by decide) ?_
            refine pg_aload dL_law_597 rfl trivial ?_
            refine pg_iconst (v := nI 0) dL_law_599 (by decide) ?_
            refine pg_ald_d (j := 0) dL_law_600 (lW_15 hf) rfl (by decide) (by decide) ?_
            rw [e5, ← e6]
            refine pg_dcmp dL_law_601 ?_
            refine pgn_if_eq (tgt := 613) dL_law_602 (by decide) (Iff.rfl) (fun g7 => ?_) (fun g7 => ?_)
            · exact absurd g7 g6
            · refine pg_dload dL_law_605 rfl ?_
              refine pg_dload dL_law_607 rfl ?_
              refine pg_dcmp dL_law_609 ?_
              refine pgn_if_ne (tgt := 615) dL_law_610 (by decide) (Iff.rfl) (fun g8 => ?_) (fun g8 => ?_)
              · refine pg_goto (tgt := 1173) dL_law_615 (by decide) ?_
                exact pg_sub KK rfl
              · exact absurd g8 g6
      · exact absurd rfl g4
    · obtain ⟨_, _, e, _⟩ := hq
      cases e
  · obtain ⟨_, _, _, _, e, _⟩ := hq
    cases e
set_option maxRecDepth 100000 in
set_option maxHeartbeats 8000000 in
theorem lc_budget {G0 : px_G} {Q : px_Q} {s : mm_S} {u : cc_U} {X : px_M} (hJ : lJ s u X) {Z : List mm_P} (hZ : s.1 25 ≠ 0 → mm_vis s Z ∧ cwv s u Z) {i k n : Nat} (hi : i + 4 ≤ px_gL G0) (hL : px_gL G0 ≤ 2048) (hk : k + 70 ≤ 601024) (hn : n + 8000 ≤ 7293034) (K : ∀ s' u' X', lJ s' u' X' → pg_W G0 12 601024 7293034 mL_law Q 1173 (lB G0 i) [] (mm_M s' (cc_M u' X')) (k + 70) (n + 8000)) (lv : List (Nat × px_V)) : pg_W G0 12 601024 7293034 mL_law Q 986 (lB G0 i ++ lv) [] (mm_M s (cc_M u X)) k n := by
  obtain ⟨ok, hu, hX, h9⟩ := id hJ
  refine pg_aload_n dL_law_986 rfl trivial ?_
  refine pg_aload_n dL_law_987 rfl trivial ?_
  refine pg_iload dL_law_988 rfl ?_
  refine pg_iconst (v := nI 1) dL_law_990 (by decide) ?_
  refine pgn_iadd dL_law_991 (by first | exact nI_add _ _ | rfl) ?_
  refine pg_xldN dL_law_992 rfl (by omega) (by omega) ?_
  refine pg_aload_n dL_law_993 rfl trivial ?_
  refine pg_iload dL_law_994 rfl ?_
  refine pg_iconst (v := nI 2) dL_law_996 (by decide) ?_
  refine pgn_iadd dL_law_997 (by first | exact nI_add _ _ | rfl) ?_
  refine pg_xldN dL_law_998 rfl (by omega) (by omega) ?_
  refine pg_aload dL_law_999 rfl trivial ?_
  rw [lW_c]
  refine pg_callH (ch_budget (P := lPd (s) (kc_budget s (px_gx G0 (i + 1)) (px_gx G0 (i + 2))) (vr_budget s (px_oc (px_gx G0 (i + 1))) (mm_zd Z (px_gx G0 (i + 2))))) _ _ hu.o0 (h15m hX) (ce_budget (c9m h9) ok hu hZ _ _) (fun v M1 hq => ?_) (fun E M1 hq => ?_)) dL_law_1001 L_RL_121 rfl rfl (by decide) (by omega) (by omega) (Nat.le_of_ble_eq_true rfl) (fun v M1 hq => ?_) (fun E M1 hq => ?_)
  · obtain ⟨e0, e1, u1, e2, hc⟩ := hq.N
    exact ⟨_, u1, e1, e2, e0.symm, Nat.zero_le _, hc, fun _ => rfl⟩
  · obtain ⟨j, e0, e1, u1, e2, hc⟩ := hq.E
    have hl := (List.getElem?_eq_some_iff.mp e1).1
    exact ⟨j, u1, e2, e1, fun z => ⟨e0.symm, by simp at hl; omega, hc, fun z => by omega⟩⟩
  · obtain ⟨c, u1, f, rfl, e, hkc, hc3, hcok, hcv⟩ := hq
    cases e
    rw [lW_b]
    obtain ⟨hX1, h91⟩ := lX_d hX h9 f
    have hf := px_up_s X (15, 1) (.inr (.inl (1, 1, .inr (.inr (.inl f)))))
    generalize px_up X (15, 1) (.inr (.inl (1, 1, .inr (.inr (.inl f))))) = X1 at hX1 h91 hf ⊢
    refine pg_istore dL_law_1004 (by decide) ?_
    refine pg_aload_n dL_law_1006 rfl trivial ?_
    refine pg_aload_n dL_law_1007 rfl trivial ?_
    refine pg_iload dL_law_1008 rfl ?_
    refine pg_iconst (v := nI 1) dL_law_1010 (by decide) ?_
    refine pgn_iadd dL_law_1011 (by first | exact nI_add _ _ | rfl) ?_
    refine pg_xldN dL_law_1012 rfl (by omega) (by omega) ?_
    refine pg_aload_n dL_law_1013 rfl trivial ?_
    refine pg_iload dL_law_1014 rfl ?_
    refine pg_iconst (v := nI 2) dL_law_1016 (by decide) ?_
    refine pgn_iadd dL_law_1017 (by first | exact nI_add _ _ | rfl) ?_
    refine pg_xldN dL_law_1018 rfl (by omega) (by omega) ?_
    refine pg_callV (me_budget s _ ok Z (fun z => (hZ z).1) (fun z => cwv_arcs hu (hZ z).2 ok) _ _) dL_law_1019 L_RL_124 (mm_rcv _ _) rfl rfl (by decide) (by omega) (by omega) (Nat.le_of_ble_eq_true rfl) (fun v M1 hq => ?_) (fun E M1 hq => ?_)
    · obtain ⟨w, s1, e, rfl, g1, g2, g3⟩ := hq
      cases e
      refine pg_dstore dL_law_1022 (by decide) ?_
      refine pg_aload_n dL_law_1024 rfl trivial ?_
      refine pg_callVr (me_thrown s1 _) dL_law_1025 L_RL_77 (mm_rcv _ _) rfl rfl (by decide) (by omega) (by omega) (Nat.le_of_ble_eq_true rfl) ?_
      rw [g1, ← hkc]
      refine pg_iload dL_law_1028 rfl ?_
      refine pgn_icmp_eq (tgt := 1035) dL_law_1030 (by decide) (Iff.rfl) (fun g4 => ?_) (fun g4 => ?_)
      · have KK := K s1 u1 X1 ⟨mm_ok.nq ok g2, hcok.nq g2, hX1, h91⟩
        refine pg_iload dL_law_1035 rfl ?_
        refine pgn_if_ne (tgt := 1072) dL_law_1037 (by decide) (pn_z (by omega)) (fun g5 => ?_) (fun g5 => ?_)
        · refine pg_goto (tgt := 1173) dL_law_1072 (by decide) ?_
          exact pg_sub KK rfl
        · have c0 : c = 0 := by omega
          have e5 := hcv c0
          have e6 := g3 (by omega)
          refine pg_aload dL_law_1040 rfl trivial ?_
          refine pg_iconst (v := nI 0) dL_law_1042 (by decide) ?_
          refine pg_ald_d (j := 0) dL_law_1043 (lW_15 hf) rfl (by decide) (by decide) ?_
          rw [e5, ← e6]
          refine pg_dload dL_law_1044 rfl ?_
          refine pg_dcmp dL_law_1046 ?_
          refine pgn_if_eq (tgt := 1072) dL_law_1047 (by decide) (Iff.rfl) (fun g6 => ?_) (fun g6 => ?_)
          · refine pg_goto (tgt := 1173) dL_law_1072 (by decide) ?_
            exact pg_sub KK rfl
          · refine pg_aload dL_law_1050 rfl trivial ?_
            refine pg_iconst (v := nI 0) dL_law_1052 (by decide) ?_
            refine pg_ald_d (j := 0) dL_law_1053 (lW_15 hf) rfl (by decide) (by decide) ?_
            refine pg_aload dL_law_1054 rfl trivial ?_
            refine pg_iconst (v := nI 0) dL_law_1056 (by decide) ?_
            refine pg_ald_d (j := 0) dL_law_1057 (lW_15 hf) rfl (by decide) (by decide) ?_
            rw [e5, ← e6]
            refine pg_dcmp dL_law_1058 ?_
            refine pgn_if_eq (tgt := 1070) dL_law_1059 (by decide) (Iff.rfl) (fun g7 => ?_) (fun g7 => ?_)
            · exact absurd g7 g6
            · refine pg_dload dL_law_1062 rfl ?_
              refine pg_dload dL_law_1064 rfl ?_
              refine pg_dcmp dL_law_1066 ?_
              refine pgn_if_ne (tgt := 1072) dL_law_1067 (by decide) (Iff.rfl) (fun g8 => ?_) (fun g8 => ?_)
              · refine pg_goto (tgt := 1173) dL_law_1072 (by decide) ?_
                exact pg_sub KK rfl
              · exact absurd g8 g6
      · exact absurd rfl g4
    · obtain ⟨_, _, e, _⟩ := hq
      cases e
  · obtain ⟨_, _, _, _, e, _⟩ := hq
    cases e
