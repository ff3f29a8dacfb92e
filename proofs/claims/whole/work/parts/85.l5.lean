/-! ===== the law's other cases: run, reduced, back ===== -/
theorem kc_run1 {x : Int32} (h : kc_run x ≠ 0) : kc_run x = 1 := by
  unfold kc_run at h ⊢
  split
  · rename_i z; rw [if_pos z] at h; exact absurd rfl h
  · rfl
theorem mm_rdv.uq {s : mm_S} {b p q : Nat} {v w : Int} (h : mm_rdv s b p q v) (g : mm_rdv s b p q w) : v = w := by
  by_cases hr : mm_red s b p q
  · obtain ⟨⟨as, a1, a2⟩, a3⟩ := h.1 hr
    obtain ⟨⟨bs, b1, b2⟩, b3⟩ := g.1 hr
    have h1 := a3 bs b1
    have h2 := b3 as a1
    omega
  · rw [h.2 hr, g.2 hr]
set_option maxRecDepth 100000 in
set_option maxHeartbeats 8000000 in
theorem lc_run {G0 : px_G} {Q : px_Q} {s : mm_S} {u : cc_U} {X : px_M} (hJ : lJ s u X) {i k n : Nat} (hi : i + 4 ≤ px_gL G0) (hL : px_gL G0 ≤ 2048) (hk : k + 70 ≤ 601024) (hn : n + 8000 ≤ 7293034) (K : ∀ s' u' X', lJ s' u' X' → pg_W G0 12 601024 7293034 mL_law Q 1173 (lB G0 i) [] (mm_M s' (cc_M u' X')) (k + 70) (n + 8000)) (lv : List (Nat × px_V)) : pg_W G0 12 601024 7293034 mL_law Q 485 (lB G0 i ++ lv) [] (mm_M s (cc_M u X)) k n := by
  obtain ⟨ok, hu, hX, h9⟩ := id hJ
  refine pg_aload_n dL_law_485 rfl trivial ?_
  refine pg_aload_n dL_law_486 rfl trivial ?_
  refine pg_iload dL_law_487 rfl ?_
  refine pg_iconst (v := nI 1) dL_law_489 (by decide) ?_
  refine pgn_iadd dL_law_490 (by first | exact nI_add _ _ | rfl) ?_
  refine pg_xldN dL_law_491 rfl (by omega) (by omega) ?_
  refine pg_aload_n dL_law_492 rfl trivial ?_
  rw [lW_c]
  refine pg_callH (ch_run (P := fun c v u' => c = kc_run (px_gx G0 (i + 1)) ∧ c ≤ 3 ∧ (c ≠ 0 → cok s u') ∧ (c = 0 → ∃ O Z, cRl (mm_I s 25 1) u' O ∧ mm_sp s (px_tn (px_gx G0 (i + 1))) Z ∧ cwv s u' Z ∧ v = (nI Z.length).toInt64)) _ hu.o0 (h15m hX) (ce_run (c9m h9) ok hu _) (fun v M1 hq => ?_) (fun E M1 hq => ?_)) dL_law_493 L_RL_97 rfl rfl (by decide) (by omega) (by omega) (Nat.le_of_ble_eq_true rfl) (fun v M1 hq => ?_) (fun E M1 hq => ?_)
  · obtain ⟨u1, e2, h1, h2⟩ := hq
    by_cases e : kc_run (px_gx G0 (i + 1)) = 0
    · obtain ⟨O, Z, z1, z2, z3, z4, z5⟩ := h2 e
      injection z5 with z5
      exact ⟨_, u1, z5, e2, e.symm, Nat.zero_le _, fun z => absurd rfl z, fun _ => ⟨O, Z, z1, z2, z3, rfl⟩⟩
    · have := (h1 e).1
      cases this
  · obtain ⟨u1, e2, h1, h2⟩ := hq
    by_cases e : kc_run (px_gx G0 (i + 1)) = 0
    · obtain ⟨O, Z, z1, z2, z3, z4, z5⟩ := h2 e
      cases z5
    · obtain ⟨z1, z2⟩ := h1 e
      injection z1 with z1
      exact ⟨0, u1, e2, by rw [z1]; rfl, fun z => ⟨(kc_run1 e).symm, by omega, fun _ => z2, fun w => by omega⟩⟩
  · obtain ⟨c, u1, f, rfl, e, hkc, hc3, hcok, hcv⟩ := hq
    cases e
    rw [lW_b]
    obtain ⟨hX1, h91⟩ := lX_l hX h9 f
    have hf := px_up_s X (15, 0) (.inr (.inl (3, 1, .inr (.inl f))))
    generalize px_up X (15, 0) (.inr (.inl (3, 1, .inr (.inl f)))) = X1 at hX1 h91 hf ⊢
    refine pg_istore dL_law_496 (by decide) ?_
    refine pg_aload_n dL_law_498 rfl trivial ?_
    refine pg_aload_n dL_law_499 rfl trivial ?_
    refine pg_iload dL_law_500 rfl ?_
    refine pg_iconst (v := nI 1) dL_law_502 (by decide) ?_
    refine pgn_iadd dL_law_503 (by first | exact nI_add _ _ | rfl) ?_
    refine pg_xldN dL_law_504 rfl (by omega) (by omega) ?_
    refine pg_callV (me_run s _ ok _) dL_law_505 L_RL_100 (mm_rcv _ _) rfl rfl (by decide) (by omega) (by omega) (Nat.le_of_ble_eq_true rfl) (fun v M1 hq => ?_) (fun E M1 hq => ?_)
    · obtain ⟨w, s1, e, rfl, g1, g2, g3⟩ := hq
      cases e
      have hJ1 : lJ s1 u1 X1 := by
        by_cases c0 : c = 0
        · obtain ⟨O, Z, z1, z2, z3, z4⟩ := hcv c0
          obtain ⟨r1, Z', r2, r3, r4⟩ := g3 (by omega)
          have eZ := z2.uq r3
          subst eZ
          exact ⟨ok_run ok r1 (by rw [r4.1]; exact r4.2.1), cok_run z1 z3 r1 r4, hX1, h91⟩
        · have q := g2 (by omega)
          exact ⟨mm_ok.nq ok q, (hcok c0).nq q, hX1, h91⟩
      have hcw : c = 0 → f 0 = w.toInt64 := fun c0 => by
        obtain ⟨O, Z, z1, z2, z3, z4⟩ := hcv c0
        obtain ⟨r1, Z', r2, r3, r4⟩ := g3 (by omega)
        have eZ := z2.uq r3
        subst eZ
        rw [z4, r2]
      refine pg_istore dL_law_508 (by decide) ?_
      refine pg_aload_n dL_law_510 rfl trivial ?_
      refine pg_callVr (me_thrown s1 _) dL_law_511 L_RL_77 (mm_rcv _ _) rfl rfl (by decide) (by omega) (by omega) (Nat.le_of_ble_eq_true rfl) ?_
      rw [g1, ← hkc]
      refine pg_iload dL_law_514 rfl ?_
      refine pgn_icmp_eq (tgt := 521) dL_law_516 (by decide) (Iff.rfl) (fun g4 => ?_) (fun g4 => ?_)
      · have KK := K s1 u1 X1 hJ1
        refine pg_iload dL_law_521 rfl ?_
        refine pgn_if_ne (tgt := 538) dL_law_523 (by decide) (pn_z (by omega)) (fun g5 => ?_) (fun g5 => ?_)
        · refine pg_goto (tgt := 1173) dL_law_538 (by decide) ?_
          exact pg_sub KK rfl
        · have c0 : c = 0 := by omega
          have e5 := hcw c0
          refine pg_aload_n dL_law_526 rfl trivial ?_
          refine pg_iconst (v := nI 0) dL_law_527 (by decide) ?_
          refine pg_ald_l (j := 0) dL_law_528 (lW_15 hf) rfl (by decide) (by decide) ?_
          refine pg_iload dL_law_529 rfl ?_
          refine pg_i2l dL_law_531 ?_
          rw [e5]
          refine pg_lcmp dL_law_532 ?_
          rw [lg_self]
          refine pgn_if_eq (tgt := 538) dL_law_533 (by decide) (Iff.rfl) (fun g6 => ?_) (fun g6 => ?_)
          · refine pg_goto (tgt := 1173) dL_law_538 (by decide) ?_
            exact pg_sub KK rfl
          · exact absurd rfl g6
      · exact absurd rfl g4
    · obtain ⟨_, _, e, _⟩ := hq
      cases e
  · obtain ⟨_, _, _, _, e, _⟩ := hq
    cases e
set_option maxRecDepth 100000 in
set_option maxHeartbeats 8000000 in
theorem lc_reduced {G0 : px_G} {Q : px_Q} {s : mm_S} {u : cc_U} {X : px_M} (hJ : lJ s u X) {i k n : Nat} (hi : i + 4 ≤ px_gL G0) (hL : px_gL G0 ≤ 2048) (hk : k + 70 ≤ 601024) (hn : n + 8000 ≤ 7293034) (K : ∀ s' u' X', lJ s' u' X' → pg_W G0 12 601024 7293034 mL_law Q 1173 (lB G0 i) [] (mm_M s' (cc_M u' X')) (k + 70) (n + 8000)) (lv : List (Nat × px_V)) : pg_W G0 12 601024 7293034 mL_law Q 885 (lB G0 i ++ lv) [] (mm_M s (cc_M u X)) k n := by
  obtain ⟨ok, hu, hX, h9⟩ := id hJ
  refine pg_aload_n dL_law_885 rfl trivial ?_
  refine pg_aload_n dL_law_886 rfl trivial ?_
  refine pg_iload dL_law_887 rfl ?_
  refine pg_iconst (v := nI 1) dL_law_889 (by decide) ?_
  refine pgn_iadd dL_law_890 (by first | exact nI_add _ _ | rfl) ?_
  refine pg_xldN dL_law_891 rfl (by omega) (by omega) ?_
  refine pg_aload_n dL_law_892 rfl trivial ?_
  refine pg_iload dL_law_893 rfl ?_
  refine pg_iconst (v := nI 2) dL_law_895 (by decide) ?_
  refine pgn_iadd dL_law_896 (by first | exact nI_add _ _ | rfl) ?_
  refine pg_xldN dL_law_897 rfl (by omega) (by omega) ?_
  refine pg_aload_n dL_law_898 rfl trivial ?_
  refine pg_iload dL_law_899 rfl ?_
  refine pg_iconst (v := nI 3) dL_law_901 (by decide) ?_
  refine pgn_iadd dL_law_902 (by first | exact nI_add _ _ | rfl) ?_
  refine pg_xldN dL_law_903 rfl (by omega) (by omega) ?_
  refine pg_aload dL_law_904 rfl trivial ?_
  rw [lW_c]
  refine pg_callH (ch_reduced (P := fun c v u' => c = kc_reduced s (px_gx G0 (i + 1)) (px_gx G0 (i + 2)) (px_gx G0 (i + 3)) ∧ c ≤ 3 ∧ cok s u' ∧ (c = 0 → ∃ z, mm_rdv s (px_oc (px_gx G0 (i + 1))) (px_tn (px_gx G0 (i + 2))) (px_tn (px_gx G0 (i + 3))) z ∧ v = dz z)) _ _ _ hu.o0 (h15m hX) (ce_reduced (c9m h9) ok hu _ _ _) (fun v M1 hq => ?_) (fun E M1 hq => ?_)) dL_law_906 L_RL_117 rfl rfl (by decide) (by omega) (by omega) (Nat.le_of_ble_eq_true rfl) (fun v M1 hq => ?_) (fun E M1 hq => ?_)
  · obtain ⟨z, hz, hq⟩ := hq
    obtain ⟨e0, e1, u1, e2, hc⟩ := hq.N
    exact ⟨_, u1, e1, e2, e0.symm, Nat.zero_le _, hc, fun _ => ⟨z, (hz e0).1, rfl⟩⟩
  · obtain ⟨z, hz, hq⟩ := hq
    obtain ⟨j, e0, e1, u1, e2, hc⟩ := hq.E
    have hl := (List.getElem?_eq_some_iff.mp e1).1
    exact ⟨j, u1, e2, e1, fun z => ⟨e0.symm, by simp at hl; omega, hc, fun z => by omega⟩⟩
  · obtain ⟨c, u1, f, rfl, e, hkc, hc3, hcok, hcv⟩ := hq
    cases e
    rw [lW_b]
    obtain ⟨hX1, h91⟩ := lX_d hX h9 f
    have hf := px_up_s X (15, 1) (.inr (.inl (1, 1, .inr (.inr (.inl f)))))
    generalize px_up X (15, 1) (.inr (.inl (1, 1, .inr (.inr (.inl f))))) = X1 at hX1 h91 hf ⊢
    refine pg_istore dL_law_909 (by decide) ?_
    refine pg_aload_n dL_law_911 rfl trivial ?_
    refine pg_aload_n dL_law_912 rfl trivial ?_
    refine pg_iload dL_law_913 rfl ?_
    refine pg_iconst (v := nI 1) dL_law_915 (by decide) ?_
    refine pgn_iadd dL_law_916 (by first | exact nI_add _ _ | rfl) ?_
    refine pg_xldN dL_law_917 rfl (by omega) (by omega) ?_
    refine pg_aload_n dL_law_918 rfl trivial ?_
    refine pg_iload dL_law_919 rfl ?_
    refine pg_iconst (v := nI 2) dL_law_921 (by decide) ?_
    refine pgn_iadd dL_law_922 (by first | exact nI_add _ _ | rfl) ?_
    refine pg_xldN dL_law_923 rfl (by omega) (by omega) ?_
    refine pg_aload_n dL_law_924 rfl trivial ?_
    refine pg_iload dL_law_925 rfl ?_
    refine pg_iconst (v := nI 3) dL_law_927 (by decide) ?_
    refine pgn_iadd dL_law_928 (by first | exact nI_add _ _ | rfl) ?_
    refine pg_xldN dL_law_929 rfl (by omega) (by omega) ?_
    refine pg_callV (me_reduced s _ ok _ _ _) dL_law_930 L_RL_120 (mm_rcv _ _) rfl rfl (by decide) (by omega) (by omega) (Nat.le_of_ble_eq_true rfl) (fun v M1 hq => ?_) (fun E M1 hq => ?_)
    · obtain ⟨v', hv', w, s1, e, rfl, g1, g2, g3⟩ := hq
      cases e
      have hcw : c = 0 → f 0 = w := fun c0 => by
        obtain ⟨z, z1, z2⟩ := hcv c0
        have e9 := z1.uq (hv' (by omega))
        rw [z2, g3 (by omega), e9]
      refine pg_dstore dL_law_933 (by decide) ?_
      refine pg_aload_n dL_law_935 rfl trivial ?_
      refine pg_callVr (me_thrown s1 _) dL_law_936 L_RL_77 (mm_rcv _ _) rfl rfl (by decide) (by omega) (by omega) (Nat.le_of_ble_eq_true rfl) ?_
      rw [g1, ← hkc]
      refine pg_iload dL_law_939 rfl ?_
      refine pgn_icmp_eq (tgt := 946) dL_law_941 (by decide) (Iff.rfl) (fun g4 => ?_) (fun g4 => ?_)
      · have KK := K s1 u1 X1 ⟨mm_ok.nq ok g2, hcok.nq g2, hX1, h91⟩
        refine pg_iload dL_law_946 rfl ?_
        refine pgn_if_ne (tgt := 983) dL_law_948 (by decide) (pn_z (by omega)) (fun g5 => ?_) (fun g5 => ?_)
        · refine pg_goto (tgt := 1173) dL_law_983 (by decide) ?_
          exact pg_sub KK rfl
        · have c0 : c = 0 := by omega
          have e5 := hcw c0
          refine pg_aload dL_law_951 rfl trivial ?_
          refine pg_iconst (v := nI 0) dL_law_953 (by decide) ?_
          refine pg_ald_d (j := 0) dL_law_954 (lW_15 hf) rfl (by decide) (by decide) ?_
          rw [e5]
          refine pg_dload dL_law_955 rfl ?_
          refine pg_dcmp dL_law_957 ?_
          refine pgn_if_eq (tgt := 983) dL_law_958 (by decide) (Iff.rfl) (fun g6 => ?_) (fun g6 => ?_)
          · refine pg_goto (tgt := 1173) dL_law_983 (by decide) ?_
            exact pg_sub KK rfl
          · refine pg_aload dL_law_961 rfl trivial ?_
            refine pg_iconst (v := nI 0) dL_law_963 (by decide) ?_
            refine pg_ald_d (j := 0) dL_law_964 (lW_15 hf) rfl (by decide) (by decide) ?_
            refine pg_aload dL_law_965 rfl trivial ?_
            refine pg_iconst (v := nI 0) dL_law_967 (by decide) ?_
            refine pg_ald_d (j := 0) dL_law_968 (lW_15 hf) rfl (by decide) (by decide) ?_
            rw [e5]
            refine pg_dcmp dL_law_969 ?_
            refine pgn_if_eq (tgt := 981) dL_law_970 (by decide) (Iff.rfl) (fun g7 => ?_) (fun g7 => ?_)
            · exact absurd g7 g6
            · refine pg_dload dL_law_973 rfl ?_
              refine pg_dload dL_law_975 rfl ?_
              refine pg_dcmp dL_law_977 ?_
              refine pgn_if_ne (tgt := 983) dL_law_978 (by decide) (Iff.rfl) (fun g8 => ?_) (fun g8 => ?_)
              · refine pg_goto (tgt := 1173) dL_law_983 (by decide) ?_
                exact pg_sub KK rfl
              · exact absurd g8 g6
      · exact absurd rfl g4
    · obtain ⟨_, _, _, _, e, _⟩ := hq
      cases e
  · obtain ⟨_, _, _, _, e, _⟩ := hq
    cases e
set_option maxRecDepth 100000 in
set_option maxHeartbeats 8000000 in
theorem lc_back {G0 : px_G} {Q : px_Q} {s : mm_S} {u : cc_U} {X : px_M} (hJ : lJ s u X) {i k n : Nat} (hk : k + 70 ≤ 601024) (hn : n + 8000 ≤ 7293034) (K : ∀ s' u' X', lJ s' u' X' → pg_W G0 12 601024 7293034 mL_law Q 1173 (lB G0 i) [] (mm_M s' (cc_M u' X')) (k + 70) (n + 8000)) (lv : List (Nat × px_V)) : pg_W G0 12 601024 7293034 mL_law Q 1160 (lB G0 i ++ lv) [] (mm_M s (cc_M u X)) k n := by
  obtain ⟨ok, hu, hX, h9⟩ := id hJ
  refine pg_aload_n dL_law_1160 rfl trivial ?_
  rw [lW_c]
  refine pg_callV (ce_back (c9m h9) ok hu) dL_law_1161 L_RL_128 (cc_rc4 hu.o0) rfl rfl (by decide) (by omega) (by omega) (Nat.le_of_ble_eq_true rfl) (fun v M1 hq => ?_) (fun E M1 hq => ?_)
  · obtain ⟨-, rfl, u1, rfl, hc⟩ := hq.N
    rw [← lW_c]
    refine pg_aload_n dL_law_1164 rfl trivial ?_
    refine pg_callV (me_back s _ ok) dL_law_1165 L_RL_132 (mm_rcv _ _) rfl rfl (by decide) (by omega) (by omega) (Nat.le_of_ble_eq_true rfl) (fun v M1 hq => ?_) (fun E M1 hq => ?_)
    · obtain ⟨w, s1, e, rfl, g1, g2, g3⟩ := hq
      cases e
      rw [g3 rfl]
      refine pgn_icmp_eq (tgt := 1173) dL_law_1168 (by decide) (Iff.rfl) (fun g4 => ?_) (fun g4 => ?_)
      · exact pg_sub (K s1 u1 X ⟨mm_ok.nq (ok_back ok) g2, hc.nq g2, hX, h9⟩) rfl
      · exact absurd rfl g4
    · obtain ⟨_, _, e, _⟩ := hq
      cases e
  · obtain ⟨j, e0, e1, -⟩ := hq.E
    cases e1
