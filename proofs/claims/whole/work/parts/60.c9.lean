/-! ===== through, into, group ===== -/
theorem cn_def (u : cc_U) (k i j : Nat) : (u k i).1 j = cn u k i j := rfl
theorem cz_def (u : cc_U) (k i j : Nat) : (u k i).2.1 j = cz u k i j := rfl
theorem mm_ok.h1 {s : mm_S} (ok : mm_ok s) : s.1 1 ≤ 60 ∧ s.1 6 ≤ 150 ∧ s.1 9 ≤ 30 ∧ s.1 13 ≤ 30 ∧ s.1 17 ≤ 50 ∧ s.1 25 ≤ 1 := ⟨ok.1.1, ok.1.2.1, ok.1.2.2.1, ok.1.2.2.2.1, ok.1.2.2.2.2.1, ok.1.2.2.2.2.2.1⟩
theorem cRl.pl {s : mm_S} {u : cc_U} {O : List Nat} (h : cRl s u O) : (cl u 14 1).length = s.1 1 := by rw [h.1.2.1, List.length_map, List.length_range]
theorem kc_through0 {s : mm_S} {x o : Int32} (h1 : x ≠ -1 → px_ix x (s.1 1)) (h2 : px_ix o 10) : kc_through s x o = 0 := by
  unfold kc_through
  rw [if_neg (fun z => z.2 (h1 z.1)), if_neg (fun z => z h2)]
set_option maxRecDepth 100000 in
set_option maxHeartbeats 4000000 in
theorem ce_through {s : mm_S} {u : cc_U} {X : px_M} (hX : c9 X) (ok : mm_ok s) (h : cok s u) (x o : Int32) : px_Met 9 70 8000 mX4_through [.inr (14, 0), .inl (.int x), .inl (.int o)] (cc_M u X) (cqo X [cI, cA] (kc_through s x o) (.inl (.int (nI (va_through s x o)))) (nx_through s x o)) := by
  refine px_ofW (by decide) W_mX4_through (Nat.le_of_ble_eq_true rfl) ?_
  obtain ⟨⟨O, hR⟩, hW⟩ := id h
  have hb := ok.h1
  have h0 := hR.obj (i := 0) (by decide)
  have h1 := hR.obj (i := 1) (by decide)
  have h7 := hR.obj (i := 7) (by decide)
  have tail : ∀ k n, k ≤ 1 → n ≤ 6 → (x ≠ -1 → px_ix x (s.1 1)) → px_W 9 70 8000 mX4_through (cqo X [cI, cA] (kc_through s x o) (.inl (.int (nI (va_through s x o)))) (nx_through s x o)) 16 [(0, .inr (14, 0)), (1, .inl (.int x)), (2, .inl (.int o))] [] (cc_M u X) k n := by
    intro k n hk hn hx
    have no : ¬ px_ix o 10 → px_W 9 70 8000 mX4_through (cqo X [cI, cA] (kc_through s x o) (.inl (.int (nI (va_through s x o)))) (nx_through s x o)) 26 [(0, .inr (14, 0)), (1, .inl (.int x)), (2, .inl (.int o))] [] (cc_M u X) k n := fun hno => by
      have e : kc_through s x o = 2 := by
        unfold kc_through
        rw [if_neg (fun z => z.2 (hx z.1)), if_pos hno]
      refine px_throw (text := "no such order") cT_97 rfl rfl (by decide) dX4_through_26 dX4_through_29 dX4_through_30 dX4_through_32 dX4_through_35 (Nat.le_of_ble_eq_true rfl) ?_ (by omega) (by omega)
      refine cqo.no (k := 1) ?_ e rfl
      unfold nx_through
      rw [if_neg (fun z => by have := z.1; omega)]
      exact h
    refine px_iload_n dX4_through_16 rfl ?_
    refine pn_if_lt (tgt := 26) dX4_through_17 (by decide) (px_lt0 _) (fun g1 => ?_) (fun g1 => ?_)
    · exact px_sub (no fun z => by have := z.1; omega) rfl
    refine px_iload_n dX4_through_20 rfl ?_
    refine px_bipush (v := nI 10) dX4_through_21 (by decide) ?_
    refine pn_icmp_lt (tgt := 36) dX4_through_23 (by decide) (px_ltN _ (by decide)) (fun g2 => ?_) (fun g2 => ?_)
    · have ho : px_ix o 10 := ⟨by omega, g2⟩
      have e := kc_through0 hx ho
      obtain ⟨eo1, eo2⟩ := px_ix_tn ho
      obtain ⟨ex1, ex2⟩ := px_oc_o hx
      have et := hR.2.2.2.2.2.1.1 (px_tn o) eo2
      have hbt := ok.2.2.2.2.1 (px_tn o) eo2
      unfold va_through nx_through
      rw [e]
      generalize px_tn o = j at eo1 eo2 et hbt
      subst eo1
      generalize px_oc x = c at ex1 ex2
      subst ex1
      refine px_aload_n dX4_through_36 rfl trivial ?_
      refine px_getf dX4_through_37 F_RX4_31 (cc_obj (by first | assumption | (simp only [cxN, cxZ, cxS, cxL, cxR]; assumption))) (by rfl) ?_
      refine px_iload_n dX4_through_40 rfl ?_
      refine ca_thr dX4_through_41 (by first | assumption | (simp only [cxN, cxZ, cxS, cxL, cxR]; assumption)) (by first | rfl | assumption) (by first | assumption | omega) ?_
      refine px_iload_n dX4_through_42 rfl ?_
      rw [et]
      refine pn_icmp_ne (tgt := 48) dX4_through_43 (by decide) (px_o_eq (by omega) (by omega)) (fun g3 => ?_) (fun g3 => ?_)
      · rw [if_neg g3, if_pos ⟨rfl, g3⟩]
        refine px_aload_n dX4_through_48 rfl trivial ?_
        refine px_getf dX4_through_49 F_RX4_31 (cc_obj (by first | assumption | (simp only [cxN, cxZ, cxS, cxL, cxR]; assumption))) (by rfl) ?_
        refine px_iload_n dX4_through_52 rfl ?_
        refine px_iload_n dX4_through_53 rfl ?_
        refine cw_thr dX4_through_54 (by first | assumption | (simp only [cxN, cxZ, cxS, cxL, cxR]; assumption)) (by first | rfl | assumption) (by first | assumption | omega) (by first | rfl | assumption | exact px_o_s _ | exact px_o_n) ?_
        refine px_aload_n dX4_through_55 rfl trivial ?_
        refine px_iconst (v := nI 0) dX4_through_56 (by decide) ?_
        refine cp_listed dX4_through_57 F_RX4_50 (by first | assumption | (simp only [cxN, cxZ, cxS, cxL, cxR]; assumption)) rfl (by decide) ?_
        refine px_iconst (v := nI 1) dX4_through_60 (by decide) ?_
        refine px_zret dX4_through_61 rfl (by first | decide | assumption) ?_ (by omega) (by omega)
        refine cqo.ok ⟨⟨O, ?_⟩, cRW.no rfl⟩ rfl
        obtain ⟨hA, hB, hC, hD, hE, hF, hG, hH⟩ := id hR
        have q1 : ∀ k, k ≠ 25 → (mm_I (mm_A s 14 j c) 25 0).1 k = s.1 k := fun k hk => if_neg hk
        have q2 : ∀ k i, k ≠ 14 → (mm_I (mm_A s 14 j c) 25 0).2.1 k i = s.2.1 k i := fun k i hk => congrFun (if_neg hk) i
        have r2 : ∀ i j', cn (cN (cN u 14 7 j c) 14 0 0 0) 2 i j' = cn u 2 i j' := fun i j' => by simp [cnN]
        have r3 : ∀ i j', cn (cN (cN u 14 7 j c) 14 0 0 0) 3 i j' = cn u 3 i j' := fun i j' => by simp [cnN]
        have r6 : ∀ i j', cn (cN (cN u 14 7 j c) 14 0 0 0) 6 i j' = cn u 6 i j' := fun i j' => by simp [cnN]
        have r7 : ∀ i j', cn (cN (cN u 14 7 j c) 14 0 0 0) 7 i j' = cn u 7 i j' := fun i j' => by simp [cnN]
        have r10 : ∀ i j', cn (cN (cN u 14 7 j c) 14 0 0 0) 10 i j' = cn u 10 i j' := fun i j' => by simp [cnN]
        refine ⟨?_, ?_, ?_, ?_, ?_, ?_, ?_, ?_⟩
        · unfold cRA cSt; simp only [cxN, clN, q1 _ (show 1 ≠ 25 by decide), q1 _ (show 6 ≠ 25 by decide), q1 _ (show 9 ≠ 25 by decide), q1 _ (show 13 ≠ 25 by decide)]; exact hA
        · unfold cRB; simp only [r2, q1 _ (show 1 ≠ 25 by decide), q1 _ (show 6 ≠ 25 by decide), q2 _ _ (show 3 ≠ 14 by decide), q2 _ _ (show 4 ≠ 14 by decide)]; exact hB
        · unfold cRC cPn cPx; simp only [r2, r7, cxN, q1 _ (show 1 ≠ 25 by decide), q2 _ _ (show 2 ≠ 14 by decide)]; exact hC
        · unfold cRD cStp; simp only [r3, czN, cxN, q1 _ (show 6 ≠ 25 by decide), q1 _ (show 9 ≠ 25 by decide), q1 _ (show 13 ≠ 25 by decide), q2 _ _ (show 3 ≠ 14 by decide), q2 _ _ (show 4 ≠ 14 by decide), q2 _ _ (show 7 ≠ 14 by decide), q2 _ _ (show 10 ≠ 14 by decide), q2 _ _ (show 12 ≠ 14 by decide)]; exact hD
        · unfold cRE cOL cSt cEn cAr cInn; simp only [r2, clN, q1 _ (show 1 ≠ 25 by decide), q1 _ (show 6 ≠ 25 by decide), q1 _ (show 9 ≠ 25 by decide), q1 _ (show 13 ≠ 25 by decide), q2 _ _ (show 3 ≠ 14 by decide), q2 _ _ (show 4 ≠ 14 by decide), q2 _ _ (show 7 ≠ 14 by decide), q2 _ _ (show 10 ≠ 14 by decide)]; exact hE
        · refine ⟨fun i hi => ?_, ?_⟩
          · rw [cnN, if_neg (by omega), cnN]
            by_cases e9 : i = j
            · subst e9
              rw [if_pos ⟨rfl, rfl, rfl⟩]
              show _ = (mm_A s 14 i c).2.1 14 i
              rw [mr_Ae]
            · rw [if_neg (by omega)]
              show _ = (mm_A s 14 j c).2.1 14 i
              rw [mr_Aj e9]
              exact hF.1 i hi
          · rw [cnN, if_pos ⟨rfl, rfl, rfl⟩]; rfl
        · unfold cRG; simp only [r6, clN, cxN, czN, q1 _ (show 17 ≠ 25 by decide), q2 _ _ (show 15 ≠ 14 by decide)]; exact hG
        · unfold cRH cStp; simp only [r7, r10, csN, czN, q1 _ (show 6 ≠ 25 by decide), q1 _ (show 9 ≠ 25 by decide), q1 _ (show 13 ≠ 25 by decide)]; exact hH
      · rw [if_pos g3, if_neg (fun z => z.2 g3)]
        refine px_iconst (v := nI 0) dX4_through_46 (by decide) ?_
        refine px_zret dX4_through_47 rfl (by first | decide | assumption) ?_ (by omega) (by omega)
        exact cqo.ok h rfl
    · exact px_sub (no fun z => g2 (by have := z.2; omega)) rfl
  refine px_iload_n dX4_through_0 rfl ?_
  refine px_iconst (v := -1) dX4_through_1 (by decide) ?_
  refine pn_icmp_eq (tgt := 16) dX4_through_2 (by decide) (Iff.rfl) (fun g1 => ?_) (fun g1 => ?_)
  · exact px_sub (tail 0 0 (by omega) (by omega) fun z => absurd g1 z) rfl
  · refine px_iload_n dX4_through_5 rfl ?_
    refine px_aload_n dX4_through_6 rfl trivial ?_
    refine px_getf dX4_through_7 F_RX4_12 (cc_obj (by first | assumption | (simp only [cxN, cxZ, cxS, cxL, cxR]; assumption))) (by rfl) ?_
    refine px_callVr (cl_size rfl (by first | assumption | (simp only [cxN, cxZ, cxS, cxL, cxR]; assumption)) hX) dX4_through_10 L_RX4_70 (cc_rcL rfl (by first | assumption | (simp only [cxN, cxZ, cxS, cxL, cxR]; assumption))) rfl rfl (by decide) (by omega) (by omega) (Nat.le_of_ble_eq_true rfl) ?_
    rw [hR.pl]
    by_cases hx : px_ix x (s.1 1)
    · refine px_callSv (ce_chk (by omega) hx) dX4_through_13 L_RX4_84 rfl rfl (by decide) (by omega) (by omega) (Nat.le_of_ble_eq_true rfl) ?_
      exact px_sub (tail 1 6 (by omega) (by omega) fun _ => hx) rfl
    · refine px_callSx (ce_chkN (by omega) hx) dX4_through_13 L_RX4_84 rfl rfl (by decide) (by omega) (by omega) (Nat.le_of_ble_eq_true rfl) rfl ?_
      have e : kc_through s x o = 1 := by
        unfold kc_through
        rw [if_pos ⟨g1, hx⟩]
      refine cqo.no (k := 0) ?_ e rfl
      unfold nx_through
      rw [if_neg (fun z => by have := z.1; omega)]
      exact h
