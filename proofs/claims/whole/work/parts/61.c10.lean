theorem mr_A_id {s : mm_S} {k j x : Nat} (h : s.2.1 k j = x) : mm_A s k j x = s := by
  refine Prod.ext rfl (Prod.ext (funext fun a => funext fun b => ?_) rfl)
  show px_upN s.2.1 k (px_upN (s.2.1 k) j x) a b = _
  unfold px_upN
  by_cases e : a = k
  · rw [if_pos e, e]
    by_cases e2 : b = j
    · rw [if_pos e2, e2]; exact h.symm
    · rw [if_neg e2]
  · rw [if_neg e]
theorem mr_I_id {s : mm_S} {k x : Nat} (h : s.1 k = x) : mm_I s k x = s := by
  refine Prod.ext (funext fun a => ?_) rfl
  show px_upN s.1 k x a = _
  unfold px_upN
  by_cases e : a = k
  · rw [if_pos e, e]; exact h.symm
  · rw [if_neg e]
theorem cRW.into {s : mm_S} {u : cc_U} (h : cRW s u) (p c : Nat) : cRW (mm_A s 2 p c) (cN u 2 p 2 c) := fun z => by
  obtain ⟨Z, h1, h2⟩ := h z
  refine ⟨Z, ⟨h1.1, h1.2.1, fun k x hk => mm_pq.eq (s := s) (t := mm_A s 2 p c) rfl rfl rfl rfl rfl rfl (h1.2.2 k x hk)⟩, ?_⟩
  have h3 : cwv (mm_A s 2 p c) u Z := h2
  exact h3.eq (fun p' j => by rw [csN]) (fun p' => by rw [cnN, if_neg (by omega)]) (fun p' j => by rw [cnN, if_neg (by omega)]) (fun p' j => by rw [cnN, if_neg (by omega)]) (fun p' j => by rw [czN])
theorem cRl.into {s : mm_S} {u : cc_U} {O : List Nat} (hR : cRl s u O) {p c : Nat} (hp : p < s.1 1) (h60 : s.1 1 ≤ 60) : cRl (mm_A s 2 p c) (cN u 2 p 2 c) O := by
  obtain ⟨hA, hB, hC, hD, hE, hF, hG, hH⟩ := id hR
  have q2 : ∀ k i, k ≠ 2 → (mm_A s 2 p c).2.1 k i = s.2.1 k i := fun k i hk => congrFun (if_neg hk) i
  have r2 : ∀ i j', j' ≠ 2 → cn (cN u 2 p 2 c) 2 i j' = cn u 2 i j' := fun i j' hj => by rw [cnN, if_neg (fun z => hj z.2.2)]
  have r : ∀ k i j', k ≠ 2 → cn (cN u 2 p 2 c) k i j' = cn u k i j' := fun k i j' hk => by rw [cnN, if_neg (fun z => hk z.1)]
  refine ⟨?_, ?_, ?_, ?_, ?_, ?_, ?_, ?_⟩
  · unfold cRA cSt; simp only [cxN, clN, mr_A1]; exact hA
  · unfold cRB; simp only [r2 _ 0 (by decide), mr_A1, q2 _ _ (show 3 ≠ 2 by decide), q2 _ _ (show 4 ≠ 2 by decide)]; exact hB
  · refine ⟨fun q hq => ?_, fun q hq k hk => by rw [cxN]; exact hC.2.1 q hq k hk, fun q hq => ?_, ?_, ?_, ?_, ?_⟩
    · obtain ⟨a1, a2, a3, a4, a5, a6, a7, a8, a9⟩ := hC.1 q hq
      unfold cPn; simp only [cxN, r 7 _ _ (by decide)]; exact ⟨a1, a2, a3, a4, a5, a6, a7, a8, a9⟩
    · by_cases e : q = p
      · subst e; rw [cnN, if_pos ⟨rfl, rfl, rfl⟩, mr_Ae]
      · rw [cnN, if_neg (fun z => e z.2.1), mr_Aj e]; exact hC.2.2.1 q hq
    · rw [cnN, if_neg (by omega)]; exact hC.2.2.2.1
    · rw [cnN, if_neg (by omega)]; exact hC.2.2.2.2.1
    · rw [cnN, if_neg (by omega)]; exact hC.2.2.2.2.2.1
    · rw [cnN, if_neg (by omega)]; exact hC.2.2.2.2.2.2
  · unfold cRD cStp; simp only [r 3 _ _ (by decide), czN, cxN, mr_A1, mr_A3, q2 _ _ (show 3 ≠ 2 by decide), q2 _ _ (show 4 ≠ 2 by decide), q2 _ _ (show 7 ≠ 2 by decide), q2 _ _ (show 10 ≠ 2 by decide), q2 _ _ (show 12 ≠ 2 by decide)]; exact hD
  · unfold cRE cOL cSt cEn cAr cInn; simp only [r2 _ 1 (by decide), clN, mr_A1, q2 _ _ (show 3 ≠ 2 by decide), q2 _ _ (show 4 ≠ 2 by decide), q2 _ _ (show 7 ≠ 2 by decide), q2 _ _ (show 10 ≠ 2 by decide)]; exact hE
  · unfold cRF; simp only [r 14 _ _ (by decide), mr_A1, q2 _ _ (show 14 ≠ 2 by decide)]; exact hF
  · unfold cRG; simp only [r 6 _ _ (by decide), clN, cxN, czN, mr_A1, mr_A3, q2 _ _ (show 15 ≠ 2 by decide)]; exact hG
  · unfold cRH cStp; simp only [r 7 _ _ (by decide), r 10 _ _ (by decide), csN, czN, mr_A1]; exact hH
theorem kc_into_c {s : mm_S} {x b : Int32} (hx : px_ix x (s.1 1)) (hb : b ≠ -1 → px_ix b 8) : kc_into s x b = 0 := by
  unfold kc_into
  rw [if_neg (fun z => z hx), if_neg (fun z => z.2 (hb z.1))]
set_option maxRecDepth 100000 in
set_option maxHeartbeats 4000000 in
theorem ce_into {s : mm_S} {u : cc_U} {X : px_M} (hX : c9 X) (ok : mm_ok s) (h : cok s u) (x b : Int32) : px_Met 9 70 8000 mX4_into [.inr (14, 0), .inl (.int x), .inl (.int b)] (cc_M u X) (cqo X [cI] (kc_into s x b) (.inl (.int (nI (va_into s x b)))) (nx_into s x b)) := by
  refine px_ofW (by decide) W_mX4_into (Nat.le_of_ble_eq_true rfl) ?_
  obtain ⟨⟨O, hR⟩, hW⟩ := id h
  have hbd := ok.h1
  have h0 := hR.obj (i := 0) (by decide)
  have h1 := hR.obj (i := 1) (by decide)
  have nx1 : kc_into s x b ≠ 0 → nx_into s x b = s := fun e => by unfold nx_into; rw [if_neg (fun z => e z.1)]
  refine px_iload_n dX4_into_0 rfl ?_
  refine px_aload_n dX4_into_1 rfl trivial ?_
  refine px_getf dX4_into_2 F_RX4_12 (cc_obj (by first | assumption | (simp only [cxN, cxZ, cxS, cxL, cxR]; assumption))) (by rfl) ?_
  refine px_callVr (cl_size rfl (by first | assumption | (simp only [cxN, cxZ, cxS, cxL, cxR]; assumption)) hX) dX4_into_5 L_RX4_70 (cc_rcL rfl (by first | assumption | (simp only [cxN, cxZ, cxS, cxL, cxR]; assumption))) rfl rfl (by decide) (by omega) (by omega) (Nat.le_of_ble_eq_true rfl) ?_
  rw [hR.pl]
  by_cases hx : px_ix x (s.1 1)
  · refine px_callSv (ce_chk (by omega) hx) dX4_into_8 L_RX4_84 rfl rfl (by decide) (by omega) (by omega) (Nat.le_of_ble_eq_true rfl) ?_
    have tail : ∀ k n, k ≤ 2 → n ≤ 12 → (b ≠ -1 → px_ix b 8) → px_W 9 70 8000 mX4_into (cqo X [cI] (kc_into s x b) (.inl (.int (nI (va_into s x b)))) (nx_into s x b)) 22 [(0, .inr (14, 0)), (1, .inl (.int x)), (2, .inl (.int b))] [] (cc_M u X) k n := by
      intro k n hk hn hb
      have e := kc_into_c hx hb
      obtain ⟨ex1, ex2⟩ := px_ix_tn hx
      obtain ⟨eb1, eb2⟩ := px_oc_o hb
      have hp := hR.2.2.1.pn ex2
      have hpb := hR.2.2.1.2.2.1 _ ex2
      have hpo := ok.2.2.2.2.2.1 _ ex2
      unfold va_into nx_into
      rw [e]
      generalize px_tn x = p at ex1 ex2 hp hpb hpo
      subst ex1
      generalize px_oc b = c at eb1 eb2
      subst eb1
      have hp2 := hp.1
      refine px_aload_n dX4_into_22 rfl trivial ?_
      refine px_getf dX4_into_23 F_RX4_12 (cc_obj (by first | assumption | (simp only [cxN, cxZ, cxS, cxL, cxR]; assumption))) (by rfl) ?_
      refine px_iload_n dX4_into_26 rfl ?_
      refine px_callVr (cl_get (x := (2, p)) (by rw [hR.1.2.1]; exact c2_get (by rw [List.getElem?_range ex2])) rfl (by first | assumption | (simp only [cxN, cxZ, cxS, cxL, cxR]; assumption)) hX) dX4_into_27 L_RX4_98 (cc_rcL rfl (by first | assumption | (simp only [cxN, cxZ, cxS, cxL, cxR]; assumption))) rfl rfl (by decide) (by omega) (by omega) (Nat.le_of_ble_eq_true rfl) ?_
      refine px_cast dX4_into_30 (cc_pin (by first | assumption | (simp only [cxN, cxZ, cxS, cxL, cxR]; assumption))) rfl K_RX4_35 ?_
      refine px_astore_n dX4_into_33 (by decide) trivial ?_
      refine px_aload_n dX4_into_34 rfl trivial ?_
      refine px_getf dX4_into_35 F_RX4_183 (cc_pin (by first | assumption | (simp only [cxN, cxZ, cxS, cxL, cxR]; assumption))) (by rfl) ?_
      refine px_iload_n dX4_into_38 rfl ?_
      rw [cn_def, hpb]
      have fin : ∀ v : Nat, v = (if s.2.1 2 p = c then 0 else 1) → px_W 9 70 8000 mX4_into (cqo X [cI] 0 (.inl (.int (nI (if s.2.1 2 p = c then 0 else 1)))) (if 0 = 0 ∧ s.2.1 2 p ≠ c then mm_A s 2 p c else s)) 47 [(0, .inr (14, 0)), (2, .inl (.int (px_o c))), (3, .inr (2, p))] [.inl (.int (nI v))] (cc_M u X) k n := by
        intro v hv
        refine px_istore dX4_into_47 (by decide) ?_
        refine px_aload_n dX4_into_49 rfl trivial ?_
        refine px_iload_n dX4_into_50 rfl ?_
        refine cp_block dX4_into_51 F_RX4_183 (by first | assumption | (simp only [cxN, cxZ, cxS, cxL, cxR]; assumption)) (by first | rfl | assumption) ?_
        refine px_iload dX4_into_54 rfl ?_
        refine px_zret dX4_into_56 rfl ?_ ?_ (by omega) (by omega)
        · rw [hv]; split <;> decide
        · rw [hv]
          refine cqo.ok (u' := _) ?_ rfl
          have h9 := hR.into (c := c) ex2 hbd.1
          have hW9 := hW.into p c
          by_cases ec : s.2.1 2 p = c
          · rw [if_neg (fun z => z.2 ec)]
            rw [mr_A_id ec] at h9 hW9
            exact ⟨⟨O, h9⟩, hW9⟩
          · rw [if_pos ⟨rfl, ec⟩]
            exact ⟨⟨O, h9⟩, hW9⟩
      refine pn_icmp_eq (tgt := 46) dX4_into_39 (by decide) (px_o_eq (by omega) (by omega)) (fun g3 => ?_) (fun g3 => ?_)
      · refine px_iconst (v := nI 0) dX4_into_46 (by decide) ?_
        exact px_sub (fin 0 (if_pos g3).symm) rfl
      · refine px_iconst (v := nI 1) dX4_into_42 (by decide) ?_
        refine px_goto (tgt := 47) dX4_into_43 (by decide) ?_
        exact px_sub (fin 1 (if_neg g3).symm) rfl
    refine px_iload_n dX4_into_11 rfl ?_
    refine px_iconst (v := -1) dX4_into_12 (by decide) ?_
    refine pn_icmp_eq (tgt := 22) dX4_into_13 (by decide) (Iff.rfl) (fun g1 => ?_) (fun g1 => ?_)
    · exact px_sub (tail 1 6 (by omega) (by omega) fun z => absurd g1 z) rfl
    · refine px_iload_n dX4_into_16 rfl ?_
      refine px_bipush (v := nI 8) dX4_into_17 (by decide) ?_
      by_cases hb : px_ix b 8
      · refine px_callSv (ce_chk (n := 8) (by decide) hb) dX4_into_19 L_RX4_84 rfl rfl (by decide) (by omega) (by omega) (Nat.le_of_ble_eq_true rfl) ?_
        exact px_sub (tail 2 12 (by omega) (by omega) fun _ => hb) rfl
      · refine px_callSx (ce_chkN (n := 8) (by decide) hb) dX4_into_19 L_RX4_84 rfl rfl (by decide) (by omega) (by omega) (Nat.le_of_ble_eq_true rfl) rfl ?_
        have e : kc_into s x b = 1 := by
          unfold kc_into
          rw [if_neg (fun z => z hx), if_pos ⟨g1, hb⟩]
        exact cqo.no (k := 0) (by rw [nx1 (by omega)]; exact h) e rfl
  · refine px_callSx (ce_chkN (by omega) hx) dX4_into_8 L_RX4_84 rfl rfl (by decide) (by omega) (by omega) (Nat.le_of_ble_eq_true rfl) rfl ?_
    have e : kc_into s x b = 1 := by
      unfold kc_into
      rw [if_pos hx]
    exact cqo.no (k := 0) (by rw [nx1 (by omega)]; exact h) e rfl
theorem cRl.group {s : mm_S} {u : cc_U} {O : List Nat} (hR : cRl s u O) {e c : Nat} (he : e < s.1 13) (h150 : s.1 6 ≤ 150) (h30 : s.1 9 ≤ 30) : cRl (mm_A (mm_I s 25 0) 12 e c) (cN (cN u 3 (300 + e) 3 c) 14 0 0 0) O := by
  obtain ⟨hA, hB, hC, hD, hE, hF, hG, hH⟩ := id hR
  have q1 : ∀ k, k ≠ 25 → (mm_A (mm_I s 25 0) 12 e c).1 k = s.1 k := fun k hk => if_neg hk
  have q2 : ∀ k i, k ≠ 12 → (mm_A (mm_I s 25 0) 12 e c).2.1 k i = s.2.1 k i := fun k i hk => congrFun (if_neg hk) i
  have r : ∀ k i j', k ≠ 3 → k ≠ 14 → cn (cN (cN u 3 (300 + e) 3 c) 14 0 0 0) k i j' = cn u k i j' := fun k i j' h1 h2 => by rw [cnN, if_neg (fun z => h2 z.1), cnN, if_neg (fun z => h1 z.1)]
  have r3 : ∀ i j', j' ≠ 3 → cn (cN (cN u 3 (300 + e) 3 c) 14 0 0 0) 3 i j' = cn u 3 i j' := fun i j' h1 => by rw [cnN, if_neg (by omega), cnN, if_neg (fun z => h1 z.2.2)]
  refine ⟨?_, ?_, ?_, ?_, ?_, ?_, ?_, ?_⟩
  · unfold cRA cSt; simp only [cxN, clN, q1 _ (show 1 ≠ 25 by decide), q1 _ (show 6 ≠ 25 by decide), q1 _ (show 9 ≠ 25 by decide), q1 _ (show 13 ≠ 25 by decide)]; exact hA
  · unfold cRB; simp only [r 2 _ _ (by decide) (by decide), q1 _ (show 1 ≠ 25 by decide), q1 _ (show 6 ≠ 25 by decide), q2 _ _ (show 3 ≠ 12 by decide), q2 _ _ (show 4 ≠ 12 by decide)]; exact hB
  · unfold cRC cPn cPx; simp only [r 2 _ _ (by decide) (by decide), r 7 _ _ (by decide) (by decide), cxN, q1 _ (show 1 ≠ 25 by decide), q2 _ _ (show 2 ≠ 12 by decide)]; exact hC
  · refine ⟨?_, ?_, ?_, fun i hi => ?_⟩
    · unfold cStp; simp only [cxN, q1 _ (show 6 ≠ 25 by decide), q1 _ (show 9 ≠ 25 by decide), q1 _ (show 13 ≠ 25 by decide)]; exact hD.1
    · simp only [r3 _ 0 (by decide), r3 _ 1 (by decide), r3 _ 2 (by decide), czN, q1 _ (show 6 ≠ 25 by decide), q2 _ _ (show 3 ≠ 12 by decide), q2 _ _ (show 4 ≠ 12 by decide)]; exact hD.2.1
    · simp only [r3 _ 0 (by decide), r3 _ 1 (by decide), r3 _ 2 (by decide), czN, q1 _ (show 9 ≠ 25 by decide), q2 _ _ (show 7 ≠ 12 by decide)]; exact hD.2.2.1
    · obtain ⟨d1, d2, d3, d4, d5⟩ := hD.2.2.2 i (by rw [q1 13 (by decide)] at hi; exact hi)
      simp only [r3 _ 0 (by decide), r3 _ 1 (by decide), r3 _ 2 (by decide), czN, q2 _ _ (show 10 ≠ 12 by decide)]
      refine ⟨d1, d2, d3, d4, ?_⟩
      rw [cnN, if_neg (by omega), cnN]
      by_cases e9 : i = e
      · subst e9; rw [if_pos ⟨rfl, rfl, rfl⟩, mr_Ae]
      · rw [if_neg (by omega), mr_Aj e9]; exact d5
  · unfold cRE cOL cSt cEn cAr cInn; simp only [r 2 _ _ (by decide) (by decide), clN, q1 _ (show 1 ≠ 25 by decide), q1 _ (show 6 ≠ 25 by decide), q1 _ (show 9 ≠ 25 by decide), q1 _ (show 13 ≠ 25 by decide), q2 _ _ (show 3 ≠ 12 by decide), q2 _ _ (show 4 ≠ 12 by decide), q2 _ _ (show 7 ≠ 12 by decide), q2 _ _ (show 10 ≠ 12 by decide)]; exact hE
  · refine ⟨fun i hi => ?_, ?_⟩
    · rw [cnN, if_neg (by omega), cnN, if_neg (by omega), q2 14 i (by decide)]; exact hF.1 i hi
    · rw [cnN, if_pos ⟨rfl, rfl, rfl⟩]; rfl
  · unfold cRG; simp only [r 6 _ _ (by decide) (by decide), clN, cxN, czN, q1 _ (show 17 ≠ 25 by decide), q2 _ _ (show 15 ≠ 12 by decide)]; exact hG
  · unfold cRH cStp; simp only [r 7 _ _ (by decide) (by decide), r 10 _ _ (by decide) (by decide), csN, czN, q1 _ (show 6 ≠ 25 by decide), q1 _ (show 9 ≠ 25 by decide), q1 _ (show 13 ≠ 25 by decide)]; exact hH
theorem cRl.en {s : mm_S} {u : cc_U} {O : List Nat} (h : cRl s u O) : (cl u 14 4).length = s.1 13 := by rw [h.1.2.2.2.2.1, List.length_map, List.length_map, List.length_range]
theorem cEn_get {s : mm_S} {e : Nat} (he : e < s.1 13) : (c3 ((List.range (s.1 13)).map (300 + ·)))[e]? = some (3, 300 + e) := c3_get (by rw [List.getElem?_map, List.getElem?_range he]; rfl)
set_option maxRecDepth 100000 in
set_option maxHeartbeats 4000000 in
theorem ce_group {s : mm_S} {u : cc_U} {X : px_M} (hX : c9 X) (ok : mm_ok s) (h : cok s u) (x g : Int32) : px_Met 9 70 8000 mX4_group [.inr (14, 0), .inl (.int x), .inl (.int g)] (cc_M u X) (cqo X [cI, cA] (kc_group s x g) (.inl (.int (nI (va_group s x g)))) (nx_group s x g)) := by
  refine px_ofW (by decide) W_mX4_group (Nat.le_of_ble_eq_true rfl) ?_
  obtain ⟨⟨O, hR⟩, hW⟩ := id h
  have hbd := ok.h1
  have h0 := hR.obj (i := 0) (by decide)
  have h4 := hR.obj (i := 4) (by decide)
  have nx1 : kc_group s x g ≠ 0 → nx_group s x g = s := fun e => by unfold nx_group; rw [if_neg e]
  refine px_iload_n dX4_group_0 rfl ?_
  refine px_aload_n dX4_group_1 rfl trivial ?_
  refine px_getf dX4_group_2 F_RX4_22 (cc_obj (by first | assumption | (simp only [cxN, cxZ, cxS, cxL, cxR]; assumption))) (by rfl) ?_
  refine px_callVr (cl_size rfl (by first | assumption | (simp only [cxN, cxZ, cxS, cxL, cxR]; assumption)) hX) dX4_group_5 L_RX4_70 (cc_rcL rfl (by first | assumption | (simp only [cxN, cxZ, cxS, cxL, cxR]; assumption))) rfl rfl (by decide) (by omega) (by omega) (Nat.le_of_ble_eq_true rfl) ?_
  rw [hR.en]
  by_cases hx : px_ix x (s.1 13)
  · refine px_callSv (ce_chk (by omega) hx) dX4_group_8 L_RX4_84 rfl rfl (by decide) (by omega) (by omega) (Nat.le_of_ble_eq_true rfl) ?_
    have no : ¬ px_ix g 8 → px_W 9 70 8000 mX4_group (cqo X [cI, cA] (kc_group s x g) (.inl (.int (nI (va_group s x g)))) (nx_group s x g)) 21 [(0, .inr (14, 0)), (1, .inl (.int x)), (2, .inl (.int g))] [] (cc_M u X) 1 6 := fun hno => by
      have e : kc_group s x g = 2 := by
        unfold kc_group
        rw [if_neg (fun z => z hx), if_pos hno]
      refine px_throw (text := "no such group") cT_97 rfl rfl (by decide) dX4_group_21 dX4_group_24 dX4_group_25 dX4_group_27 dX4_group_30 (Nat.le_of_ble_eq_true rfl) ?_ (by omega) (by omega)
      exact cqo.no (k := 1) (by rw [nx1 (by omega)]; exact h) e rfl
    refine px_iload_n dX4_group_11 rfl ?_
    refine pn_if_lt (tgt := 21) dX4_group_12 (by decide) (px_lt0 _) (fun g1 => ?_) (fun g1 => ?_)
    · exact px_sub (no fun z => by have := z.1; omega) rfl
    refine px_iload_n dX4_group_15 rfl ?_
    refine px_bipush (v := nI 8) dX4_group_16 (by decide) ?_
    refine pn_icmp_lt (tgt := 31) dX4_group_18 (by decide) (px_ltN _ (by decide)) (fun g2 => ?_) (fun g2 => ?_)
    · have hg : px_ix g 8 := ⟨by omega, g2⟩
      have e : kc_group s x g = 0 := by
        unfold kc_group
        rw [if_neg (fun z => z hx), if_neg (fun z => z hg)]
      obtain ⟨ex1, ex2⟩ := px_ix_tn hx
      obtain ⟨eg1, eg2⟩ := px_ix_tn hg
      unfold va_group nx_group
      rw [e, if_pos rfl]
      generalize px_tn x = q at ex1 ex2
      subst ex1
      generalize px_tn g = c at eg1 eg2
      subst eg1
      obtain ⟨d1, d2, d3, d4, d5⟩ := hR.2.2.2.1.2.2.2 q ex2
      have dx : cx u 3 (300 + q) := (hR.2.2.2.1.1 _).mpr (Or.inr (Or.inr ⟨by omega, by omega⟩))
      have hq8 := (ok.2.2.2.1 q ex2).2.1
      -- the count
      have loop : ∀ (v : cc_U) (s' : mm_S) (G : Nat → Nat), cRl s' v O → cRW s' v → s'.1 13 = s.1 13 → (∀ i, i < s.1 13 → cn v 3 (300 + i) 3 = G i ∧ G i < 8) → ∀ (m i : Nat), i + m = s.1 13 → px_W 9 70 8000 mX4_group (cqo X [cI, cA] 0 (.inl (.int (nI (px_cnt G c (s.1 13))))) s') 74 [(0, .inr (14, 0)), (2, .inl (.int (nI c))), (3, .inl (.int (nI (px_cnt G c i)))), (4, .inl (.int (nI i)))] [] (cc_M v X) 1 6 := by
        intro v s' G hv hvw hs' hG m
        have k0 := hv.obj (i := 0) (by decide)
        have k4 := hv.obj (i := 4) (by decide)
        induction m with
        | zero =>
          intro i hi
          refine px_iload dX4_group_74 rfl ?_
          refine px_aload_n dX4_group_76 rfl trivial ?_
          refine px_getf dX4_group_77 F_RX4_22 (cc_obj (by first | assumption | (simp only [cxN, cxZ, cxS, cxL, cxR]; assumption))) (by rfl) ?_
          refine px_callVr (cl_size rfl (by first | assumption | (simp only [cxN, cxZ, cxS, cxL, cxR]; assumption)) hX) dX4_group_80 L_RX4_70 (cc_rcL rfl (by first | assumption | (simp only [cxN, cxZ, cxS, cxL, cxR]; assumption))) rfl rfl (by decide) (by omega) (by omega) (Nat.le_of_ble_eq_true rfl) ?_
          rw [hv.en, hs']
          refine pn_icmp_ge (tgt := 114) dX4_group_83 (by decide) (nI_leI (by omega) (by omega)) (fun g7 => ?_) (fun g7 => ?_)
          · refine px_iload_n dX4_group_114 rfl ?_
            refine px_iret dX4_group_115 rfl ?_ (by omega) (by omega)
            obtain rfl : i = s.1 13 := by omega
            exact cqo.ok ⟨⟨O, hv⟩, hvw⟩ rfl
          · omega
        | succ m ih =>
          intro i hi
          obtain ⟨g3, g4⟩ := hG i (by omega)
          have kx : cx v 3 (300 + i) := (hv.2.2.2.1.1 _).mpr (Or.inr (Or.inr ⟨by omega, by omega⟩))
          have hc := px_cnt_le G c i
          have ih1 := ih (i + 1) (by omega)
          rw [show px_cnt G c (i + 1) = px_cnt G c i + (if G i = c then 1 else 0) from rfl] at ih1
          refine px_iload dX4_group_74 rfl ?_
          refine px_aload_n dX4_group_76 rfl trivial ?_
          refine px_getf dX4_group_77 F_RX4_22 (cc_obj (by first | assumption | (simp only [cxN, cxZ, cxS, cxL, cxR]; assumption))) (by rfl) ?_
          refine px_callVr (cl_size rfl (by first | assumption | (simp only [cxN, cxZ, cxS, cxL, cxR]; assumption)) hX) dX4_group_80 L_RX4_70 (cc_rcL rfl (by first | assumption | (simp only [cxN, cxZ, cxS, cxL, cxR]; assumption))) rfl rfl (by decide) (by omega) (by omega) (Nat.le_of_ble_eq_true rfl) ?_
          rw [hv.en, hs']
          refine pn_icmp_ge (tgt := 114) dX4_group_83 (by decide) (nI_leI (by omega) (by omega)) (fun g7 => ?_) (fun g7 => ?_)
          · omega
          refine px_aload_n dX4_group_86 rfl trivial ?_
          refine px_getf dX4_group_87 F_RX4_22 (cc_obj (by first | assumption | (simp only [cxN, cxZ, cxS, cxL, cxR]; assumption))) (by rfl) ?_
          refine px_iload dX4_group_90 rfl ?_
          refine px_callVr (cl_get (x := (3, 300 + i)) (by rw [hv.1.2.2.2.2.1]; exact cEn_get (by omega)) rfl (by first | assumption | (simp only [cxN, cxZ, cxS, cxL, cxR]; assumption)) hX) dX4_group_92 L_RX4_98 (cc_rcL rfl (by first | assumption | (simp only [cxN, cxZ, cxS, cxL, cxR]; assumption))) rfl rfl (by decide) (by omega) (by omega) (Nat.le_of_ble_eq_true rfl) ?_
          refine px_cast dX4_group_95 (cc_step (by first | assumption | (simp only [cxN, cxZ, cxS, cxL, cxR]; assumption))) rfl K_RX4_115 ?_
          refine px_getf dX4_group_98 F_RX4_172 (cc_step (by first | assumption | (simp only [cxN, cxZ, cxS, cxL, cxR]; assumption))) (by rfl) ?_
          refine px_iload_n dX4_group_101 rfl ?_
          rw [cn_def, g3]
          refine pn_icmp_ne (tgt := 108) dX4_group_102 (by decide) (nI_eq (by omega) (by omega)) (fun g8 => ?_) (fun g8 => ?_)
          · rw [if_neg g8] at ih1
            refine px_iinc dX4_group_108 rfl (pn_i1 _) (by decide) ?_
            refine px_goto (tgt := 74) dX4_group_111 (by decide) ?_
            exact px_sub ih1 rfl
          · rw [if_pos g8] at ih1
            refine px_iinc dX4_group_105 rfl (pn_i1 _) (by decide) ?_
            refine px_iinc dX4_group_108 rfl (pn_i1 _) (by decide) ?_
            refine px_goto (tgt := 74) dX4_group_111 (by decide) ?_
            exact px_sub ih1 rfl
      refine px_aload_n dX4_group_31 rfl trivial ?_
      refine px_getf dX4_group_32 F_RX4_22 (cc_obj (by first | assumption | (simp only [cxN, cxZ, cxS, cxL, cxR]; assumption))) (by rfl) ?_
      refine px_iload_n dX4_group_35 rfl ?_
      refine px_callVr (cl_get (x := (3, 300 + q)) (by rw [hR.1.2.2.2.2.1]; exact cEn_get ex2) rfl (by first | assumption | (simp only [cxN, cxZ, cxS, cxL, cxR]; assumption)) hX) dX4_group_36 L_RX4_98 (cc_rcL rfl (by first | assumption | (simp only [cxN, cxZ, cxS, cxL, cxR]; assumption))) rfl rfl (by decide) (by omega) (by omega) (Nat.le_of_ble_eq_true rfl) ?_
      refine px_cast dX4_group_39 (cc_step (by first | assumption | (simp only [cxN, cxZ, cxS, cxL, cxR]; assumption))) rfl K_RX4_115 ?_
      refine px_getf dX4_group_42 F_RX4_172 (cc_step (by first | assumption | (simp only [cxN, cxZ, cxS, cxL, cxR]; assumption))) (by rfl) ?_
      refine px_iload_n dX4_group_45 rfl ?_
      rw [cn_def, d5]
      refine pn_icmp_eq (tgt := 69) dX4_group_46 (by decide) (nI_eq (by omega) (by omega)) (fun g8 => ?_) (fun g8 => ?_)
      · have es : mm_A (mm_I s 25 (if s.1 25 ≠ 0 ∧ s.2.1 12 q = c then 1 else 0)) 12 q c = s := by
          have e9 : (if s.1 25 ≠ 0 ∧ s.2.1 12 q = c then 1 else 0) = s.1 25 := by
            have := hbd.2.2.2.2.2
            by_cases z : s.1 25 = 0
            · rw [if_neg (fun y => y.1 z), z]
            · rw [if_pos ⟨z, g8⟩]; omega
          rw [e9, mr_I_id rfl, mr_A_id g8]
        have eu : px_upN (s.2.1 12) q c = s.2.1 12 := by
          funext i
          unfold px_upN
          by_cases z : i = q
          · rw [if_pos z, z, g8]
          · rw [if_neg z]
        rw [es, eu]
        refine px_iconst (v := nI 0) dX4_group_69 (by decide) ?_
        refine px_istore_n dX4_group_70 (by decide) ?_
        refine px_iconst (v := nI 0) dX4_group_71 (by decide) ?_
        refine px_istore dX4_group_72 (by decide) ?_
        exact px_sub (loop u s (s.2.1 12) hR hW rfl (fun i hi => ⟨(hR.2.2.2.1.2.2.2 i hi).2.2.2.2, (ok.2.2.2.1 i hi).2.1⟩) (s.1 13) 0 (by omega)) rfl
      · rw [if_neg (fun y => g8 y.2)]
        refine px_aload_n dX4_group_49 rfl trivial ?_
        refine px_getf dX4_group_50 F_RX4_22 (cc_obj (by first | assumption | (simp only [cxN, cxZ, cxS, cxL, cxR]; assumption))) (by rfl) ?_
        refine px_iload_n dX4_group_53 rfl ?_
        refine px_callVr (cl_get (x := (3, 300 + q)) (by rw [hR.1.2.2.2.2.1]; exact cEn_get ex2) rfl (by first | assumption | (simp only [cxN, cxZ, cxS, cxL, cxR]; assumption)) hX) dX4_group_54 L_RX4_98 (cc_rcL rfl (by first | assumption | (simp only [cxN, cxZ, cxS, cxL, cxR]; assumption))) rfl rfl (by decide) (by omega) (by omega) (Nat.le_of_ble_eq_true rfl) ?_
        refine px_cast dX4_group_57 (cc_step (by first | assumption | (simp only [cxN, cxZ, cxS, cxL, cxR]; assumption))) rfl K_RX4_115 ?_
        refine px_iload_n dX4_group_60 rfl ?_
        refine cp_group dX4_group_61 F_RX4_172 (by first | assumption | (simp only [cxN, cxZ, cxS, cxL, cxR]; assumption)) (by first | rfl | assumption) ?_
        refine px_aload_n dX4_group_64 rfl trivial ?_
        refine px_iconst (v := nI 0) dX4_group_65 (by decide) ?_
        refine cp_listed dX4_group_66 F_RX4_50 (by first | assumption | (simp only [cxN, cxZ, cxS, cxL, cxR]; assumption)) rfl (by decide) ?_
        have hR' := hR.group (c := c) ex2 hbd.2.1 hbd.2.2.1
        refine px_iconst (v := nI 0) dX4_group_69 (by decide) ?_
        refine px_istore_n dX4_group_70 (by decide) ?_
        refine px_iconst (v := nI 0) dX4_group_71 (by decide) ?_
        refine px_istore dX4_group_72 (by decide) ?_
        refine px_sub (loop _ _ (px_upN (s.2.1 12) q c) hR' (cRW.no rfl) rfl (fun i hi => ?_) (s.1 13) 0 (by omega)) rfl
        have h9 := (hR'.2.2.2.1.2.2.2 i hi).2.2.2.2
        rw [h9]
        refine ⟨congrFun (mr_A0 _ 12 q c) i, ?_⟩
        unfold px_upN
        split
        · exact eg2
        · exact (ok.2.2.2.1 i hi).2.1
    · exact px_sub (no fun z => g2 (by have := z.2; omega)) rfl
  · refine px_callSx (ce_chkN (by omega) hx) dX4_group_8 L_RX4_84 rfl rfl (by decide) (by omega) (by omega) (Nat.le_of_ble_eq_true rfl) rfl ?_
    have e : kc_group s x g = 1 := by
      unfold kc_group
      rw [if_pos hx]
    exact cqo.no (k := 0) (by rw [nx1 (by omega)]; exact h) e rfl
