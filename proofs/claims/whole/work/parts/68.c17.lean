/-! ===== model, reduced ===== -/
theorem cInp_iff {s : mm_S} {u : cc_U} {O : List Nat} (hR : cRl s u O) (ok : mm_ok s) {p b : Nat} {L : List Nat} (hp : p < s.1 1) (hb : b ≠ 0) (hL : ∀ n, n ∈ L ↔ cInn s p n) : cInp u L p b ↔ s.2.1 2 p = b ∧ mm_inp s p := by
  obtain ⟨hA, hB, hC, hD, hE, hF, hG, hH⟩ := id hR
  unfold cInp
  rw [hC.2.2.1 p hp]
  refine and_congr_right fun e => ?_
  constructor
  · rintro ⟨n, n1, n2⟩
    rcases (hL n).mp n1 with ⟨g1, g2⟩ | ⟨g1, g2, g3⟩
    · refine Or.inr ⟨n, g1, g2, ?_⟩
      rw [(hD.2.1 n g1).2.1, hC.2.2.1 _ (ok.2.1 n g1).1] at n2
      rw [e]; exact n2
    · exact Or.inl ⟨n - 200, by omega, g3⟩
  · rintro (⟨k, g1, g2⟩ | ⟨a, g1, g2, g3⟩)
    · refine ⟨200 + k, (hL _).mpr (Or.inr ⟨by omega, by omega, by rw [show 200 + k - 200 = k by omega]; exact g2⟩), ?_⟩
      rw [(hD.2.2.1 k g1).2.1, hC.2.2.2.1]
      exact fun z => hb z.symm
    · refine ⟨a, (hL _).mpr (Or.inl ⟨g1, g2⟩), ?_⟩
      rw [(hD.2.1 a g1).2.1, hC.2.2.1 _ (ok.2.1 a g1).1, ← e]
      exact g3
theorem cOut_iff {s : mm_S} {u : cc_U} {O : List Nat} (hR : cRl s u O) (ok : mm_ok s) {p b : Nat} (hp : p < s.1 1) (hb : b ≠ 0) : cOut u (cOL s p) p b ↔ s.2.1 2 p = b ∧ mm_out s p := by
  obtain ⟨hA, hB, hC, hD, hE, hF, hG, hH⟩ := id hR
  have hbd := ok.h1
  unfold cOut
  rw [hC.2.2.1 p hp]
  refine and_congr_right fun e => ?_
  constructor
  · rintro ⟨n, n1, n2⟩
    rcases (cOL_mem (by omega)).mp n1 with ⟨g1, g2, g3⟩ | ⟨g1, g2⟩
    · exact Or.inl ⟨n - 300, by omega, g3⟩
    · refine Or.inr ⟨n, g1, g2, ?_⟩
      rw [(hD.2.1 n g1).2.2.1, hC.2.2.1 _ (ok.2.1 n g1).2.1] at n2
      rw [e]; exact n2
  · rintro (⟨k, g1, g2⟩ | ⟨a, g1, g2, g3⟩)
    · refine ⟨300 + k, (cOL_mem (by omega)).mpr (Or.inl ⟨by omega, by omega, by rw [show 300 + k - 300 = k by omega]; exact g2⟩), ?_⟩
      rw [(hD.2.2.2 k g1).2.2.1, hC.2.2.2.2.1]
      exact fun z => hb z.symm
    · refine ⟨a, (cOL_mem (by omega)).mpr (Or.inr ⟨g1, g2⟩), ?_⟩
      rw [(hD.2.1 a g1).2.2.1, hC.2.2.1 _ (ok.2.1 a g1).2.1, ← e]
      exact g3
theorem cRl.outOk {s : mm_S} {u : cc_U} {O : List Nat} (hR : cRl s u O) (ok : mm_ok s) {p : Nat} (hp : p < s.1 1) : cx u 2 p ∧ cx u 13 p ∧ cl u 13 p = c3 (cOL s p) ∧ (cOL s p).length ≤ 200 ∧ (∀ n ∈ cOL s p, cx u 3 n ∧ cx u 2 (cn u 3 n 2) ∧ cn u 2 (cn u 3 n 2) 2 ≤ 60) ∧ cn u 2 p 2 ≤ 60 := by
  obtain ⟨a1, a2, a3, a4, a5, a6⟩ := hR.cok ok hp
  exact ⟨a1, a2, a3, a4, fun n hn => ⟨(a6 n hn).1, (a6 n hn).2.1, (a6 n hn).2.2.1⟩, a5⟩
theorem cRl.inOk {s : mm_S} {u : cc_U} {O : List Nat} (hR : cRl s u O) (ok : mm_ok s) {p : Nat} (hp : p < s.1 1) : ∃ L, cx u 2 p ∧ cx u 12 p ∧ cl u 12 p = c3 L ∧ L.length ≤ 200 ∧ (∀ n ∈ L, cx u 3 n ∧ cx u 2 (cn u 3 n 1) ∧ cn u 2 (cn u 3 n 1) 2 ≤ 60) ∧ cn u 2 p 2 ≤ 60 ∧ ∀ n, n ∈ L ↔ cInn s p n := by
  have hbd := ok.h1
  obtain ⟨L, i1, i2, i3, i4⟩ := hR.inl hbd.2.1 hp
  have hq := hR.2.2.1.pn hp
  refine ⟨L, hq.1, hq.2.2.2.2.2.2.1, i1, by omega, fun n hn => ?_, by rw [hR.2.2.1.2.2.1 p hp]; have := ok.2.2.2.2.2.1 p hp; omega, i3⟩
  have hs := i4 n hn
  obtain ⟨b1, b2, b3, b4, b5, b6⟩ := hR.stp ok hs
  exact ⟨(hR.2.2.2.1.1 n).mpr hs, (hR.2.2.1.1 _ b1).1, b5⟩
noncomputable def cCnt (u : cc_U) (s : mm_S) (b : Nat) : Nat → Nat := px_sum fun q => px_ch (0 ≤ cz u 2 q 0 ∧ cOut u (cOL s q) q b)
set_option maxRecDepth 100000 in
set_option maxHeartbeats 4000000 in
theorem ce_count {s : mm_S} {u : cc_U} {X : px_M} (hX : c9 X) (ok : mm_ok s) {O : List Nat} (hR : cRl s u O) {b : Nat} (hb : b ≤ 60) : px_Met 4 0 0 mX4_countReachedOutputs [.inr (14, 0), .inl (.int (px_o b))] (cc_M u X) (px_rt (some (.inl (.int (nI (cCnt u s b (s.1 1)))))) (cc_M u X)) := by
  refine px_ofW (by decide) W_mX4_countReachedOutputs (Nat.le_of_ble_eq_true rfl) ?_
  have hbd := ok.h1
  have h0 := hR.obj (i := 0) (by decide)
  have h1 := hR.obj (i := 1) (by decide)
  have loop : ∀ (m i : Nat), i + m = s.1 1 → px_W 4 0 0 mX4_countReachedOutputs (px_rt (some (.inl (.int (nI (cCnt u s b (s.1 1)))))) (cc_M u X)) 4 [(0, .inr (14, 0)), (1, .inl (.int (px_o b))), (2, .inl (.int (nI (cCnt u s b i)))), (3, .inl (.int (nI i)))] [] (cc_M u X) 0 0 := by
    intro m
    induction m with
    | zero =>
      intro i hi
      refine px_iload_n dX4_countReachedOutputs_4 rfl ?_
      refine px_aload_n dX4_countReachedOutputs_5 rfl trivial ?_
      refine px_getf dX4_countReachedOutputs_6 F_RX4_12 (cc_obj (by first | assumption | (simp only [cxN, cxZ, cxS, cxL, cxR]; assumption))) (by rfl) ?_
      refine px_callVr (cl_size rfl (by first | assumption | (simp only [cxN, cxZ, cxS, cxL, cxR]; assumption)) hX) dX4_countReachedOutputs_9 L_RX4_70 (cc_rcL rfl (by first | assumption | (simp only [cxN, cxZ, cxS, cxL, cxR]; assumption))) rfl rfl (by decide) (by omega) (by omega) (Nat.le_of_ble_eq_true rfl) ?_
      rw [hR.pl]
      refine pn_icmp_ge (tgt := 56) dX4_countReachedOutputs_12 (by decide) (nI_leI (by omega) (by omega)) (fun g7 => ?_) (fun g7 => ?_)
      · refine px_iload_n dX4_countReachedOutputs_56 rfl ?_
        refine px_iret dX4_countReachedOutputs_57 rfl ?_ (by omega) (by omega)
        obtain rfl : i = s.1 1 := by omega
        exact ⟨rfl, rfl⟩
      · omega
    | succ m ih =>
      intro i hi
      have hiP : i < s.1 1 := by omega
      obtain ⟨a1, a2, a3, a4, a5, a6⟩ := hR.outOk ok hiP
      have zb := hR.2.2.2.2.2.2.2.1 i
      have ih1 := ih (i + 1) (by omega)
      have es : cCnt u s b (i + 1) = cCnt u s b i + px_ch (0 ≤ cz u 2 i 0 ∧ cOut u (cOL s i) i b) := rfl
      rw [es] at ih1
      refine px_iload_n dX4_countReachedOutputs_4 rfl ?_
      refine px_aload_n dX4_countReachedOutputs_5 rfl trivial ?_
      refine px_getf dX4_countReachedOutputs_6 F_RX4_12 (cc_obj (by first | assumption | (simp only [cxN, cxZ, cxS, cxL, cxR]; assumption))) (by rfl) ?_
      refine px_callVr (cl_size rfl (by first | assumption | (simp only [cxN, cxZ, cxS, cxL, cxR]; assumption)) hX) dX4_countReachedOutputs_9 L_RX4_70 (cc_rcL rfl (by first | assumption | (simp only [cxN, cxZ, cxS, cxL, cxR]; assumption))) rfl rfl (by decide) (by omega) (by omega) (Nat.le_of_ble_eq_true rfl) ?_
      rw [hR.pl]
      refine pn_icmp_ge (tgt := 56) dX4_countReachedOutputs_12 (by decide) (nI_leI (by omega) (by omega)) (fun g7 => ?_) (fun g7 => ?_)
      · omega
      refine px_aload_n dX4_countReachedOutputs_15 rfl trivial ?_
      refine px_getf dX4_countReachedOutputs_16 F_RX4_12 (cc_obj (by first | assumption | (simp only [cxN, cxZ, cxS, cxL, cxR]; assumption))) (by rfl) ?_
      refine px_iload_n dX4_countReachedOutputs_19 rfl ?_
      refine px_callVr (cl_get (x := (2, i)) (by rw [hR.1.2.1]; exact c2_get (by rw [List.getElem?_range hiP])) rfl (by first | assumption | (simp only [cxN, cxZ, cxS, cxL, cxR]; assumption)) hX) dX4_countReachedOutputs_20 L_RX4_98 (cc_rcL rfl (by first | assumption | (simp only [cxN, cxZ, cxS, cxL, cxR]; assumption))) rfl rfl (by decide) (by omega) (by omega) (Nat.le_of_ble_eq_true rfl) ?_
      refine px_cast dX4_countReachedOutputs_23 (cc_pin (by first | assumption | (simp only [cxN, cxZ, cxS, cxL, cxR]; assumption))) rfl K_RX4_35 ?_
      refine px_astore dX4_countReachedOutputs_26 (by decide) trivial ?_
      refine px_aload dX4_countReachedOutputs_28 rfl trivial ?_
      refine px_getf dX4_countReachedOutputs_30 F_RX4_106 (cc_pin (by first | assumption | (simp only [cxN, cxZ, cxS, cxL, cxR]; assumption))) (by rfl) ?_
      rw [cz_def]
      refine pn_dconst0 dX4_countReachedOutputs_33 ?_
      refine pn_dcmp dX4_countReachedOutputs_34 rfl rfl (by omega) (by omega) ?_
      refine pn_if_lt (tgt := 50) dX4_countReachedOutputs_35 (by decide) (dz_c_lt _ _) (fun g8 => ?_) (fun g8 => ?_)
      · rw [px_ch_0 (fun z => by have := z.1; omega)] at ih1
        refine px_iinc dX4_countReachedOutputs_50 rfl (pn_i1 _) (by decide) ?_
        refine px_goto (tgt := 4) dX4_countReachedOutputs_53 (by decide) ?_
        exact px_sub ih1 rfl
      · refine px_aload dX4_countReachedOutputs_38 rfl trivial ?_
        refine px_iload_n dX4_countReachedOutputs_40 rfl ?_
        refine px_callSr (ce_isOutput hX a1 a2 a3 a4 a5 hb a6) dX4_countReachedOutputs_41 L_RX4_186 rfl rfl (by decide) (by omega) (by omega) (Nat.le_of_ble_eq_true rfl) ?_
        refine pn_if_eq (tgt := 50) dX4_countReachedOutputs_44 (by decide) (px_ch_z _) (fun g9 => ?_) (fun g9 => ?_)
        · rw [px_ch_0 (fun z => g9 z.2)] at ih1
          refine px_iinc dX4_countReachedOutputs_50 rfl (pn_i1 _) (by decide) ?_
          refine px_goto (tgt := 4) dX4_countReachedOutputs_53 (by decide) ?_
          exact px_sub ih1 rfl
        · rw [px_ch_1 ⟨by omega, Classical.byContradiction g9⟩] at ih1
          refine px_iinc dX4_countReachedOutputs_47 rfl (pn_i1 _) (by decide) ?_
          refine px_iinc dX4_countReachedOutputs_50 rfl (pn_i1 _) (by decide) ?_
          refine px_goto (tgt := 4) dX4_countReachedOutputs_53 (by decide) ?_
          exact px_sub ih1 rfl
  refine px_iconst (v := nI 0) dX4_countReachedOutputs_0 (by decide) ?_
  refine px_istore_n dX4_countReachedOutputs_1 (by decide) ?_
  refine px_iconst (v := nI 0) dX4_countReachedOutputs_2 (by decide) ?_
  refine px_istore_n dX4_countReachedOutputs_3 (by decide) ?_
  exact px_sub (loop (s.1 1) 0 (by omega)) rfl
theorem px_oc_ix {x : Int32} {n : Nat} (h : px_ix x n) : x = px_o (px_oc x) ∧ px_oc x ≠ 0 ∧ px_oc x ≤ n := by
  obtain ⟨h1, h2⟩ := px_ix_tn h
  have hne : x ≠ -1 := fun e => by
    rw [e] at h
    have := h.1
    have e2 : (-1 : Int32).toInt = -1 := by decide
    omega
  unfold px_oc
  rw [if_neg hne]
  exact ⟨h1, by omega, by omega⟩
set_option maxRecDepth 100000 in
set_option maxHeartbeats 4000000 in
theorem ce_model {s : mm_S} {u : cc_U} {X : px_M} (hX : c9 X) (ok : mm_ok s) (h : cok s u) (x : Int32) : px_Met 9 70 8000 mX4_model [.inr (14, 0), .inl (.int x)] (cc_M u X) (cqo X [cI] (kc_model x) (.inl (.int (nI (va_model s x)))) s) := by
  refine px_ofW (by decide) W_mX4_model (Nat.le_of_ble_eq_true rfl) ?_
  obtain ⟨⟨O, hR⟩, hW⟩ := id h
  have hbd := ok.h1
  have h0 := hR.obj (i := 0) (by decide)
  refine px_iload_n dX4_model_0 rfl ?_
  refine px_bipush (v := nI 8) dX4_model_1 (by decide) ?_
  by_cases hx : px_ix x 8
  · refine px_callSv (ce_chk (n := 8) (by decide) hx) dX4_model_3 L_RX4_84 rfl rfl (by decide) (by omega) (by omega) (Nat.le_of_ble_eq_true rfl) ?_
    have e : kc_model x = 0 := if_pos hx
    rw [e]
    obtain ⟨b1, b2, b3⟩ := px_oc_ix hx
    unfold va_model
    generalize px_oc x = b at b1 b2 b3
    subst b1
    have loop : ∀ (m i : Nat) (v : cc_U), i + m = s.1 1 → cRl s v O → cRW s v → px_W 9 70 8000 mX4_model (cqo X [cI] 0 (.inl (.int (nI (px_sum (fun p => px_sum (fun q => px_ch (mm_red s b p q)) (s.1 1)) (s.1 1))))) s) 10 [(0, .inr (14, 0)), (1, .inl (.int (px_o b))), (2, .inl (.int (nI (px_sum (fun p => px_sum (fun q => px_ch (mm_red s b p q)) (s.1 1)) i)))), (3, .inl (.int (nI i)))] [] (cc_M v X) 1 6 := by
      intro m
      induction m with
      | zero =>
        intro i v hi hv hvw
        have k0 := hv.obj (i := 0) (by decide)
        have k1 := hv.obj (i := 1) (by decide)
        refine px_iload_n dX4_model_10 rfl ?_
        refine px_aload_n dX4_model_11 rfl trivial ?_
        refine px_getf dX4_model_12 F_RX4_12 (cc_obj (by first | assumption | (simp only [cxN, cxZ, cxS, cxL, cxR]; assumption))) (by rfl) ?_
        refine px_callVr (cl_size rfl (by first | assumption | (simp only [cxN, cxZ, cxS, cxL, cxR]; assumption)) hX) dX4_model_15 L_RX4_70 (cc_rcL rfl (by first | assumption | (simp only [cxN, cxZ, cxS, cxL, cxR]; assumption))) rfl rfl (by decide) (by omega) (by omega) (Nat.le_of_ble_eq_true rfl) ?_
        rw [hv.pl]
        refine pn_icmp_ge (tgt := 64) dX4_model_18 (by decide) (nI_leI (by omega) (by omega)) (fun g7 => ?_) (fun g7 => ?_)
        · refine px_iload_n dX4_model_64 rfl ?_
          refine px_iret dX4_model_65 rfl ?_ (by omega) (by omega)
          obtain rfl : i = s.1 1 := by omega
          exact cqo.ok ⟨⟨O, hv⟩, hvw⟩ rfl
        · omega
      | succ m ih =>
        intro i v hi hv hvw
        have k0 := hv.obj (i := 0) (by decide)
        have k1 := hv.obj (i := 1) (by decide)
        have hiP : i < s.1 1 := by omega
        obtain ⟨L, a1, a2, a3, a4, a5, a6, a7⟩ := hv.inOk ok hiP
        have es : px_sum (fun p => px_sum (fun q => px_ch (mm_red s b p q)) (s.1 1)) (i + 1) = px_sum (fun p => px_sum (fun q => px_ch (mm_red s b p q)) (s.1 1)) i + px_sum (fun q => px_ch (mm_red s b i q)) (s.1 1) := rfl
        have inp := cInp_iff hv ok (b := b) hiP b2 a7
        refine px_iload_n dX4_model_10 rfl ?_
        refine px_aload_n dX4_model_11 rfl trivial ?_
        refine px_getf dX4_model_12 F_RX4_12 (cc_obj (by first | assumption | (simp only [cxN, cxZ, cxS, cxL, cxR]; assumption))) (by rfl) ?_
        refine px_callVr (cl_size rfl (by first | assumption | (simp only [cxN, cxZ, cxS, cxL, cxR]; assumption)) hX) dX4_model_15 L_RX4_70 (cc_rcL rfl (by first | assumption | (simp only [cxN, cxZ, cxS, cxL, cxR]; assumption))) rfl rfl (by decide) (by omega) (by omega) (Nat.le_of_ble_eq_true rfl) ?_
        rw [hv.pl]
        refine pn_icmp_ge (tgt := 64) dX4_model_18 (by decide) (nI_leI (by omega) (by omega)) (fun g7 => ?_) (fun g7 => ?_)
        · omega
        refine px_aload_n dX4_model_21 rfl trivial ?_
        refine px_getf dX4_model_22 F_RX4_12 (cc_obj (by first | assumption | (simp only [cxN, cxZ, cxS, cxL, cxR]; assumption))) (by rfl) ?_
        refine px_iload_n dX4_model_25 rfl ?_
        refine px_callVr (cl_get (x := (2, i)) (by rw [hv.1.2.1]; exact c2_get (by rw [List.getElem?_range hiP])) rfl (by first | assumption | (simp only [cxN, cxZ, cxS, cxL, cxR]; assumption)) hX) dX4_model_26 L_RX4_98 (cc_rcL rfl (by first | assumption | (simp only [cxN, cxZ, cxS, cxL, cxR]; assumption))) rfl rfl (by decide) (by omega) (by omega) (Nat.le_of_ble_eq_true rfl) ?_
        refine px_cast dX4_model_29 (cc_pin (by first | assumption | (simp only [cxN, cxZ, cxS, cxL, cxR]; assumption))) rfl K_RX4_35 ?_
        refine px_astore dX4_model_32 (by decide) trivial ?_
        refine px_aload dX4_model_34 rfl trivial ?_
        refine px_iload_n dX4_model_36 rfl ?_
        refine px_callSr (ce_isInput hX a1 a2 a3 a4 a5 (b := b) (by omega) a6) dX4_model_37 L_RX4_175 rfl rfl (by decide) (by omega) (by omega) (Nat.le_of_ble_eq_true rfl) ?_
        refine pn_if_eq (tgt := 58) dX4_model_40 (by decide) (px_ch_z _) (fun g9 => ?_) (fun g9 => ?_)
        · have e0 : px_sum (fun q => px_ch (mm_red s b i q)) (s.1 1) = 0 := by
            have : ∀ k, px_sum (fun q => px_ch (mm_red s b i q)) k = 0 := by
              intro k
              induction k with
              | zero => rfl
              | succ k ih =>
                show px_sum (fun q => px_ch (mm_red s b i q)) k + px_ch (mm_red s b i k) = 0
                rw [ih, px_ch_0 (fun z => g9 (inp.mpr ⟨z.1, z.2.2.1⟩))]
            exact this _
          have ih1 := ih (i + 1) v (by omega) hv hvw
          rw [es, e0, Nat.add_zero] at ih1
          refine px_iinc dX4_model_58 rfl (pn_i1 _) (by decide) ?_
          refine px_goto (tgt := 10) dX4_model_61 (by decide) ?_
          exact px_sub ih1 rfl
        · obtain ⟨c1, c2⟩ := inp.mp (Classical.byContradiction g9)
          refine px_aload_n dX4_model_43 rfl trivial ?_
          refine px_aload dX4_model_44 rfl trivial ?_
          refine px_iload_n dX4_model_46 rfl ?_
          refine px_callV (ce_sprd hX ok hv hiP (b := b) (by omega) (Or.inr c1)) dX4_model_47 L_RX4_102 (cc_rc4 (by first | assumption | (simp only [cxN, cxZ, cxS, cxL, cxR]; assumption))) rfl rfl (by decide) (by omega) (by omega) (Nat.le_of_ble_eq_true rfl) (fun v9 M9 hq => ?_) (fun E9 M9 hq => ?_)
          · obtain ⟨e1, f, hf, rfl⟩ := hq
            cases e1
            have hRf := hv.G (g := f) hf.2
            have kk0 := hRf.obj (i := 0) (by decide)
            refine px_iload_n dX4_model_50 rfl ?_
            refine px_aload_n dX4_model_51 rfl trivial ?_
            refine px_iload_n dX4_model_52 rfl ?_
            refine px_callVr (ce_count hX ok hRf (b := b) (by omega)) dX4_model_53 L_RX4_179 (cc_rc4 (by first | assumption | (simp only [cxN, cxZ, cxS, cxL, cxR]; assumption))) rfl rfl (by decide) (by omega) (by omega) (Nat.le_of_ble_eq_true rfl) ?_
            have ec : cCnt (cG v f) s b (s.1 1) = px_sum (fun q => px_ch (mm_red s b i q)) (s.1 1) := by
              refine px_sum_same fun q hq => ?_
              have hOi := cOut_iff hRf ok (b := b) hq b2
              have hrc := (hf.1 q hq).1
              have : (0 ≤ cz (cG v f) 2 q 0 ∧ cOut (cG v f) (cOL s q) q b) ↔ mm_red s b i q := by
                rw [czG2, hOi, hrc]
                unfold mm_red
                exact ⟨fun z => ⟨c1, z.2.1, c2, z.2.2, z.1⟩, fun z => ⟨z.2.2.2.2, z.2.1, z.2.2.2.1⟩⟩
              rw [propext this]
            rw [ec]
            have ih1 := ih (i + 1) _ (by omega) hRf (hvw.cg _)
            rw [es] at ih1
            refine pn_iadd dX4_model_56 (by first | exact nI_add _ _ | rfl) ?_
            refine px_istore_n dX4_model_57 (by decide) ?_
            refine px_iinc dX4_model_58 rfl (pn_i1 _) (by decide) ?_
            refine px_goto (tgt := 10) dX4_model_61 (by decide) ?_
            exact px_sub ih1 rfl
          · exact absurd hq.1 (fun z => by cases z)
    refine px_iconst (v := nI 0) dX4_model_6 (by decide) ?_
    refine px_istore_n dX4_model_7 (by decide) ?_
    refine px_iconst (v := nI 0) dX4_model_8 (by decide) ?_
    refine px_istore_n dX4_model_9 (by decide) ?_
    exact px_sub (loop (s.1 1) 0 u (by omega) hR hW) rfl
  · refine px_callSx (ce_chkN (n := 8) (by decide) hx) dX4_model_3 L_RX4_84 rfl rfl (by decide) (by omega) (by omega) (Nat.le_of_ble_eq_true rfl) rfl ?_
    exact cqo.no (k := 0) h (if_neg hx) rfl
set_option maxRecDepth 100000 in
set_option maxHeartbeats 4000000 in
theorem ce_reduced {s : mm_S} {u : cc_U} {X : px_M} (hX : c9 X) (ok : mm_ok s) (h : cok s u) (x y z : Int32) : px_Met 9 70 8000 mX4_reduced [.inr (14, 0), .inl (.int x), .inl (.int y), .inl (.int z)] (cc_M u X) (fun o M' => ∃ v : Int, (kc_reduced s x y z = 0 → mm_rdv s (px_oc x) (px_tn y) (px_tn z) v ∧ v.natAbs ≤ 2 ^ 50) ∧ cqo X [cI] (kc_reduced s x y z) (.inl (.double (dz v))) s o M') := by
  refine px_ofW (by decide) W_mX4_reduced (Nat.le_of_ble_eq_true rfl) ?_
  obtain ⟨⟨O, hR⟩, hW⟩ := id h
  have hbd := ok.h1
  have h0 := hR.obj (i := 0) (by decide)
  have h1 := hR.obj (i := 1) (by decide)
  have bad : kc_reduced s x y z = 1 → ∃ v : Int, (kc_reduced s x y z = 0 → mm_rdv s (px_oc x) (px_tn y) (px_tn z) v ∧ v.natAbs ≤ 2 ^ 50) ∧ cqo X [cI] (kc_reduced s x y z) (.inl (.double (dz v))) s (.inr cI) (cc_M u X) := fun e => ⟨0, fun e' => by omega, cqo.no (k := 0) h e rfl⟩
  refine px_iload_n dX4_reduced_0 rfl ?_
  refine px_bipush (v := nI 8) dX4_reduced_1 (by decide) ?_
  by_cases hx : px_ix x 8
  · refine px_callSv (ce_chk (n := 8) (by decide) hx) dX4_reduced_3 L_RX4_84 rfl rfl (by decide) (by omega) (by omega) (Nat.le_of_ble_eq_true rfl) ?_
    refine px_iload_n dX4_reduced_6 rfl ?_
    refine px_aload_n dX4_reduced_7 rfl trivial ?_
    refine px_getf dX4_reduced_8 F_RX4_12 (cc_obj (by first | assumption | (simp only [cxN, cxZ, cxS, cxL, cxR]; assumption))) (by rfl) ?_
    refine px_callVr (cl_size rfl (by first | assumption | (simp only [cxN, cxZ, cxS, cxL, cxR]; assumption)) hX) dX4_reduced_11 L_RX4_70 (cc_rcL rfl (by first | assumption | (simp only [cxN, cxZ, cxS, cxL, cxR]; assumption))) rfl rfl (by decide) (by omega) (by omega) (Nat.le_of_ble_eq_true rfl) ?_
    rw [hR.pl]
    by_cases hy : px_ix y (s.1 1)
    · refine px_callSv (ce_chk (by omega) hy) dX4_reduced_14 L_RX4_84 rfl rfl (by decide) (by omega) (by omega) (Nat.le_of_ble_eq_true rfl) ?_
      refine px_iload_n dX4_reduced_17 rfl ?_
      refine px_aload_n dX4_reduced_18 rfl trivial ?_
      refine px_getf dX4_reduced_19 F_RX4_12 (cc_obj (by first | assumption | (simp only [cxN, cxZ, cxS, cxL, cxR]; assumption))) (by rfl) ?_
      refine px_callVr (cl_size rfl (by first | assumption | (simp only [cxN, cxZ, cxS, cxL, cxR]; assumption)) hX) dX4_reduced_22 L_RX4_70 (cc_rcL rfl (by first | assumption | (simp only [cxN, cxZ, cxS, cxL, cxR]; assumption))) rfl rfl (by decide) (by omega) (by omega) (Nat.le_of_ble_eq_true rfl) ?_
      rw [hR.pl]
      by_cases hz : px_ix z (s.1 1)
      · refine px_callSv (ce_chk (by omega) hz) dX4_reduced_25 L_RX4_84 rfl rfl (by decide) (by omega) (by omega) (Nat.le_of_ble_eq_true rfl) ?_
        have e : kc_reduced s x y z = 0 := by
          unfold kc_reduced
          rw [if_neg (fun q => q hx), if_neg (fun q => q hy), if_neg (fun q => q hz)]
        rw [e]
        obtain ⟨b1, b2, b3⟩ := px_oc_ix hx
        obtain ⟨ey1, ey2⟩ := px_ix_tn hy
        obtain ⟨ez1, ez2⟩ := px_ix_tn hz
        generalize px_oc x = b at b1 b2 b3
        subst b1
        generalize px_tn y = p at ey1 ey2
        subst ey1
        generalize px_tn z = q at ez1 ez2
        subst ez1
        obtain ⟨L, a1, a2, a3, a4, a5, a6, a7⟩ := hR.inOk ok ey2
        obtain ⟨c1, c2', c3', c4, c5, c6⟩ := hR.outOk ok ez2
        have inp := cInp_iff hR ok (b := b) ey2 b2 a7
        have out := cOut_iff hR ok (b := b) ez2 b2
        have none : ¬ (cInp u L p b ∧ cOut u (cOL s q) q b) → px_W 9 70 8000 mX4_reduced (fun o M' => ∃ v : Int, (0 = 0 → mm_rdv s b p q v ∧ v.natAbs ≤ 2 ^ 50) ∧ cqo X [cI] 0 (.inl (.double (dz v))) s o M') 72 [(0, .inr (14, 0))] [] (cc_M u X) 3 18 := fun hn => by
          refine pn_ldc2d dX4_reduced_72 D_RX4_189 dz_m1 ?_
          refine px_dret dX4_reduced_75 rfl ?_ (by omega) (by omega)
          refine ⟨-8, fun _ => ⟨⟨fun hr => absurd ⟨inp.mpr ⟨hr.1, hr.2.2.1⟩, out.mpr ⟨hr.2.1, hr.2.2.2.1⟩⟩ hn, fun _ => rfl⟩, by decide⟩, cqo.ok h rfl⟩
        refine px_aload_n dX4_reduced_28 rfl trivial ?_
        refine px_getf dX4_reduced_29 F_RX4_12 (cc_obj (by first | assumption | (simp only [cxN, cxZ, cxS, cxL, cxR]; assumption))) (by rfl) ?_
        refine px_iload_n dX4_reduced_32 rfl ?_
        refine px_callVr (cl_get (x := (2, p)) (by rw [hR.1.2.1]; exact c2_get (by rw [List.getElem?_range ey2])) rfl (by first | assumption | (simp only [cxN, cxZ, cxS, cxL, cxR]; assumption)) hX) dX4_reduced_33 L_RX4_98 (cc_rcL rfl (by first | assumption | (simp only [cxN, cxZ, cxS, cxL, cxR]; assumption))) rfl rfl (by decide) (by omega) (by omega) (Nat.le_of_ble_eq_true rfl) ?_
        refine px_cast dX4_reduced_36 (cc_pin (by first | assumption | (simp only [cxN, cxZ, cxS, cxL, cxR]; assumption))) rfl K_RX4_35 ?_
        refine px_astore dX4_reduced_39 (by decide) trivial ?_
        refine px_aload_n dX4_reduced_41 rfl trivial ?_
        refine px_getf dX4_reduced_42 F_RX4_12 (cc_obj (by first | assumption | (simp only [cxN, cxZ, cxS, cxL, cxR]; assumption))) (by rfl) ?_
        refine px_iload_n dX4_reduced_45 rfl ?_
        refine px_callVr (cl_get (x := (2, q)) (by rw [hR.1.2.1]; exact c2_get (by rw [List.getElem?_range ez2])) rfl (by first | assumption | (simp only [cxN, cxZ, cxS, cxL, cxR]; assumption)) hX) dX4_reduced_46 L_RX4_98 (cc_rcL rfl (by first | assumption | (simp only [cxN, cxZ, cxS, cxL, cxR]; assumption))) rfl rfl (by decide) (by omega) (by omega) (Nat.le_of_ble_eq_true rfl) ?_
        refine px_cast dX4_reduced_49 (cc_pin (by first | assumption | (simp only [cxN, cxZ, cxS, cxL, cxR]; assumption))) rfl K_RX4_35 ?_
        refine px_astore dX4_reduced_52 (by decide) trivial ?_
        refine px_aload dX4_reduced_54 rfl trivial ?_
        refine px_iload_n dX4_reduced_56 rfl ?_
        refine px_callSr (ce_isInput hX a1 a2 a3 a4 a5 (b := b) (by omega) a6) dX4_reduced_57 L_RX4_175 rfl rfl (by decide) (by omega) (by omega) (Nat.le_of_ble_eq_true rfl) ?_
        refine pn_if_eq (tgt := 72) dX4_reduced_60 (by decide) (px_ch_z _) (fun g8 => ?_) (fun g8 => ?_)
        · exact px_sub (none fun q => g8 q.1) rfl
        have g8' := Classical.byContradiction g8
        refine px_aload dX4_reduced_63 rfl trivial ?_
        refine px_iload_n dX4_reduced_65 rfl ?_
        refine px_callSr (ce_isOutput hX c1 c2' c3' c4 c5 (b := b) (by omega) c6) dX4_reduced_66 L_RX4_186 rfl rfl (by decide) (by omega) (by omega) (Nat.le_of_ble_eq_true rfl) ?_
        refine pn_if_ne (tgt := 76) dX4_reduced_69 (by decide) (px_ch_z _) (fun g9 => ?_) (fun g9 => ?_)
        · have g9' := Classical.byContradiction g9
          obtain ⟨i1, i2⟩ := inp.mp g8'
          obtain ⟨o1, o2⟩ := out.mp g9'
          refine px_aload_n dX4_reduced_76 rfl trivial ?_
          refine px_aload dX4_reduced_77 rfl trivial ?_
          refine px_iload_n dX4_reduced_79 rfl ?_
          refine px_callV (ce_sprd hX ok hR ey2 (b := b) (by omega) (Or.inr i1)) dX4_reduced_80 L_RX4_102 (cc_rc4 (by first | assumption | (simp only [cxN, cxZ, cxS, cxL, cxR]; assumption))) rfl rfl (by decide) (by omega) (by omega) (Nat.le_of_ble_eq_true rfl) (fun v9 M9 hq => ?_) (fun E9 M9 hq => ?_)
          · obtain ⟨e1, f, hf, rfl⟩ := hq
            cases e1
            have hRf := hR.G (g := f) hf.2
            have kq := (hRf.2.2.1.pn ez2).1
            obtain ⟨r1, r2, r3⟩ := hf.1 q ez2
            refine px_aload dX4_reduced_83 rfl trivial ?_
            refine px_getf dX4_reduced_85 F_RX4_106 (cc_pin (by first | assumption | (simp only [cxN, cxZ, cxS, cxL, cxR]; assumption))) (by rfl) ?_
            refine px_dret dX4_reduced_88 rfl ?_ (by omega) (by omega)
            refine ⟨f q, fun _ => ⟨⟨fun hr => r2 hr.2.2.2.2, fun hr => r3 fun hrc => hr ⟨i1, o1, i2, o2, hrc⟩⟩, by have := hf.2 q; omega⟩, cqo.ok ⟨⟨O, hRf⟩, hW.cg _⟩ rfl⟩
          · exact absurd hq.1 (fun z => by cases z)
        · exact px_sub (none fun q => g9 q.2) rfl
      · refine px_callSx (ce_chkN (by omega) hz) dX4_reduced_25 L_RX4_84 rfl rfl (by decide) (by omega) (by omega) (Nat.le_of_ble_eq_true rfl) rfl ?_
        exact bad (by unfold kc_reduced; rw [if_neg (fun q => q hx), if_neg (fun q => q hy), if_pos hz])
    · refine px_callSx (ce_chkN (by omega) hy) dX4_reduced_14 L_RX4_84 rfl rfl (by decide) (by omega) (by omega) (Nat.le_of_ble_eq_true rfl) rfl ?_
      exact bad (by unfold kc_reduced; rw [if_neg (fun q => q hx), if_pos hy])
  · refine px_callSx (ce_chkN (n := 8) (by decide) hx) dX4_reduced_3 L_RX4_84 rfl rfl (by decide) (by omega) (by omega) (Nat.le_of_ble_eq_true rfl) rfl ?_
    exact bad (by unfold kc_reduced; rw [if_pos hx])
