section C13
variable {u : cc_U} {X : px_M} {k i n : Nat}
theorem isl3 (h : isl k i = true) : k ≠ 3 := by
  intro e
  subst e
  unfold isl at h
  simp at h
theorem cl_size3 (o : px_O) (h : isl k i = true) (hx : cx u k i) (hX : c9 X) : px_Met 0 0 0 mJx4a65c_size_8abf5 [.inr (k, i)] (px_up (cc_M u X) (3, n) o) (px_rt (some (.inl (.int (nI (cl u k i).length)))) (px_up (cc_M u X) (3, n) o)) := jl_size ((px_up_n _ _ (ce_ne (isl3 h))).trans (cc_lst h hx)) (isl_k h).2 (px_u9 (cc_99 hX) (by simp))
theorem cc_rcL3 (o : px_O) (h : isl k i = true) (hx : cx u k i) : px_rcv (px_up (cc_M u X) (3, n) o) (k, i) RJx4a65c := Or.inr ⟨_, (px_up_n _ _ (ce_ne (isl3 h))).trans (cc_lst h hx), rfl⟩
theorem cc_newS {a b c : Nat} {z : Int} : px_up (cc_M u X) (3, n) (.inl (2, [.inl (.int (nI a)), .inr (2, b), .inr (2, c), .inl (.double (dz z)), .inl (.int (nI 0)), .inl (.int (nI 0))])) = cc_M (cNew u 3 n (cF5 a b c) (fun _ => z)) X := cc_up (by decide) (by unfold cc_cell; rw [if_neg Nat.one_ne_zero]; rfl)
theorem c3_ins (A S : List Nat) (n : Nat) : (c3 (A ++ S)).take A.length ++ (3, n) :: (c3 (A ++ S)).drop A.length = c3 ((A ++ [n]) ++ S) := by
  rw [← List.map_take, ← List.map_drop, List.take_left, List.drop_left]
  simp
theorem cc_obs3s {L : List Nat} (h : ∀ m ∈ L, cx u 3 m) : ∀ y ∈ c3 L, px_obs (cc_M u X) y := fun y hy => by
  obtain ⟨m, hm, rfl⟩ := List.mem_map.mp hy
  exact cc_obs3 (h m hm)
theorem cc_obs2s {L : List Nat} (h : ∀ m ∈ L, cx u 2 m) : ∀ y ∈ c2 L, px_obs (cc_M u X) y := fun y hy => by
  obtain ⟨m, hm, rfl⟩ := List.mem_map.mp hy
  exact cc_obs2 (h m hm)
end C13
theorem cRl.stl {s : mm_S} {u : cc_U} {O : List Nat} (h : cRl s u O) : (cl u 14 3).length = s.1 9 := by rw [h.1.2.2.2.1, List.length_map, cSt_len]
/-- how long a pin's list of what leads to it is -/
theorem cRl.inl {s : mm_S} {u : cc_U} {O : List Nat} (h : cRl s u O) (h2 : s.1 6 ≤ 150) {p : Nat} (hp : p < s.1 1) : ∃ L, cl u 12 p = c3 L ∧ L.length ≤ s.1 6 + s.1 9 ∧ (∀ n, n ∈ L ↔ cInn s p n) ∧ ∀ n ∈ L, cStp s n := by
  obtain ⟨L, e1, e2, e3⟩ := h.2.2.2.2.1.2.2 p hp
  have hm : ∀ n ∈ L, n ∈ List.range (s.1 6) ++ cSt s := fun n hn => by
    rw [List.mem_append, List.mem_range, cSt_mem]
    have := (e3 n).mp hn
    unfold cInn at this; omega
  have := px_sub_len L _ e2 hm
  rw [List.length_append, List.length_range, cSt_len] at this
  refine ⟨L, e1, this, e3, fun n hn => ?_⟩
  have := (e3 n).mp hn
  unfold cInn at this
  unfold cStp; omega
set_option maxRecDepth 100000 in
set_option maxHeartbeats 4000000 in
theorem ce_end {s : mm_S} {u : cc_U} {X : px_M} (hX : c9 X) (ok : mm_ok s) (h : cok s u) (x : Int32) (d : Int) (hd : d.natAbs ≤ 2 ^ 32) : px_Met 9 70 8000 mX4_end [.inr (14, 0), .inl (.int x), .inl (.double (dz d))] (cc_M u X) (cqo X [cI, cB, cA] (kc_end s x d) (.inl (.int (nI (s.1 13)))) (nx_end s x d)) := by
  refine px_ofW (by decide) W_mX4_end (Nat.le_of_ble_eq_true rfl) ?_
  obtain ⟨⟨O, hR⟩, hW⟩ := id h
  have hbd := ok.h1
  have h0 := hR.obj (i := 0) (by decide)
  have h1 := hR.obj (i := 1) (by decide)
  have h4 := hR.obj (i := 4) (by decide)
  have nx1 : kc_end s x d ≠ 0 → nx_end s x d = s := fun e => by unfold nx_end; rw [if_neg e]
  refine px_iload_n dX4_end_0 rfl ?_
  refine px_aload_n dX4_end_1 rfl trivial ?_
  refine px_getf dX4_end_2 F_RX4_12 (cc_obj (by first | assumption | (simp only [cxN, cxZ, cxS, cxL, cxR]; assumption))) (by rfl) ?_
  refine px_callVr (cl_size rfl (by first | assumption | (simp only [cxN, cxZ, cxS, cxL, cxR]; assumption)) hX) dX4_end_5 L_RX4_70 (cc_rcL rfl (by first | assumption | (simp only [cxN, cxZ, cxS, cxL, cxR]; assumption))) rfl rfl (by decide) (by omega) (by omega) (Nat.le_of_ble_eq_true rfl) ?_
  rw [hR.pl]
  by_cases hx : px_ix x (s.1 1)
  · refine px_callSv (ce_chk (by omega) hx) dX4_end_8 L_RX4_84 rfl rfl (by decide) (by omega) (by omega) (Nat.le_of_ble_eq_true rfl) ?_
    refine px_aload_n dX4_end_11 rfl trivial ?_
    refine px_getf dX4_end_12 F_RX4_22 (cc_obj (by first | assumption | (simp only [cxN, cxZ, cxS, cxL, cxR]; assumption))) (by rfl) ?_
    refine px_callVr (cl_size rfl (by first | assumption | (simp only [cxN, cxZ, cxS, cxL, cxR]; assumption)) hX) dX4_end_15 L_RX4_70 (cc_rcL rfl (by first | assumption | (simp only [cxN, cxZ, cxS, cxL, cxR]; assumption))) rfl rfl (by decide) (by omega) (by omega) (Nat.le_of_ble_eq_true rfl) ?_
    rw [hR.en]
    refine px_bipush (v := nI 30) dX4_end_18 (by decide) ?_
    refine pn_icmp_lt (tgt := 33) dX4_end_20 (by decide) (nI_ltI (by omega) (by omega)) (fun g1 => ?_) (fun g1 => ?_)
    · refine px_dload_n dX4_end_33 rfl ?_
      by_cases hdl : -8388608 ≤ d ∧ d ≤ 8388608
      · refine px_callSv (ce_time hdl) dX4_end_34 L_RX4_131 rfl rfl (by decide) (by omega) (by omega) (Nat.le_of_ble_eq_true rfl) ?_
        have e : kc_end s x d = 0 := by
          unfold kc_end
          rw [if_neg (fun z => z hx), if_neg (by omega), if_pos hdl]
        obtain ⟨ex1, ex2⟩ := px_ix_tn hx
        unfold nx_end
        rw [e, if_pos rfl]
        generalize px_tn x = p at ex1 ex2
        subst ex1
        have hR1 := hR.end_ ok (d := d) ex2
        have hp := hR.2.2.1.pn ex2
        obtain ⟨o1, o2⟩ := hR.outs (Or.inl ex2) hbd.1
        have o3 : cl u 13 p = c3 (cEn s p ++ cAr s p) := by rw [o1]; unfold cOL; rw [if_neg (by omega)]
        have o4 := (hR.2.2.2.2.1.1 p ex2).2
        have o5 := cOL_len ok p
        have o6 : (cEn s p ++ cAr s p).length = (cOL s p).length := by unfold cOL; rw [if_neg (by omega)]
        have n3 : cc_M u X (3, 300 + s.1 13) = none := cc_no (fun y => by have := (hR.2.2.2.1.1 _).mp y; unfold cStp at this; omega) (by decide)
        have hst : ∀ m ∈ cEn s p ++ cAr s p, cx u 3 m := fun m hm => (hR.2.2.2.1.1 m).mpr (o2 m (by unfold cOL; rw [if_neg (by omega)]; exact hm)).1
        have hlen : (cEn s p).length ≤ 30 := by
          unfold cEn
          rw [List.length_map]
          exact Nat.le_trans (List.length_filter_le _ _) (by rw [List.length_range]; omega)
        refine px_aload_n dX4_end_37 rfl trivial ?_
        refine px_getf dX4_end_38 F_RX4_12 (cc_obj (by first | assumption | (simp only [cxN, cxZ, cxS, cxL, cxR]; assumption))) (by rfl) ?_
        refine px_iload_n dX4_end_41 rfl ?_
        refine px_callVr (cl_get (x := (2, p)) (by rw [hR.1.2.1]; exact c2_get (by rw [List.getElem?_range ex2])) rfl (by first | assumption | (simp only [cxN, cxZ, cxS, cxL, cxR]; assumption)) hX) dX4_end_42 L_RX4_98 (cc_rcL rfl (by first | assumption | (simp only [cxN, cxZ, cxS, cxL, cxR]; assumption))) rfl rfl (by decide) (by omega) (by omega) (Nat.le_of_ble_eq_true rfl) ?_
        have hp2 := hp.1
        refine px_cast dX4_end_45 (cc_pin (by first | assumption | (simp only [cxN, cxZ, cxS, cxL, cxR]; assumption))) rfl K_RX4_35 ?_
        refine px_astore dX4_end_48 (by decide) trivial ?_
        refine px_newo (ci := 2) (3, 300 + s.1 13) dX4_end_50 rfl K_RX4_115 N_RX2 Z_RX2 n3 rfl (by omega) (by omega) ?_
        refine px_dup dX4_end_53 rfl ?_
        refine px_aload_n dX4_end_54 rfl trivial ?_
        refine px_getf dX4_end_55 F_RX4_22 (((px_up_n _ _ (ce_ne (by decide))).trans (cc_obj h0))) (by rfl) ?_
        refine px_callVr (cl_size3 _ rfl h4 hX) dX4_end_58 L_RX4_70 (cc_rcL3 _ rfl h4) rfl rfl (by decide) (by omega) (by omega) (Nat.le_of_ble_eq_true rfl) ?_
        rw [hR.en]
        refine px_aload dX4_end_61 rfl trivial ?_
        refine px_aload_n dX4_end_63 rfl trivial ?_
        refine px_getf dX4_end_64 F_RX4_44 (((px_up_n _ _ (ce_ne (by decide))).trans (cc_obj h0))) (by rfl) ?_
        refine pn_dconst0 dX4_end_67 ?_
        refine px_dload_n dX4_end_68 rfl ?_
        refine pn_dsub dX4_end_69 (by omega) (by omega) (by first | exact Int.add_zero _ | rfl) ?_
        refine px_callI (ce_newS (px_up_s _ _ _)) dX4_end_70 L_RX4_117 rfl rfl rfl (by decide) (by omega) (by omega) (Nat.le_of_ble_eq_true rfl) ?_
        rw [px_up2]
        refine px_eqM cc_newS ?_
        have x1 : ∀ k i, cx u k i → cx (cNew u 3 (300 + s.1 13) (cF5 (s.1 13) p 61) (fun _ => 0 - d)) k i := fun k i hk => (cxW _ _ _ _ _ _ _).mpr (Or.inr hk)
        have x2 : cx (cNew u 3 (300 + s.1 13) (cF5 (s.1 13) p 61) (fun _ => 0 - d)) 3 (300 + s.1 13) := (cxW _ _ _ _ _ _ _).mpr (Or.inl ⟨rfl, rfl⟩)
        have w13 : cl (cNew u 3 (300 + s.1 13) (cF5 (s.1 13) p 61) (fun _ => 0 - d)) 13 p = c3 (cEn s p ++ cAr s p) := (clW _ _ _ _ _ _ _ (by decide)).trans o3
        have w4 : cn (cNew u 3 (300 + s.1 13) (cF5 (s.1 13) p 61) (fun _ => 0 - d)) 2 p 1 = (cEn s p).length := (cnW _ _ _ _ _ _ _ _).trans ((if_neg (by omega)).trans o4)
        have y2 := x1 2 p hp.1
        have y13 := x1 13 p hp.2.2.2.2.2.2.2.1
        have y0 := x1 14 0 h0
        have y4 := x1 14 4 h4
        refine px_astore dX4_end_73 (by decide) trivial ?_
        refine px_aload dX4_end_75 rfl trivial ?_
        refine px_getf dX4_end_77 F_RX4_120 (cc_pin (by first | assumption | (simp only [cxN, cxZ, cxS, cxL, cxR]; assumption))) (by rfl) ?_
        refine px_aload dX4_end_80 rfl trivial ?_
        refine px_getf dX4_end_82 F_RX4_135 (cc_pin (by first | assumption | (simp only [cxN, cxZ, cxS, cxL, cxR]; assumption))) (by rfl) ?_
        refine px_aload dX4_end_85 rfl trivial ?_
        rw [cn_def, w4]
        refine px_callVv (cl_addAt (B := 281) (by rw [w13, List.length_map]; exact ⟨by omega, by omega, by rw [List.length_append]; omega⟩) ⟨cc_obs3 x2, by rw [w13]; exact cc_obs3s fun m hm => x1 3 m (hst m hm)⟩ rfl (by first | assumption | (simp only [cxN, cxZ, cxS, cxL, cxR]; assumption)) hX) dX4_end_87 L_RX4_138 (cc_rcL rfl (by first | assumption | (simp only [cxN, cxZ, cxS, cxL, cxR]; assumption))) rfl rfl (by decide) (by omega) (by omega) (Nat.le_of_ble_eq_true rfl) ?_
        rw [w13, c3_ins]
        refine px_aload dX4_end_90 rfl trivial ?_
        refine px_dup dX4_end_92 rfl ?_
        refine px_getf dX4_end_93 F_RX4_135 (cc_pin (by first | assumption | (simp only [cxN, cxZ, cxS, cxL, cxR]; assumption))) (by rfl) ?_
        rw [show ((cL (cNew u 3 (300 + s.1 13) (cF5 (s.1 13) p 61) (fun _ => 0 - d)) 13 p (c3 (cEn s p ++ [300 + s.1 13] ++ cAr s p)) 2 p).1 1 : Nat) = (cEn s p).length from (cnL _ _ _ _ _ _ _).trans w4]
        refine px_iconst (v := nI 1) dX4_end_96 (by decide) ?_
        refine pn_iadd dX4_end_97 (by first | exact nI_add _ _ | rfl) ?_
        refine cp_endc dX4_end_98 F_RX4_135 (by first | assumption | (simp only [cxN, cxZ, cxS, cxL, cxR]; assumption)) rfl ?_
        refine px_aload_n dX4_end_101 rfl trivial ?_
        refine px_getf dX4_end_102 F_RX4_22 (cc_obj (by first | assumption | (simp only [cxN, cxZ, cxS, cxL, cxR]; assumption))) (by rfl) ?_
        refine px_aload dX4_end_105 rfl trivial ?_
        have l4 : cl (cN (cL (cNew u 3 (300 + s.1 13) (cF5 (s.1 13) p 61) (fun _ => 0 - d)) 13 p (c3 (cEn s p ++ [300 + s.1 13] ++ cAr s p))) 2 p 1 ((cEn s p).length + 1)) 14 4 = cl u 14 4 := by rw [clN, clL, if_neg (by omega), clW _ _ _ _ _ _ _ (by decide)]
        refine px_callVr (cl_add (by rw [l4, hR.en]; omega) ⟨cc_obs3 (by rw [cxN, cxL]; exact x2), by rw [l4, hR.1.2.2.2.2.1]; exact cc_obs3s fun m hm => by rw [cxN, cxL]; exact x1 3 m ((hR.2.2.2.1.1 m).mpr (by obtain ⟨a, ha, rfl⟩ := List.mem_map.mp hm; have := List.mem_range.mp ha; unfold cStp; omega))⟩ rfl (by first | assumption | (simp only [cxN, cxZ, cxS, cxL, cxR]; assumption)) hX) dX4_end_107 L_RX4_80 (cc_rcL rfl (by first | assumption | (simp only [cxN, cxZ, cxS, cxL, cxR]; assumption))) rfl rfl (by decide) (by omega) (by omega) (Nat.le_of_ble_eq_true rfl) ?_
        rw [l4]
        have hR2 := hR1.unl
        have hx9 := x2
        refine px_pop dX4_end_110 rfl ?_
        refine px_aload_n dX4_end_111 rfl trivial ?_
        refine px_iconst (v := nI 0) dX4_end_112 (by decide) ?_
        refine cp_listed dX4_end_113 F_RX4_50 (by first | assumption | (simp only [cxN, cxZ, cxS, cxL, cxR]; assumption)) rfl (by decide) ?_
        refine px_aload dX4_end_116 rfl trivial ?_
        refine px_getf dX4_end_118 F_RX4_126 (cc_step (by first | assumption | (simp only [cxN, cxZ, cxS, cxL, cxR]; assumption))) (by rfl) ?_
        refine px_iret dX4_end_121 rfl ?_ (by omega) (by omega)
        refine ⟨_, rfl, ⟨⟨O, hR2⟩, cRW.no rfl⟩, fun _ => ?_, fun z => absurd rfl z⟩
        rw [cn_def, cnN, if_neg (by omega), cnL, cnN, if_neg (by omega), cnL, cnW, if_pos ⟨rfl, rfl⟩]
        rfl
      · refine px_callSx (ce_timeN (by omega) hdl) dX4_end_34 L_RX4_131 rfl rfl (by decide) (by omega) (by omega) (Nat.le_of_ble_eq_true rfl) rfl ?_
        have e : kc_end s x d = 3 := by
          unfold kc_end
          rw [if_neg (fun z => z hx), if_neg (by omega), if_neg hdl]
        exact cqo.no (k := 2) (by rw [nx1 (by omega)]; exact h) e rfl
    · refine px_throw (text := "no more ends") cT_77 rfl rfl (by decide) dX4_end_23 dX4_end_26 dX4_end_27 dX4_end_29 dX4_end_32 (Nat.le_of_ble_eq_true rfl) ?_ (by omega) (by omega)
      have e : kc_end s x d = 2 := by
        unfold kc_end
        rw [if_neg (fun z => z hx), if_pos (by omega)]
      exact cqo.no (k := 1) (by rw [nx1 (by omega)]; exact h) e rfl
  · refine px_callSx (ce_chkN (by omega) hx) dX4_end_8 L_RX4_84 rfl rfl (by decide) (by omega) (by omega) (Nat.le_of_ble_eq_true rfl) rfl ?_
    have e : kc_end s x d = 1 := by
      unfold kc_end
      rw [if_pos hx]
    exact cqo.no (k := 0) (by rw [nx1 (by omega)]; exact h) e rfl
set_option maxRecDepth 100000 in
set_option maxHeartbeats 4000000 in
theorem ce_start {s : mm_S} {u : cc_U} {X : px_M} (hX : c9 X) (ok : mm_ok s) (h : cok s u) (x : Int32) (d : Int) (hd : d.natAbs ≤ 2 ^ 32) : px_Met 9 70 8000 mX4_start [.inr (14, 0), .inl (.int x), .inl (.double (dz d))] (cc_M u X) (cqo X [cI, cB, cA] (kc_start s x d) (.inl (.int (nI (s.1 9)))) (nx_start s x d)) := by
  refine px_ofW (by decide) W_mX4_start (Nat.le_of_ble_eq_true rfl) ?_
  obtain ⟨⟨O, hR⟩, hW⟩ := id h
  have hbd := ok.h1
  have h0 := hR.obj (i := 0) (by decide)
  have h1 := hR.obj (i := 1) (by decide)
  have h3 := hR.obj (i := 3) (by decide)
  have nx1 : kc_start s x d ≠ 0 → nx_start s x d = s := fun e => by unfold nx_start; rw [if_neg e]
  refine px_iload_n dX4_start_0 rfl ?_
  refine px_aload_n dX4_start_1 rfl trivial ?_
  refine px_getf dX4_start_2 F_RX4_12 (cc_obj (by first | assumption | (simp only [cxN, cxZ, cxS, cxL, cxR]; assumption))) (by rfl) ?_
  refine px_callVr (cl_size rfl (by first | assumption | (simp only [cxN, cxZ, cxS, cxL, cxR]; assumption)) hX) dX4_start_5 L_RX4_70 (cc_rcL rfl (by first | assumption | (simp only [cxN, cxZ, cxS, cxL, cxR]; assumption))) rfl rfl (by decide) (by omega) (by omega) (Nat.le_of_ble_eq_true rfl) ?_
  rw [hR.pl]
  by_cases hx : px_ix x (s.1 1)
  · refine px_callSv (ce_chk (by omega) hx) dX4_start_8 L_RX4_84 rfl rfl (by decide) (by omega) (by omega) (Nat.le_of_ble_eq_true rfl) ?_
    refine px_aload_n dX4_start_11 rfl trivial ?_
    refine px_getf dX4_start_12 F_RX4_19 (cc_obj (by first | assumption | (simp only [cxN, cxZ, cxS, cxL, cxR]; assumption))) (by rfl) ?_
    refine px_callVr (cl_size rfl (by first | assumption | (simp only [cxN, cxZ, cxS, cxL, cxR]; assumption)) hX) dX4_start_15 L_RX4_70 (cc_rcL rfl (by first | assumption | (simp only [cxN, cxZ, cxS, cxL, cxR]; assumption))) rfl rfl (by decide) (by omega) (by omega) (Nat.le_of_ble_eq_true rfl) ?_
    rw [hR.stl]
    refine px_bipush (v := nI 30) dX4_start_18 (by decide) ?_
    refine pn_icmp_lt (tgt := 33) dX4_start_20 (by decide) (nI_ltI (by omega) (by omega)) (fun g1 => ?_) (fun g1 => ?_)
    · refine px_dload_n dX4_start_33 rfl ?_
      by_cases hdl : -8388608 ≤ d ∧ d ≤ 8388608
      · refine px_callSv (ce_time hdl) dX4_start_34 L_RX4_131 rfl rfl (by decide) (by omega) (by omega) (Nat.le_of_ble_eq_true rfl) ?_
        have e : kc_start s x d = 0 := by
          unfold kc_start
          rw [if_neg (fun z => z hx), if_neg (by omega), if_pos hdl]
        obtain ⟨ex1, ex2⟩ := px_ix_tn hx
        unfold nx_start
        rw [e, if_pos rfl]
        generalize px_tn x = p at ex1 ex2
        subst ex1
        have hR1 := hR.start_ ok (d := d) ex2 (by omega)
        have hp := hR.2.2.1.pn ex2
        have hsrc := hR.2.2.1.1 60 (Or.inr (Or.inl rfl))
        obtain ⟨o1, o2⟩ := hR.outs (p := 60) (Or.inr rfl) hbd.1
        have o5 := hR.2.2.2.2.1.2.1
        obtain ⟨L, i1, i2, i3, i4⟩ := hR.inl hbd.2.1 ex2
        have n3 : cc_M u X (3, 200 + s.1 9) = none := cc_no (fun y => by have := (hR.2.2.2.1.1 _).mp y; unfold cStp at this; omega) (by decide)
        have hst : ∀ m ∈ cSt s, cx u 3 m := fun m hm => (hR.2.2.2.1.1 m).mpr (by have := cSt_mem.mp hm; unfold cStp; omega)
        refine px_aload_n dX4_start_37 rfl trivial ?_
        refine px_getf dX4_start_38 F_RX4_12 (cc_obj (by first | assumption | (simp only [cxN, cxZ, cxS, cxL, cxR]; assumption))) (by rfl) ?_
        refine px_iload_n dX4_start_41 rfl ?_
        refine px_callVr (cl_get (x := (2, p)) (by rw [hR.1.2.1]; exact c2_get (by rw [List.getElem?_range ex2])) rfl (by first | assumption | (simp only [cxN, cxZ, cxS, cxL, cxR]; assumption)) hX) dX4_start_42 L_RX4_98 (cc_rcL rfl (by first | assumption | (simp only [cxN, cxZ, cxS, cxL, cxR]; assumption))) rfl rfl (by decide) (by omega) (by omega) (Nat.le_of_ble_eq_true rfl) ?_
        have hp2 := hp.1
        refine px_cast dX4_start_45 (cc_pin (by first | assumption | (simp only [cxN, cxZ, cxS, cxL, cxR]; assumption))) rfl K_RX4_35 ?_
        refine px_astore dX4_start_48 (by decide) trivial ?_
        refine px_newo (ci := 2) (3, 200 + s.1 9) dX4_start_50 rfl K_RX4_115 N_RX2 Z_RX2 n3 rfl (by omega) (by omega) ?_
        refine px_dup dX4_start_53 rfl ?_
        refine px_aload_n dX4_start_54 rfl trivial ?_
        refine px_getf dX4_start_55 F_RX4_19 (((px_up_n _ _ (ce_ne (by decide))).trans (cc_obj h0))) (by rfl) ?_
        refine px_callVr (cl_size3 _ rfl h3 hX) dX4_start_58 L_RX4_70 (cc_rcL3 _ rfl h3) rfl rfl (by decide) (by omega) (by omega) (Nat.le_of_ble_eq_true rfl) ?_
        rw [hR.stl]
        refine px_aload_n dX4_start_61 rfl trivial ?_
        refine px_getf dX4_start_62 F_RX4_40 (((px_up_n _ _ (ce_ne (by decide))).trans (cc_obj h0))) (by rfl) ?_
        refine px_aload dX4_start_65 rfl trivial ?_
        refine px_dload_n dX4_start_67 rfl ?_
        refine px_callI (ce_newS (px_up_s _ _ _)) dX4_start_68 L_RX4_117 rfl rfl rfl (by decide) (by omega) (by omega) (Nat.le_of_ble_eq_true rfl) ?_
        rw [px_up2]
        refine px_eqM cc_newS ?_
        have x1 : ∀ k i, cx u k i → cx (cNew u 3 (200 + s.1 9) (cF5 (s.1 9) 60 p) (fun _ => d)) k i := fun k i hk => (cxW _ _ _ _ _ _ _).mpr (Or.inr hk)
        have x2 : cx (cNew u 3 (200 + s.1 9) (cF5 (s.1 9) 60 p) (fun _ => d)) 3 (200 + s.1 9) := (cxW _ _ _ _ _ _ _).mpr (Or.inl ⟨rfl, rfl⟩)
        have w13 : cl (cNew u 3 (200 + s.1 9) (cF5 (s.1 9) 60 p) (fun _ => d)) 13 60 = cl u 13 60 := clW _ _ _ _ _ _ _ (by decide)
        have y2 := x1 2 p hp.1
        have y260 := x1 2 60 hsrc.1
        have y13 := x1 13 60 hsrc.2.2.2.2.2.2.2.1
        have y12 := x1 12 p hp.2.2.2.2.2.2.1
        have y0 := x1 14 0 h0
        have y3 := x1 14 3 h3
        refine px_astore dX4_start_71 (by decide) trivial ?_
        refine px_aload_n dX4_start_73 rfl trivial ?_
        refine px_getf dX4_start_74 F_RX4_40 (cc_obj (by first | assumption | (simp only [cxN, cxZ, cxS, cxL, cxR]; assumption))) (by rfl) ?_
        refine px_getf dX4_start_77 F_RX4_120 (cc_pin (by first | assumption | (simp only [cxN, cxZ, cxS, cxL, cxR]; assumption))) (by rfl) ?_
        refine px_aload dX4_start_80 rfl trivial ?_
        refine px_callVr (cl_add (by rw [w13, o5, List.length_map, cSt_len]; omega) ⟨cc_obs3 x2, by rw [w13, o5]; exact cc_obs3s fun m hm => x1 3 m (hst m hm)⟩ rfl (by first | assumption | (simp only [cxN, cxZ, cxS, cxL, cxR]; assumption)) hX) dX4_start_82 L_RX4_80 (cc_rcL rfl (by first | assumption | (simp only [cxN, cxZ, cxS, cxL, cxR]; assumption))) rfl rfl (by decide) (by omega) (by omega) (Nat.le_of_ble_eq_true rfl) ?_
        rw [w13]
        refine px_pop dX4_start_85 rfl ?_
        refine px_aload dX4_start_86 rfl trivial ?_
        refine px_getf dX4_start_88 F_RX4_123 (cc_pin (by first | assumption | (simp only [cxN, cxZ, cxS, cxL, cxR]; assumption))) (by rfl) ?_
        refine px_aload dX4_start_91 rfl trivial ?_
        have w12 : cl (cL (cNew u 3 (200 + s.1 9) (cF5 (s.1 9) 60 p) (fun _ => d)) 13 60 (cl u 13 60 ++ [(3, 200 + s.1 9)])) 12 p = cl u 12 p := by rw [clL, if_neg (by omega), clW _ _ _ _ _ _ _ (by decide)]
        refine px_callVr (cl_add (by rw [w12, i1, List.length_map]; omega) ⟨cc_obs3 (by rw [cxL]; exact x2), by rw [w12, i1]; exact cc_obs3s fun m hm => by rw [cxL]; exact x1 3 m ((hR.2.2.2.1.1 m).mpr (i4 m hm))⟩ rfl (by first | assumption | (simp only [cxN, cxZ, cxS, cxL, cxR]; assumption)) hX) dX4_start_93 L_RX4_80 (cc_rcL rfl (by first | assumption | (simp only [cxN, cxZ, cxS, cxL, cxR]; assumption))) rfl rfl (by decide) (by omega) (by omega) (Nat.le_of_ble_eq_true rfl) ?_
        rw [w12]
        refine px_pop dX4_start_96 rfl ?_
        refine px_aload_n dX4_start_97 rfl trivial ?_
        refine px_getf dX4_start_98 F_RX4_19 (cc_obj (by first | assumption | (simp only [cxN, cxZ, cxS, cxL, cxR]; assumption))) (by rfl) ?_
        refine px_aload dX4_start_101 rfl trivial ?_
        have w3 : cl (cL (cL (cNew u 3 (200 + s.1 9) (cF5 (s.1 9) 60 p) (fun _ => d)) 13 60 (cl u 13 60 ++ [(3, 200 + s.1 9)])) 12 p (cl u 12 p ++ [(3, 200 + s.1 9)])) 14 3 = cl u 14 3 := by rw [clL, if_neg (by omega), clL, if_neg (by omega), clW _ _ _ _ _ _ _ (by decide)]
        refine px_callVr (cl_add (by rw [w3, hR.stl]; omega) ⟨cc_obs3 (by rw [cxL, cxL]; exact x2), by rw [w3, hR.1.2.2.2.1]; exact cc_obs3s fun m hm => by rw [cxL, cxL]; exact x1 3 m (hst m hm)⟩ rfl (by first | assumption | (simp only [cxN, cxZ, cxS, cxL, cxR]; assumption)) hX) dX4_start_103 L_RX4_80 (cc_rcL rfl (by first | assumption | (simp only [cxN, cxZ, cxS, cxL, cxR]; assumption))) rfl rfl (by decide) (by omega) (by omega) (Nat.le_of_ble_eq_true rfl) ?_
        rw [w3]
        have hR2 := hR1.unl
        refine px_pop dX4_start_106 rfl ?_
        refine px_aload_n dX4_start_107 rfl trivial ?_
        refine px_iconst (v := nI 0) dX4_start_108 (by decide) ?_
        refine cp_listed dX4_start_109 F_RX4_50 (by first | assumption | (simp only [cxN, cxZ, cxS, cxL, cxR]; assumption)) rfl (by decide) ?_
        refine px_aload dX4_start_112 rfl trivial ?_
        refine px_getf dX4_start_114 F_RX4_126 (cc_step (by first | assumption | (simp only [cxN, cxZ, cxS, cxL, cxR]; assumption))) (by rfl) ?_
        refine px_iret dX4_start_117 rfl ?_ (by omega) (by omega)
        refine ⟨_, rfl, ⟨⟨O, hR2⟩, cRW.no rfl⟩, fun _ => ?_, fun z => absurd rfl z⟩
        rw [cn_def, cnN, if_neg (by omega), cnL, cnL, cnL, cnW, if_pos ⟨rfl, rfl⟩]
        rfl
      · refine px_callSx (ce_timeN (by omega) hdl) dX4_start_34 L_RX4_131 rfl rfl (by decide) (by omega) (by omega) (Nat.le_of_ble_eq_true rfl) rfl ?_
        have e : kc_start s x d = 3 := by
          unfold kc_start
          rw [if_neg (fun z => z hx), if_neg (by omega), if_neg hdl]
        exact cqo.no (k := 2) (by rw [nx1 (by omega)]; exact h) e rfl
    · refine px_throw (text := "no more starts") cT_77 rfl rfl (by decide) dX4_start_23 dX4_start_26 dX4_start_27 dX4_start_29 dX4_start_32 (Nat.le_of_ble_eq_true rfl) ?_ (by omega) (by omega)
      have e : kc_start s x d = 2 := by
        unfold kc_start
        rw [if_neg (fun z => z hx), if_pos (by omega)]
      exact cqo.no (k := 1) (by rw [nx1 (by omega)]; exact h) e rfl
  · refine px_callSx (ce_chkN (by omega) hx) dX4_start_8 L_RX4_84 rfl rfl (by decide) (by omega) (by omega) (Nat.le_of_ble_eq_true rfl) rfl ?_
    have e : kc_start s x d = 1 := by
      unfold kc_start
      rw [if_pos hx]
    exact cqo.no (k := 0) (by rw [nx1 (by omega)]; exact h) e rfl
