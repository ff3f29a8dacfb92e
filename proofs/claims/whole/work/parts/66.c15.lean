/-! ===== arc ===== -/
def nx1_arc (s : mm_S) (p q : Nat) (d : Int) : mm_S := mm_I (mm_D (mm_A (mm_A s 3 (s.1 6) p) 4 (s.1 6) q) 5 (s.1 6) d) 6 (s.1 6 + 1)
def cu_arc (s : mm_S) (u : cc_U) (p q : Nat) (d : Int) : cc_U := cL (cL (cL (cNew u 3 (s.1 6) (cF5 (s.1 6) p q) (fun _ => d)) 13 p (cl u 13 p ++ [(3, s.1 6)])) 12 q (cl u 12 q ++ [(3, s.1 6)])) 14 2 (cl u 14 2 ++ [(3, s.1 6)])
theorem cRl.arc_ {s : mm_S} {u : cc_U} {O : List Nat} (hR : cRl s u O) (ok : mm_ok s) {p q : Nat} {d : Int} (hp : p < s.1 1) (hq : q < s.1 1) (hn : s.1 6 < 150) (hpq : cn u 2 p 0 < cn u 2 q 0) : cRl (nx1_arc s p q d) (cu_arc s u p q d) O := by
  obtain ⟨hA, hB, hC, hD, hE, hF, hG, hH⟩ := id hR
  have hbd := ok.h1
  have q1 : ∀ k, k ≠ 6 → (nx1_arc s p q d).1 k = s.1 k := fun k hk => if_neg hk
  have q6 : (nx1_arc s p q d).1 6 = s.1 6 + 1 := mr_Ie
  have q2 : ∀ k i, k ≠ 3 → k ≠ 4 → (nx1_arc s p q d).2.1 k i = s.2.1 k i := fun k i h1 h2 => by
    show (mm_A (mm_A s 3 (s.1 6) p) 4 (s.1 6) q).2.1 k i = _
    rw [mr_An h2, mr_An h1]
  have qf : ∀ i, (nx1_arc s p q d).2.1 3 i = if i = s.1 6 then p else s.2.1 3 i := fun i => by
    show (mm_A (mm_A s 3 (s.1 6) p) 4 (s.1 6) q).2.1 3 i = _
    rw [mr_An (by decide)]; exact congrFun (mr_A0 s 3 (s.1 6) p) i
  have qt : ∀ i, (nx1_arc s p q d).2.1 4 i = if i = s.1 6 then q else s.2.1 4 i := fun i => by
    refine (congrFun (mr_A0 (mm_A s 3 (s.1 6) p) 4 (s.1 6) q) i).trans ?_
    unfold px_upN
    split
    · rfl
    · exact mr_An (by decide)
  have q3 : ∀ k i, k ≠ 5 → (nx1_arc s p q d).2.2 k i = s.2.2 k i := fun k i h1 => congrFun (if_neg h1) i
  have q5 : ∀ i, (nx1_arc s p q d).2.2 5 i = if i = s.1 6 then d else s.2.2 5 i := fun i => congrFun (mr_D0 (mm_A (mm_A s 3 (s.1 6) p) 4 (s.1 6) q) 5 (s.1 6) d) i
  generalize nx1_arc s p q d = s1 at q1 q6 q2 qf qt q3 q5
  have x : ∀ k i, cx (cu_arc s u p q d) k i ↔ (k = 3 ∧ i = s.1 6) ∨ cx u k i := fun k i => by unfold cu_arc; rw [cxL, cxL, cxL, cxW]
  have r : ∀ k i j, ¬ (k = 3 ∧ i = s.1 6) → cn (cu_arc s u p q d) k i j = cn u k i j := fun k i j h1 => by unfold cu_arc; rw [cnL, cnL, cnL, cnW, if_neg h1]
  have r0 : ∀ j, cn (cu_arc s u p q d) 3 (s.1 6) j = cF5 (s.1 6) p q j := fun j => by unfold cu_arc; rw [cnL, cnL, cnL, cnW, if_pos ⟨rfl, rfl⟩]
  have z : ∀ k i j, ¬ (k = 3 ∧ i = s.1 6) → cz (cu_arc s u p q d) k i j = cz u k i j := fun k i j h1 => by unfold cu_arc; rw [czL, czL, czL, czW, if_neg h1]
  have z0 : ∀ j, cz (cu_arc s u p q d) 3 (s.1 6) j = d := fun j => by unfold cu_arc; rw [czL, czL, czL, czW, if_pos ⟨rfl, rfl⟩]
  have y : ∀ k i j, k ≠ 3 → cs (cu_arc s u p q d) k i j = cs u k i j := fun k i j h1 => by unfold cu_arc; rw [csL, csL, csL, csW _ _ _ _ _ _ _ _ h1]
  have l : ∀ k i, k ≠ 3 → ¬ (k = 13 ∧ i = p) → ¬ (k = 12 ∧ i = q) → ¬ (k = 14 ∧ i = 2) → cl (cu_arc s u p q d) k i = cl u k i := fun k i h1 h2 h3 h4 => by unfold cu_arc; rw [clL, if_neg h4, clL, if_neg h3, clL, if_neg h2, clW _ _ _ _ _ _ _ h1]
  have l13 : cl (cu_arc s u p q d) 13 p = cl u 13 p ++ [(3, s.1 6)] := by unfold cu_arc; rw [clL, if_neg (by omega), clL, if_neg (by omega), clL, if_pos ⟨rfl, rfl⟩]
  have l12 : cl (cu_arc s u p q d) 12 q = cl u 12 q ++ [(3, s.1 6)] := by unfold cu_arc; rw [clL, if_neg (by omega), clL, if_pos ⟨rfl, rfl⟩]
  have l2 : cl (cu_arc s u p q d) 14 2 = cl u 14 2 ++ [(3, s.1 6)] := by unfold cu_arc; rw [clL, if_pos ⟨rfl, rfl⟩]
  generalize cu_arc s u p q d = W at x r r0 z z0 y l l13 l12 l2
  have r2 : ∀ i j, cn W 2 i j = cn u 2 i j := fun i j => r 2 i j (by omega)
  have hst : cSt s1 = cSt s := by unfold cSt; rw [q1 9 (by decide)]
  have har : ∀ p', cAr s1 p' = cAr s p' ++ (if p = p' then [s.1 6] else []) := fun p' => by
    unfold cAr
    rw [q6, px_flt (f := s.2.1 3) (q := p) (fun e he => by rw [qf, if_neg (by omega)]) (by rw [qf, if_pos rfl])]
  have hen : ∀ p', cEn s1 p' = cEn s p' := fun p' => by unfold cEn; simp only [q1 13 (by decide), q2 10 _ (by decide) (by decide)]
  have hStp : ∀ n, cStp s1 n ↔ n = s.1 6 ∨ cStp s n := fun n => by
    unfold cStp; rw [q6, q1 9 (by decide), q1 13 (by decide)]; omega
  refine ⟨?_, ⟨hB.1, fun p' => by rw [q1 1 (by decide)]; exact hB.2.1 p', fun i p' hi => by rw [r2]; exact hB.2.2.1 i p' hi, fun a ha => ?_⟩, ?_, ?_, ?_, ?_, ?_, ?_⟩
  · obtain ⟨a1, a2, a3, a4, a5, a6⟩ := hA
    refine ⟨fun i hi => (x 14 i).mpr (Or.inr (a1 i hi)), ?_, ?_, ?_, ?_, ?_⟩
    · rw [l 14 1 (by decide) (by omega) (by omega) (by omega), q1 1 (by decide)]; exact a2
    · rw [l2, q6, a3, List.range_succ, c3_app]
    · rw [l 14 3 (by decide) (by omega) (by omega) (by omega), hst]; exact a4
    · rw [l 14 4 (by decide) (by omega) (by omega) (by omega), q1 13 (by decide)]; exact a5
    · rw [l 14 6 (by decide) (by omega) (by omega) (by omega)]; exact a6
  · rw [q6] at ha
    rw [qf, qt, r2, r2]
    by_cases e9 : a = s.1 6
    · rw [if_pos e9, if_pos e9]; exact hpq
    · rw [if_neg e9, if_neg e9]; exact hB.2.2.2 a (by omega)
  · refine ⟨fun p' hp' => ?_, fun p' hp' k hk => ?_, fun p' hp' => ?_, ?_⟩
    · have hq' : cPx s p' := by unfold cPx at hp' ⊢; rw [q1 1 (by decide)] at hp'; exact hp'
      obtain ⟨a1, a2, a3, a4, a5, a6, a7, a8, a9⟩ := hC.1 p' hq'
      exact ⟨(x _ _).mpr (Or.inr a1), (x _ _).mpr (Or.inr a2), (x _ _).mpr (Or.inr a3), (x _ _).mpr (Or.inr a4), (x _ _).mpr (Or.inr a5), (x _ _).mpr (Or.inr a6), (x _ _).mpr (Or.inr a7), (x _ _).mpr (Or.inr a8), by rw [r 7 p' 0 (by omega)]; exact a9⟩
    · have hq' : ¬ cPx s p' := by unfold cPx at hp' ⊢; rw [q1 1 (by decide)] at hp'; exact hp'
      rw [x]
      rintro (h9 | h9)
      · omega
      · exact hC.2.1 p' hq' k hk h9
    · rw [r2, q2 2 p' (by decide) (by decide)]; exact hC.2.2.1 p' (by rw [q1 1 (by decide)] at hp'; exact hp')
    · simp only [r2]; exact hC.2.2.2
  · refine ⟨fun n => ?_, fun a ha => ?_, fun i hi => ?_, fun e he => ?_⟩
    · rw [x, hStp, hD.1 n]
      constructor
      · rintro (h9 | h9)
        · exact Or.inl h9.2
        · exact Or.inr h9
      · rintro (h9 | h9)
        · exact Or.inl ⟨rfl, h9⟩
        · exact Or.inr h9
    · rw [q6] at ha
      rw [qf, qt, q5]
      by_cases e9 : a = s.1 6
      · subst e9
        simp only [r0, z0, if_true]
        exact ⟨rfl, rfl, rfl, trivial⟩
      · simp only [r 3 a _ (by omega), z 3 a _ (by omega), if_neg e9]
        exact hD.2.1 a (by omega)
    · rw [q1 9 (by decide)] at hi
      simp only [r 3 (200 + i) _ (by omega), z 3 (200 + i) _ (by omega), q2 7 _ (by decide) (by decide), q3 8 _ (by decide)]
      exact hD.2.2.1 i hi
    · rw [q1 13 (by decide)] at he
      simp only [r 3 (300 + e) _ (by omega), z 3 (300 + e) _ (by omega), q2 10 _ (by decide) (by decide), q2 12 _ (by decide) (by decide), q3 11 _ (by decide)]
      exact hD.2.2.2 e he
  · refine ⟨fun p' hp' => ?_, ?_, fun p' hp' => ?_⟩
    · rw [q1 1 (by decide)] at hp'
      obtain ⟨e1, e2⟩ := hE.1 p' hp'
      unfold cOL at e1 ⊢
      rw [if_neg (by omega)] at e1 ⊢
      rw [har, hen, r2]
      refine ⟨?_, e2⟩
      by_cases e9 : p = p'
      · subst e9
        rw [if_pos rfl, l13, e1, ← List.append_assoc, c3_app]
      · rw [if_neg e9, List.append_nil, l 13 p' (by decide) (by omega) (by omega) (by omega)]
        exact e1
    · rw [hst, l 13 60 (by decide) (by omega) (by omega) (by omega)]; exact hE.2.1
    · rw [q1 1 (by decide)] at hp'
      obtain ⟨L, e1, e2, e3⟩ := hE.2.2 p' hp'
      have hnn : s.1 6 ∉ L := fun h9 => by
        have := (e3 _).mp h9
        unfold cInn at this; omega
      by_cases e9 : p' = q
      · subst e9
        refine ⟨L ++ [s.1 6], by rw [l12, e1, c3_app], ?_, fun n => ?_⟩
        · exact List.nodup_append.mpr ⟨e2, by simp, fun a ha b hb e => hnn (by rw [List.mem_singleton.mp hb] at e; rw [← e]; exact ha)⟩
        · rw [List.mem_append, e3, List.mem_singleton]
          unfold cInn
          rw [q6, q1 9 (by decide), q2 7 _ (by decide) (by decide), qt]
          by_cases e7 : n = s.1 6
          · rw [if_pos e7]; omega
          · rw [if_neg e7]; omega
      · refine ⟨L, by rw [l 12 p' (by decide) (by omega) (by omega) (by omega)]; exact e1, e2, fun n => ?_⟩
        rw [e3]
        unfold cInn
        rw [q6, q1 9 (by decide), q2 7 _ (by decide) (by decide), qt]
        by_cases e7 : n = s.1 6
        · rw [if_pos e7]; omega
        · rw [if_neg e7]; omega
  · refine ⟨fun j hj => ?_, ?_⟩
    · rw [r 14 7 j (by omega), q2 14 j (by decide) (by decide)]; exact hF.1 j hj
    · rw [r 14 0 0 (by omega), q1 25 (by decide)]; exact hF.2
  · obtain ⟨C, c1, c2, c3, K, c4⟩ := hG
    refine ⟨C, by rw [l 14 5 (by decide) (by omega) (by omega) (by omega)]; exact c1, by rw [q1 17 (by decide)]; exact c2, fun i n hn => ?_, K, fun n hn => ?_⟩
    · rw [x, r 6 n 0 (by omega), z 6 n 0 (by omega), q2 15 i (by decide) (by decide), q3 16 i (by decide)]
      obtain ⟨d1, d2, d3⟩ := c3 i n hn
      exact ⟨Or.inr d1, d2, d3⟩
    · rw [x]
      rintro (h9 | h9)
      · omega
      · exact c4 n hn h9
  · obtain ⟨a1, a2, a3, a4, a5⟩ := hH
    refine ⟨fun i => by rw [z 2 i 0 (by omega)]; exact a1 i, fun i j r9 h9 => ?_, fun i j => by rw [r 10 i j (by omega)]; exact a3 i j, by rw [r 7 61 0 (by omega)]; exact a4, by rw [z 8 61 0 (by omega)]; exact a5.1, by rw [y 9 61 0 (by omega)]; exact a5.2⟩
    rw [y 9 i j (by decide)] at h9
    obtain ⟨n, g1, g2⟩ := a2 i j r9 h9
    exact ⟨n, g1, (hStp n).mpr (Or.inr g2)⟩
set_option maxRecDepth 100000 in
set_option maxHeartbeats 4000000 in
theorem ce_arc {s : mm_S} {u : cc_U} {X : px_M} (hX : c9 X) (ok : mm_ok s) (h : cok s u) (x y : Int32) (d : Int) (hd : d.natAbs ≤ 2 ^ 32) : px_Met 9 70 8000 mX4_arc [.inr (14, 0), .inl (.int x), .inl (.int y), .inl (.double (dz d))] (cc_M u X) (cqo X [cI, cB, cA] (kc_arc s x y d) (.inl (.int (nI (s.1 6)))) (nx_arc s x y d)) := by
  refine px_ofW (by decide) W_mX4_arc (Nat.le_of_ble_eq_true rfl) ?_
  obtain ⟨⟨O, hR⟩, hW⟩ := id h
  have hbd := ok.h1
  have h0 := hR.obj (i := 0) (by decide)
  have h1 := hR.obj (i := 1) (by decide)
  have h2 := hR.obj (i := 2) (by decide)
  have nx1 : kc_arc s x y d ≠ 0 → nx_arc s x y d = s := fun e => by unfold nx_arc; rw [if_neg e]
  refine px_iload_n dX4_arc_0 rfl ?_
  refine px_aload_n dX4_arc_1 rfl trivial ?_
  refine px_getf dX4_arc_2 F_RX4_12 (cc_obj (by first | assumption | (simp only [cxN, cxZ, cxS, cxL, cxR]; assumption))) (by rfl) ?_
  refine px_callVr (cl_size rfl (by first | assumption | (simp only [cxN, cxZ, cxS, cxL, cxR]; assumption)) hX) dX4_arc_5 L_RX4_70 (cc_rcL rfl (by first | assumption | (simp only [cxN, cxZ, cxS, cxL, cxR]; assumption))) rfl rfl (by decide) (by omega) (by omega) (Nat.le_of_ble_eq_true rfl) ?_
  rw [hR.pl]
  by_cases hx : px_ix x (s.1 1)
  · refine px_callSv (ce_chk (by omega) hx) dX4_arc_8 L_RX4_84 rfl rfl (by decide) (by omega) (by omega) (Nat.le_of_ble_eq_true rfl) ?_
    refine px_iload_n dX4_arc_11 rfl ?_
    refine px_aload_n dX4_arc_12 rfl trivial ?_
    refine px_getf dX4_arc_13 F_RX4_12 (cc_obj (by first | assumption | (simp only [cxN, cxZ, cxS, cxL, cxR]; assumption))) (by rfl) ?_
    refine px_callVr (cl_size rfl (by first | assumption | (simp only [cxN, cxZ, cxS, cxL, cxR]; assumption)) hX) dX4_arc_16 L_RX4_70 (cc_rcL rfl (by first | assumption | (simp only [cxN, cxZ, cxS, cxL, cxR]; assumption))) rfl rfl (by decide) (by omega) (by omega) (Nat.le_of_ble_eq_true rfl) ?_
    rw [hR.pl]
    by_cases hy : px_ix y (s.1 1)
    · refine px_callSv (ce_chk (by omega) hy) dX4_arc_19 L_RX4_84 rfl rfl (by decide) (by omega) (by omega) (Nat.le_of_ble_eq_true rfl) ?_
      refine px_aload_n dX4_arc_22 rfl trivial ?_
      refine px_getf dX4_arc_23 F_RX4_16 (cc_obj (by first | assumption | (simp only [cxN, cxZ, cxS, cxL, cxR]; assumption))) (by rfl) ?_
      refine px_callVr (cl_size rfl (by first | assumption | (simp only [cxN, cxZ, cxS, cxL, cxR]; assumption)) hX) dX4_arc_26 L_RX4_70 (cc_rcL rfl (by first | assumption | (simp only [cxN, cxZ, cxS, cxL, cxR]; assumption))) rfl rfl (by decide) (by omega) (by omega) (Nat.le_of_ble_eq_true rfl) ?_
      rw [hR.al]
      refine px_sipush (v := nI 150) dX4_arc_29 (by decide) ?_
      refine pn_icmp_lt (tgt := 45) dX4_arc_32 (by decide) (nI_ltI (by omega) (by omega)) (fun g1 => ?_) (fun g1 => ?_)
      · refine px_dload_n dX4_arc_45 rfl ?_
        by_cases hdl : 0 ≤ d ∧ d ≤ 8388608
        · refine px_callSr (ce_isDelay hdl) dX4_arc_46 L_RX4_89 rfl rfl (by decide) (by omega) (by omega) (Nat.le_of_ble_eq_true rfl) ?_
          refine pn_if_ne (tgt := 62) dX4_arc_49 (by decide) (pn_z (by omega)) (fun g2 => ?_) (fun g2 => ?_)
          · have e : kc_arc s x y d = 3 * px_ch (mm_rch s 0 (px_tn y) (px_tn x)) := by
              unfold kc_arc
              rw [if_neg (fun z => z hx), if_neg (fun z => z hy), if_neg (by omega), if_neg (fun z => z hdl)]
            obtain ⟨ex1, ex2⟩ := px_ix_tn hx
            obtain ⟨ey1, ey2⟩ := px_ix_tn hy
            have nx2 : kc_arc s x y d = 0 → nx_arc s x y d = mm_I (nx1_arc s (px_tn x) (px_tn y) d) 25 0 := fun e => by unfold nx_arc; rw [if_pos e]; rfl
            generalize px_tn x = p at ex1 ex2 e nx2
            generalize px_tn y = q at ey1 ey2 e nx2
            have hp := hR.2.2.1.pn ex2
            have hq := hR.2.2.1.pn ey2
            rw [ex1, ey1] at e nx1 nx2 ⊢
            refine px_aload_n dX4_arc_62 rfl trivial ?_
            refine px_getf dX4_arc_63 F_RX4_12 (cc_obj (by first | assumption | (simp only [cxN, cxZ, cxS, cxL, cxR]; assumption))) (by rfl) ?_
            refine px_iload_n dX4_arc_66 rfl ?_
            refine px_callVr (cl_get (x := (2, p)) (by rw [hR.1.2.1]; exact c2_get (by rw [List.getElem?_range ex2])) rfl (by first | assumption | (simp only [cxN, cxZ, cxS, cxL, cxR]; assumption)) hX) dX4_arc_67 L_RX4_98 (cc_rcL rfl (by first | assumption | (simp only [cxN, cxZ, cxS, cxL, cxR]; assumption))) rfl rfl (by decide) (by omega) (by omega) (Nat.le_of_ble_eq_true rfl) ?_
            have hp2 := hp.1
            have hq2 := hq.1
            refine px_cast dX4_arc_70 (cc_pin (by first | assumption | (simp only [cxN, cxZ, cxS, cxL, cxR]; assumption))) rfl K_RX4_35 ?_
            refine px_astore dX4_arc_73 (by decide) trivial ?_
            refine px_aload_n dX4_arc_75 rfl trivial ?_
            refine px_getf dX4_arc_76 F_RX4_12 (cc_obj (by first | assumption | (simp only [cxN, cxZ, cxS, cxL, cxR]; assumption))) (by rfl) ?_
            refine px_iload_n dX4_arc_79 rfl ?_
            refine px_callVr (cl_get (x := (2, q)) (by rw [hR.1.2.1]; exact c2_get (by rw [List.getElem?_range ey2])) rfl (by first | assumption | (simp only [cxN, cxZ, cxS, cxL, cxR]; assumption)) hX) dX4_arc_80 L_RX4_98 (cc_rcL rfl (by first | assumption | (simp only [cxN, cxZ, cxS, cxL, cxR]; assumption))) rfl rfl (by decide) (by omega) (by omega) (Nat.le_of_ble_eq_true rfl) ?_
            refine px_cast dX4_arc_83 (cc_pin (by first | assumption | (simp only [cxN, cxZ, cxS, cxL, cxR]; assumption))) rfl K_RX4_35 ?_
            refine px_astore dX4_arc_86 (by decide) trivial ?_
            refine px_aload_n dX4_arc_88 rfl trivial ?_
            refine px_aload dX4_arc_89 rfl trivial ?_
            refine px_iconst (v := -1) dX4_arc_91 (by decide) ?_
            refine px_callV (ce_sprd hX ok hR ey2 (b := 0) (by decide) (Or.inl rfl)) dX4_arc_92 L_RX4_102 (cc_rc4 (by first | assumption | (simp only [cxN, cxZ, cxS, cxL, cxR]; assumption))) rfl rfl (by decide) (by omega) (by omega) (Nat.le_of_ble_eq_true rfl) (fun v9 M9 hq => ?_) (fun E9 M9 hq => ?_)
            · obtain ⟨e1, f, hf, rfl⟩ := hq
              cases e1
              have hRf := hR.G (g := f) hf.2
              obtain ⟨k1, k2, k3⟩ := hf.1 p ex2
              have kp2 := hRf.2.2.1.pn ex2
              have kq2 := hRf.2.2.1.pn ey2
              have kpx := kp2.1
              have kqx := kq2.1
              have kp0 := hRf.obj (i := 0) (by decide)
              have kp6 := hRf.obj (i := 6) (by decide)
              have fb := hf.2 p
              refine px_aload dX4_arc_95 rfl trivial ?_
              refine px_getf dX4_arc_97 F_RX4_106 (cc_pin (by first | assumption | (simp only [cxN, cxZ, cxS, cxL, cxR]; assumption))) (by rfl) ?_
              rw [show ((cG u f 2 p).2.1 0 : Int) = f p from rfl]
              refine pn_dconst0 dX4_arc_100 ?_
              refine pn_dcmp dX4_arc_101 rfl rfl (by omega) (by omega) ?_
              refine pn_if_lt (tgt := 115) dX4_arc_102 (by decide) (dz_c_lt _ _) (fun g3 => ?_) (fun g3 => ?_)
              · have hnr : ¬ mm_rch s 0 q p := fun z => by have := k1.mpr z; omega
                rw [px_ch_0 hnr] at e
                have e0 : kc_arc s (nI p) (nI q) d = 0 := e
                rw [e0, nx2 e0]
                refine px_aload_n dX4_arc_115 rfl trivial ?_
                obtain ⟨U, hU⟩ : ∃ U : Nat → Bool, ∀ p, U p = true ↔ f p < 0 := ⟨fun p => decide (f p < 0), fun p => by simp⟩
                refine px_callV (ce_prl hX (O := O) f h0 (hR.obj (by decide)) hR.1.2.2.2.2.2 (by rw [hR.len]; exact hbd.1) hR.2.1.1 (fun p' hp' => (hR.2.2.1.pn ((hR.2.1.2.1 p').mp hp')).1) (fun p' => by have := hf.2 p'; omega) (U := U) hU) dX4_arc_116 L_RX4_112 (cc_rc4 (by first | assumption | (simp only [cxN, cxZ, cxS, cxL, cxR]; assumption))) rfl rfl (by decide) (by omega) (by omega) (Nat.le_of_ble_eq_true rfl) (fun v9 M9 hq => ?_) (fun E9 M9 hq => ?_)
                · obtain ⟨e1, hh, hh1, hh2, rfl⟩ := hq
                  cases e1
                  have hm' : ∀ p', p' ∈ O.filter U ++ O.filter (fun p => !U p) ↔ p' ∈ O := fun p' => by
                    rw [List.mem_append, List.mem_filter, List.mem_filter]
                    cases U p' <;> simp
                  have hnd' : (O.filter U ++ O.filter (fun p => !U p)).Nodup := List.nodup_append.mpr ⟨hR.2.1.1.filter _, hR.2.1.1.filter _, fun a ha b hb e => by
                    subst e
                    have h1 := (List.mem_filter.mp ha).2
                    have h2 := (List.mem_filter.mp hb).2
                    rw [h1] at h2; cases h2⟩
                  have hbef : ∀ a b, [a, b].Sublist (O.filter U ++ O.filter (fun p => !U p)) → hh a < hh b := fun a b hab => by
                    obtain ⟨i, j, g1, g2, g3⟩ := px_sub2 hab
                    rw [hh1 i a g2, hh1 j b g3]; omega
                  have hcl : ∀ a, a < s.1 6 → U (s.2.1 3 a) = false → U (s.2.1 4 a) = false := fun a ha h9 => by
                    obtain ⟨b1, b2, -, -⟩ := ok.2.1 a ha
                    cases e9 : U (s.2.1 4 a) with
                    | false => rfl
                    | true =>
                      have h8 := (hU _).mp e9
                      have h7 : 0 ≤ f (s.2.1 3 a) := by
                        refine Int.not_lt.mp fun z => ?_
                        rw [(hU _).mpr z] at h9; cases h9
                      have h6 := ((hf.1 _ b1).1.mp h7).ext ha (Or.inl rfl)
                      have := (hf.1 _ b2).1.mpr h6
                      omega
                  have hRo := hRf.reord (O' := O.filter U ++ O.filter (fun p => !U p)) (h := hh) hnd' hm' hh1 (fun p' hp' => by rw [cnG]; exact hh2 p' hp') (fun a ha => by
                    obtain ⟨b1, b2, -, -⟩ := ok.2.1 a ha
                    obtain ⟨i, hi⟩ := List.getElem?_of_mem ((hR.2.1.2.1 _).mpr b1)
                    obtain ⟨j, hj⟩ := List.getElem?_of_mem ((hR.2.1.2.1 _).mpr b2)
                    have hlt := hR.2.1.2.2.2 a ha
                    rw [hR.2.1.2.2.1 i _ hi, hR.2.1.2.2.1 j _ hj] at hlt
                    exact hbef _ _ (px_part (px_sub2' (by omega) hi hj) (hcl a ha))) hbd.1
                  have hpq : cn (cP (cL (cG u f) 14 6 (c2 (O.filter U ++ O.filter (fun p => !U p)))) hh) 2 p 0 < cn (cP (cL (cG u f) 14 6 (c2 (O.filter U ++ O.filter (fun p => !U p)))) hh) 2 q 0 := by
                    rw [cnP2, cnP2]
                    refine hbef p q ?_
                    show ([p] ++ [q]).Sublist _
                    refine List.Sublist.append (List.singleton_sublist.mpr (List.mem_filter.mpr ⟨(hR.2.1.2.1 _).mpr ex2, (hU p).mpr g3⟩)) (List.singleton_sublist.mpr (List.mem_filter.mpr ⟨(hR.2.1.2.1 _).mpr ey2, ?_⟩))
                    have h9 := (hf.1 q ey2).1.mpr ⟨[], rfl⟩
                    cases e9 : U q with
                    | false => rfl
                    | true => have := (hU _).mp e9; omega
                  generalize cP (cL (cG u f) 14 6 (c2 (O.filter U ++ O.filter (fun p => !U p)))) hh = v at hRo hpq
                  generalize O.filter U ++ O.filter (fun p => !U p) = O' at hRo
                  have hRn := hRo.arc_ ok (d := d) ex2 ey2 (by omega) hpq
                  have hp := hRo.2.2.1.pn ex2
                  have hq := hRo.2.2.1.pn ey2
                  have hp2 := hp.1
                  have hq2 := hq.1
                  have h0 := hRo.obj (i := 0) (by decide)
                  have h2 := hRo.obj (i := 2) (by decide)
                  obtain ⟨o1, o2⟩ := hRo.outs (Or.inl ex2) hbd.1
                  have o5 : (cOL s p).length + 1 ≤ 180 := by
                    unfold cOL
                    rw [if_neg (by omega), List.length_append]
                    have h1 : (cEn s p).length ≤ s.1 13 := by
                      unfold cEn
                      rw [List.length_map]
                      exact Nat.le_trans (List.length_filter_le _ _) (by rw [List.length_range]; exact Nat.le_refl _)
                    have h2 : (cAr s p).length ≤ s.1 6 := by
                      unfold cAr
                      exact Nat.le_trans (List.length_filter_le _ _) (by rw [List.length_range]; exact Nat.le_refl _)
                    omega
                  obtain ⟨L, i1, i2, i3, i4⟩ := hRo.inl hbd.2.1 ey2
                  have n3 : cc_M v X (3, s.1 6) = none := cc_no (fun y => by have := (hRo.2.2.2.1.1 _).mp y; unfold cStp at this; omega) (by decide)
                  have hst : ∀ m ∈ cOL s p, cx v 3 m := fun m hm => (hRo.2.2.2.1.1 m).mpr (o2 m hm).1
                  refine px_newo (ci := 2) (3, s.1 6) dX4_arc_119 rfl K_RX4_115 N_RX2 Z_RX2 n3 rfl (by omega) (by omega) ?_
                  refine px_dup dX4_arc_122 rfl ?_
                  refine px_aload_n dX4_arc_123 rfl trivial ?_
                  refine px_getf dX4_arc_124 F_RX4_16 (((px_up_n _ _ (ce_ne (by decide))).trans (cc_obj h0))) (by rfl) ?_
                  refine px_callVr (cl_size3 _ rfl h2 hX) dX4_arc_127 L_RX4_70 (cc_rcL3 _ rfl h2) rfl rfl (by decide) (by omega) (by omega) (Nat.le_of_ble_eq_true rfl) ?_
                  rw [hRo.al]
                  refine px_aload dX4_arc_130 rfl trivial ?_
                  refine px_aload dX4_arc_132 rfl trivial ?_
                  refine px_dload_n dX4_arc_134 rfl ?_
                  refine px_callI (ce_newS (px_up_s _ _ _)) dX4_arc_135 L_RX4_117 rfl rfl rfl (by decide) (by omega) (by omega) (Nat.le_of_ble_eq_true rfl) ?_
                  rw [px_up2]
                  refine px_eqM cc_newS ?_
                  have x1 : ∀ k i, cx v k i → cx (cNew v 3 (s.1 6) (cF5 (s.1 6) p q) (fun _ => d)) k i := fun k i hk => (cxW _ _ _ _ _ _ _).mpr (Or.inr hk)
                  have x2 : cx (cNew v 3 (s.1 6) (cF5 (s.1 6) p q) (fun _ => d)) 3 (s.1 6) := (cxW _ _ _ _ _ _ _).mpr (Or.inl ⟨rfl, rfl⟩)
                  have w13 : cl (cNew v 3 (s.1 6) (cF5 (s.1 6) p q) (fun _ => d)) 13 p = cl v 13 p := clW _ _ _ _ _ _ _ (by decide)
                  have y2 := x1 2 p hp.1
                  have yq2 := x1 2 q hq.1
                  have y13 := x1 13 p hp.2.2.2.2.2.2.2.1
                  have y12 := x1 12 q hq.2.2.2.2.2.2.1
                  have y0 := x1 14 0 h0
                  have yy2 := x1 14 2 h2
                  refine px_astore dX4_arc_138 (by decide) trivial ?_
                  refine px_aload dX4_arc_140 rfl trivial ?_
                  refine px_getf dX4_arc_142 F_RX4_120 (cc_pin (by first | assumption | (simp only [cxN, cxZ, cxS, cxL, cxR]; assumption))) (by rfl) ?_
                  refine px_aload dX4_arc_145 rfl trivial ?_
                  refine px_callVr (cl_add (by rw [w13, o1, List.length_map]; omega) ⟨cc_obs3 x2, by rw [w13, o1]; exact cc_obs3s fun m hm => x1 3 m (hst m hm)⟩ rfl (by first | assumption | (simp only [cxN, cxZ, cxS, cxL, cxR]; assumption)) hX) dX4_arc_147 L_RX4_80 (cc_rcL rfl (by first | assumption | (simp only [cxN, cxZ, cxS, cxL, cxR]; assumption))) rfl rfl (by decide) (by omega) (by omega) (Nat.le_of_ble_eq_true rfl) ?_
                  rw [w13]
                  refine px_pop dX4_arc_150 rfl ?_
                  refine px_aload dX4_arc_151 rfl trivial ?_
                  refine px_getf dX4_arc_153 F_RX4_123 (cc_pin (by first | assumption | (simp only [cxN, cxZ, cxS, cxL, cxR]; assumption))) (by rfl) ?_
                  refine px_aload dX4_arc_156 rfl trivial ?_
                  have w12 : cl (cL (cNew v 3 (s.1 6) (cF5 (s.1 6) p q) (fun _ => d)) 13 p (cl v 13 p ++ [(3, s.1 6)])) 12 q = cl v 12 q := by rw [clL, if_neg (by omega), clW _ _ _ _ _ _ _ (by decide)]
                  refine px_callVr (cl_add (by rw [w12, i1, List.length_map]; omega) ⟨cc_obs3 (by rw [cxL]; exact x2), by rw [w12, i1]; exact cc_obs3s fun m hm => by rw [cxL]; exact x1 3 m ((hRo.2.2.2.1.1 m).mpr (i4 m hm))⟩ rfl (by first | assumption | (simp only [cxN, cxZ, cxS, cxL, cxR]; assumption)) hX) dX4_arc_158 L_RX4_80 (cc_rcL rfl (by first | assumption | (simp only [cxN, cxZ, cxS, cxL, cxR]; assumption))) rfl rfl (by decide) (by omega) (by omega) (Nat.le_of_ble_eq_true rfl) ?_
                  rw [w12]
                  refine px_pop dX4_arc_161 rfl ?_
                  refine px_aload_n dX4_arc_162 rfl trivial ?_
                  refine px_getf dX4_arc_163 F_RX4_16 (cc_obj (by first | assumption | (simp only [cxN, cxZ, cxS, cxL, cxR]; assumption))) (by rfl) ?_
                  refine px_aload dX4_arc_166 rfl trivial ?_
                  have w3 : cl (cL (cL (cNew v 3 (s.1 6) (cF5 (s.1 6) p q) (fun _ => d)) 13 p (cl v 13 p ++ [(3, s.1 6)])) 12 q (cl v 12 q ++ [(3, s.1 6)])) 14 2 = cl v 14 2 := by rw [clL, if_neg (by omega), clL, if_neg (by omega), clW _ _ _ _ _ _ _ (by decide)]
                  refine px_callVr (cl_add (by rw [w3, hRo.al]; omega) ⟨cc_obs3 (by rw [cxL, cxL]; exact x2), by rw [w3, hRo.1.2.2.1]; exact cc_obs3s fun m hm => by rw [cxL, cxL]; exact x1 3 m ((hRo.2.2.2.1.1 m).mpr (Or.inl (List.mem_range.mp hm)))⟩ rfl (by first | assumption | (simp only [cxN, cxZ, cxS, cxL, cxR]; assumption)) hX) dX4_arc_168 L_RX4_80 (cc_rcL rfl (by first | assumption | (simp only [cxN, cxZ, cxS, cxL, cxR]; assumption))) rfl rfl (by decide) (by omega) (by omega) (Nat.le_of_ble_eq_true rfl) ?_
                  rw [w3]
                  have hR2 := hRn.unl
                  refine px_pop dX4_arc_171 rfl ?_
                  refine px_aload_n dX4_arc_172 rfl trivial ?_
                  refine px_iconst (v := nI 0) dX4_arc_173 (by decide) ?_
                  refine cp_listed dX4_arc_174 F_RX4_50 (by first | assumption | (simp only [cxN, cxZ, cxS, cxL, cxR]; assumption)) rfl (by decide) ?_
                  refine px_aload dX4_arc_177 rfl trivial ?_
                  refine px_getf dX4_arc_179 F_RX4_126 (cc_step (by first | assumption | (simp only [cxN, cxZ, cxS, cxL, cxR]; assumption))) (by rfl) ?_
                  refine px_iret dX4_arc_182 rfl ?_ (by omega) (by omega)
                  refine ⟨_, rfl, ⟨⟨O', hR2⟩, cRW.no rfl⟩, fun _ => ?_, fun z => absurd rfl z⟩
                  rw [cn_def, cnN, if_neg (by omega), cnL, cnL, cnL, cnW, if_pos ⟨rfl, rfl⟩]
                  rfl
                · exact absurd hq.1 (fun z => by cases z)
              · have hr : mm_rch s 0 q p := k1.mp (by omega)
                rw [px_ch_1 hr] at e
                have e3 : kc_arc s (nI p) (nI q) d = 3 := e
                refine px_throw (text := "a circle") cT_97 rfl rfl (by decide) dX4_arc_105 dX4_arc_108 dX4_arc_109 dX4_arc_111 dX4_arc_114 (Nat.le_of_ble_eq_true rfl) ?_ (by omega) (by omega)
                exact cqo.no (k := 2) (by rw [nx1 (by omega)]; exact ⟨⟨O, hRf⟩, hW.cg _⟩) e3 rfl
            · exact absurd hq.1 (fun z => by cases z)
          · exact absurd g2 (by decide)
        · refine px_callSr (ce_isDelayN (by omega) hdl) dX4_arc_46 L_RX4_89 rfl rfl (by decide) (by omega) (by omega) (Nat.le_of_ble_eq_true rfl) ?_
          refine pn_if_ne (tgt := 62) dX4_arc_49 (by decide) (pn_z (by omega)) (fun g2 => ?_) (fun g2 => ?_)
          · exact absurd rfl g2
          · refine px_throw (text := "no delay") cT_97 rfl rfl (by decide) dX4_arc_52 dX4_arc_55 dX4_arc_56 dX4_arc_58 dX4_arc_61 (Nat.le_of_ble_eq_true rfl) ?_ (by omega) (by omega)
            have e : kc_arc s x y d = 3 := by
              unfold kc_arc
              rw [if_neg (fun z => z hx), if_neg (fun z => z hy), if_neg (by omega), if_pos hdl]
            exact cqo.no (k := 2) (by rw [nx1 (by omega)]; exact h) e rfl
      · refine px_throw (text := "no more arcs") cT_77 rfl rfl (by decide) dX4_arc_35 dX4_arc_38 dX4_arc_39 dX4_arc_41 dX4_arc_44 (Nat.le_of_ble_eq_true rfl) ?_ (by omega) (by omega)
        have e : kc_arc s x y d = 2 := by
          unfold kc_arc
          rw [if_neg (fun z => z hx), if_neg (fun z => z hy), if_pos (by omega)]
        exact cqo.no (k := 1) (by rw [nx1 (by omega)]; exact h) e rfl
    · refine px_callSx (ce_chkN (by omega) hy) dX4_arc_19 L_RX4_84 rfl rfl (by decide) (by omega) (by omega) (Nat.le_of_ble_eq_true rfl) rfl ?_
      have e : kc_arc s x y d = 1 := by
        unfold kc_arc
        rw [if_neg (fun z => z hx), if_pos hy]
      exact cqo.no (k := 0) (by rw [nx1 (by omega)]; exact h) e rfl
  · refine px_callSx (ce_chkN (by omega) hx) dX4_arc_8 L_RX4_84 rfl rfl (by decide) (by omega) (by omega) (Nat.le_of_ble_eq_true rfl) rfl ?_
    have e : kc_arc s x y d = 1 := by
      unfold kc_arc
      rw [if_pos hx]
    exact cqo.no (k := 0) (by rw [nx1 (by omega)]; exact h) e rfl
