/-! ===== run ===== -/
theorem cRl.lsd {s : mm_S} {u : cc_U} {O : List Nat} (hR : cRl s u O) : cRl (mm_I s 25 1) (cN u 14 0 0 1) O := by
  obtain ⟨hA, hB, hC, hD, hE, hF, hG, hH⟩ := id hR
  have q1 : ∀ k, k ≠ 25 → (mm_I s 25 1).1 k = s.1 k := fun k hk => if_neg hk
  have q2 : ∀ k i, (mm_I s 25 1).2.1 k i = s.2.1 k i := fun k i => rfl
  have q3 : ∀ k i, (mm_I s 25 1).2.2 k i = s.2.2 k i := fun k i => rfl
  have r : ∀ k i j', k ≠ 14 → cn (cN u 14 0 0 1) k i j' = cn u k i j' := fun k i j' h2 => by rw [cnN, if_neg (fun z => h2 z.1)]
  refine ⟨?_, ?_, ?_, ?_, ?_, ?_, ?_, ?_⟩
  · unfold cRA cSt; simp only [cxN, clN, q1 _ (show 1 ≠ 25 by decide), q1 _ (show 6 ≠ 25 by decide), q1 _ (show 9 ≠ 25 by decide), q1 _ (show 13 ≠ 25 by decide)]; exact hA
  · unfold cRB; simp only [r 2 _ _ (by decide), q1 _ (show 1 ≠ 25 by decide), q1 _ (show 6 ≠ 25 by decide), q2]; exact hB
  · unfold cRC cPn cPx; simp only [r 2 _ _ (by decide), r 7 _ _ (by decide), cxN, q1 _ (show 1 ≠ 25 by decide), q2]; exact hC
  · unfold cRD cStp; simp only [r 3 _ _ (by decide), cxN, czN, q1 _ (show 6 ≠ 25 by decide), q1 _ (show 9 ≠ 25 by decide), q1 _ (show 13 ≠ 25 by decide), q2, q3]; exact hD
  · unfold cRE cOL cSt cEn cAr cInn; simp only [r 2 _ _ (by decide), clN, q1 _ (show 1 ≠ 25 by decide), q1 _ (show 6 ≠ 25 by decide), q1 _ (show 9 ≠ 25 by decide), q1 _ (show 13 ≠ 25 by decide), q2]; exact hE
  · refine ⟨fun i hi => ?_, ?_⟩
    · rw [cnN, if_neg (by omega)]; exact hF.1 i hi
    · rw [cnN, if_pos ⟨rfl, rfl, rfl⟩]; rfl
  · unfold cRG; simp only [r 6 _ _ (by decide), clN, cxN, czN, q1 _ (show 17 ≠ 25 by decide), q2, q3]; exact hG
  · unfold cRH cStp; simp only [r 7 _ _ (by decide), r 10 _ _ (by decide), csN, czN, q1 _ (show 6 ≠ 25 by decide), q1 _ (show 9 ≠ 25 by decide), q1 _ (show 13 ≠ 25 by decide)]; exact hH
theorem px_leN' (x : Int32) {n : Nat} (hn : n < 2 ^ 31) : x ≤ nI n ↔ x.toInt ≤ (n : Int) := by rw [Int32.le_iff_toInt_le, nI_toInt hn]
theorem px_o_dec {n : Nat} (h : n < 2 ^ 31) : px_o (n + 1) + Int32.ofInt (-1) = px_o n := by
  cases n with
  | zero => rfl
  | succ n =>
    show nI (n + 1) + Int32.ofInt (-1) = nI n
    have e : nI (n + 1) - nI 1 = nI (n + 1 - 1) := pk_sub (by omega)
    rw [Int32.sub_eq_add_neg] at e
    exact e
theorem px_o_sub {n : Nat} (h : n < 2 ^ 31) : nI n - nI 1 = px_o n := by
  have e := px_o_dec (n := n) h
  rw [Int32.sub_eq_add_neg]
  exact e
def cq_run (s : mm_S) (X : px_M) (x : Int32) : px_Q := fun o M' => ∃ u', M' = cc_M u' X ∧ (kc_run x ≠ 0 → o = .inr cA ∧ cok s u') ∧
  (kc_run x = 0 → ∃ O Z, cRl (mm_I s 25 1) u' O ∧ mm_sp s (px_tn x) Z ∧ cwv s u' Z ∧ Z.length ≤ 320 ∧ o = .inl (some (.inl (.int (nI Z.length)))))
theorem cRl.zero {s : mm_S} {u : cc_U} {O : List Nat} (hR : cRl s u O) : cRl s (cN u 7 60 0 0) O ∧ cq u (cN u 7 60 0 0) := by
  have q : cq u (cN u 7 60 0 0) := ⟨fun k i => by rw [cxN], fun k i => by rw [clN], fun k i j a b c d e => by rw [cnN, if_neg (fun z => b z.1)], fun k i j a b => by rw [czN]⟩
  refine ⟨hR.scr q (fun p hp => ?_) ?_, q⟩
  · rw [cnN]
    split
    · exact Nat.zero_le _
    · exact (hR.2.2.1.1 p hp).2.2.2.2.2.2.2.2
  · obtain ⟨g1, g2, g3, g4, g5⟩ := hR.2.2.2.2.2.2.2
    exact ⟨fun p => by rw [czN]; exact g1 p, fun p j r hr => by rw [csN] at hr; exact g2 p j r hr, fun p j => by rw [cnN, if_neg (by omega)]; exact g3 p j, by rw [cnN, if_neg (by omega)]; exact g4, by rw [czN]; exact g5.1, by rw [csN]; exact g5.2⟩
set_option maxRecDepth 100000 in
set_option maxHeartbeats 8000000 in
theorem ce_run {s : mm_S} {u : cc_U} {X : px_M} (hX : c9 X) (ok : mm_ok s) (h : cok s u) (x : Int32) : px_Met 9 70 8000 mX4_run [.inr (14, 0), .inl (.int x)] (cc_M u X) (cq_run s X x) := by
  refine px_ofW (by decide) W_mX4_run (Nat.le_of_ble_eq_true rfl) ?_
  obtain ⟨⟨O, hR⟩, hW⟩ := id h
  have hbd := ok.h1
  have bad : kc_run x ≠ 0 → cq_run s X x (.inr cA) (cc_M u X) := fun e => ⟨u, rfl, fun _ => ⟨rfl, h⟩, fun z => absurd z e⟩
  have thr : kc_run x ≠ 0 → ∀ k n, k ≤ 6 → n ≤ 40 → px_W 9 70 8000 mX4_run (cq_run s X x) 11 [(0, .inr (14, 0)), (1, .inl (.int x))] [] (cc_M u X) k n := by
    intro e k n hk hn
    refine px_throw (text := "k is not 1 .. 40") cT_97 rfl rfl (by decide) dX4_run_11 dX4_run_14 dX4_run_15 dX4_run_17 dX4_run_20 (Nat.le_of_ble_eq_true rfl) ?_ (by omega) (by omega)
    exact bad e
  have kgood : 1 ≤ x.toInt → x.toInt ≤ 40 → px_W 9 70 8000 mX4_run (cq_run s X x) 21 [(0, .inr (14, 0)), (1, .inl (.int x))] [] (cc_M u X) 0 0 := by
    intro hx1 hx2
    have hk0 : kc_run x = 0 := if_pos ⟨hx1, hx2⟩
    obtain ⟨e1, e2⟩ := px_ix_tn (x := x) (n := 41) ⟨by omega, by omega⟩
    have good : ∀ {u' : cc_U} {Z : List mm_P}, cRl (mm_I s 25 1) u' O → mm_sp s (px_tn x) Z → cwv s u' Z → Z.length ≤ 320 → cq_run s X x (.inl (some (.inl (.int (nI Z.length))))) (cc_M u' X) := fun a b c d => ⟨_, rfl, fun z => absurd hk0 z, fun _ => ⟨O, _, a, b, c, d, rfl⟩⟩
    generalize hQ : cq_run s X x = Q at good ⊢
    generalize px_tn x = k at e1 e2 good
    subst e1
    have p60 := hR.2.2.1.1 60 (Or.inr (Or.inl rfl))
    obtain ⟨p2, p7, p8, p9, p10, p11, p12, p13, p14⟩ := id p60
    have h0 := hR.obj (i := 0) (by decide)
    refine px_aload_n dX4_run_21 rfl trivial ?_
    refine px_getf dX4_run_22 F_RX4_40 (cc_obj (by first | assumption | (simp only [cxN, cxZ, cxS, cxL, cxR]; assumption))) (by rfl) ?_
    refine px_getf dX4_run_25 F_RX4_60 (cc_pin (by first | assumption | (simp only [cxN, cxZ, cxS, cxL, cxR]; assumption))) (by rfl) ?_
    refine px_iconst (v := nI 0) dX4_run_28 (by decide) ?_
    refine cp_size dX4_run_29 F_RX4_64 (by first | assumption | (simp only [cxN, cxZ, cxS, cxL, cxR]; assumption)) rfl ?_
    obtain ⟨hR0, q0⟩ := hR.zero
    have hz0 : cn (cN u 7 60 0 0) 7 60 0 = 0 := by rw [cnN, if_pos ⟨rfl, rfl, rfl⟩]
    generalize cN u 7 60 0 0 = u0 at hR0 q0 hz0
    have k0 := hR0.obj (i := 0) (by decide)
    have hp0 := hR0.hp ok
    -- the end
    have fin : ∀ (v : cc_U) (Z : List mm_P) (lv : List (Nat × px_V)), cRl s v O → mm_sp s k Z → cwv s v Z → px_W 9 70 8000 mX4_run Q 84 ([(0, .inr (14, 0)), (1, .inl (.int (nI k)))] ++ lv) [] (cc_M v X) 0 0 := by
      intro v Z lv hv hs hw
      have k0 := hv.obj (i := 0) (by decide)
      obtain ⟨p2, p7, p8, p9, p10, p11, p12, p13, p14⟩ := hv.2.2.1.1 60 (Or.inr (Or.inl rfl))
      have hw0 := hw
      obtain ⟨LL, w1, w2, w3⟩ := hw
      have w4 := w2.1
      rw [w1, List.length_map] at w4
      rw [w4] at p14
      have p14 : Z.length ≤ 320 := p14
      have hw1 : cwv s (cN v 14 0 0 1) Z := hw0.eq (fun p j => by rw [csN]) (fun p => by rw [cnN, if_neg (by omega)]) (fun p j => by rw [cnN, if_neg (by omega)]) (fun p j => by rw [cnN, if_neg (by omega)]) (fun p j => by rw [czN])
      have g := good hv.lsd hs hw1 p14
      have e5 : cn (cN v 14 0 0 1) 7 60 0 = Z.length := by rw [cnN, if_neg (by omega)]; exact w4
      refine px_aload_n dX4_run_84 rfl trivial ?_
      refine px_iconst (v := nI 1) dX4_run_85 (by decide) ?_
      refine cp_listed dX4_run_86 F_RX4_50 (by first | assumption | (simp only [cxN, cxZ, cxS, cxL, cxR]; assumption)) rfl (by decide) ?_
      refine px_aload_n dX4_run_89 rfl trivial ?_
      refine px_getf dX4_run_90 F_RX4_40 (cc_obj (by first | assumption | (simp only [cxN, cxZ, cxS, cxL, cxR]; assumption))) (by rfl) ?_
      refine px_getf dX4_run_93 F_RX4_60 (cc_pin (by first | assumption | (simp only [cxN, cxZ, cxS, cxL, cxR]; assumption))) (by rfl) ?_
      refine px_getf dX4_run_96 F_RX4_64 (cc_ways (by first | assumption | (simp only [cxN, cxZ, cxS, cxL, cxR]; assumption))) (by rfl) ?_
      rw [cn_def, e5]
      exact px_iret dX4_run_99 rfl g (by omega) (by omega)
    refine px_aload_n dX4_run_32 rfl trivial ?_
    refine px_callVr (ce_rises hX (hR0.thr ok)) dX4_run_33 L_RX4_147 (cc_rc4 (by first | assumption | (simp only [cxN, cxZ, cxS, cxL, cxR]; assumption))) rfl rfl (by decide) (by omega) (by omega) (Nat.le_of_ble_eq_true rfl) ?_
    by_cases hr : cRis u0
    · rw [px_ch_1 hr]
      refine pn_if_eq (tgt := 84) dX4_run_36 (by decide) (pn_z (by omega)) (fun g3 => ?_) (fun g3 => ?_)
      · exact absurd g3 (by decide)
      · have lp : ∀ (i : Nat) (v : cc_U) (LL : Nat → List cW), i ≤ s.1 1 → cq u0 v → cRl s v O → (∀ q, q < s.1 1 → i < cn u0 2 q 0 → cHold s v LL q ∧ cLG s (cLv u0) k q (LL q)) → px_W 9 70 8000 mX4_run Q 49 [(0, .inr (14, 0)), (1, .inl (.int (nI k))), (2, .inl (.int (px_o i)))] [] (cc_M v X) 0 0 := by
          intro i
          induction i with
          | zero =>
            intro v LL hi hq hv hJ
            have kk0 := hv.obj (i := 0) (by decide)
            refine px_iload_n dX4_run_49 rfl ?_
            refine pn_if_lt (tgt := 75) dX4_run_50 (by decide) (px_o_neg (by omega)) (fun g4 => ?_) (fun g4 => ?_)
            · refine px_aload_n dX4_run_75 rfl trivial ?_
              refine px_aload_n dX4_run_76 rfl trivial ?_
              refine px_getf dX4_run_77 F_RX4_40 (cc_obj (by first | assumption | (simp only [cxN, cxZ, cxS, cxL, cxR]; assumption))) (by rfl) ?_
              refine px_iload_n dX4_run_80 rfl ?_
              refine px_callV (ce_gat hX ok hv (k := k) (p := 60) (by omega) (Or.inl rfl) hq.lv (LL := LL) (fun q hq' _ => hJ q hq' (hR0.place hq').1)) dX4_run_81 L_RX4_151 (cc_rc4 (by first | assumption | (simp only [cxN, cxZ, cxS, cxL, cxR]; assumption))) rfl rfl (by decide) (by omega) (by omega) (Nat.le_of_ble_eq_true rfl) (fun v9 M9 hq => ?_) (fun E9 M9 hq => ?_)
              · obtain ⟨e3, v', W, rfl, w1, w2, w3, w4⟩ := hq
                cases e3
                obtain ⟨y1, y2⟩ := hp0.sp ok hr w4
                refine px_sub (fin v' _ [(2, .inl (.int (px_o 0)))] w2 y2 ⟨cUp LL 60 W, by rw [cUp_s]; exact y1, w3, fun _ q hq' => ?_⟩) rfl
                have h60 := hbd.1
                exact (hJ q hq' (hR0.place hq').1).1.cg w1 (by omega) fun n hn h3 => by have := (cTo_ne hv ok hn h3).1; omega
              · obtain ⟨e3, -⟩ := hq
                cases e3
            · exact absurd rfl g4
          | succ i ih =>
            intro v LL hi hq hv hJ
            have kk0 := hv.obj (i := 0) (by decide)
            have kk6 := hv.obj (i := 6) (by decide)
            refine px_iload_n dX4_run_49 rfl ?_
            refine pn_if_lt (tgt := 75) dX4_run_50 (by decide) (px_o_neg (by omega)) (fun g4 => ?_) (fun g4 => ?_)
            · exact absurd g4 (by omega)
            · have hl := hv.len
              obtain ⟨p, hp⟩ : ∃ p, O[i]? = some p := ⟨_, List.getElem?_eq_getElem (by omega)⟩
              have hpN := (hv.2.1.2.1 p).mp (List.mem_of_getElem? hp)
              have hpp := hv.2.1.2.2.1 i p hp
              have hpp0 := hR0.2.1.2.2.1 i p hp
              have kp := (hv.2.2.1.1 p (Or.inl hpN)).1
              refine px_aload_n dX4_run_53 rfl trivial ?_
              refine px_aload_n dX4_run_54 rfl trivial ?_
              refine px_getf dX4_run_55 F_RX4_28 (cc_obj (by first | assumption | (simp only [cxN, cxZ, cxS, cxL, cxR]; assumption))) (by rfl) ?_
              refine px_iload_n dX4_run_58 rfl ?_
              rw [px_o]
              refine px_callVr (cl_get (x := (2, p)) (by rw [hv.1.2.2.2.2.2]; exact c2_get hp) rfl (by first | assumption | (simp only [cxN, cxZ, cxS, cxL, cxR]; assumption)) hX) dX4_run_59 L_RX4_98 (cc_rcL rfl (by first | assumption | (simp only [cxN, cxZ, cxS, cxL, cxR]; assumption))) rfl rfl (by decide) (by omega) (by omega) (Nat.le_of_ble_eq_true rfl) ?_
              refine px_cast dX4_run_62 (cc_pin (by first | assumption | (simp only [cxN, cxZ, cxS, cxL, cxR]; assumption))) rfl K_RX4_35 ?_
              refine px_iload_n dX4_run_65 rfl ?_
              refine px_callV (ce_gat hX ok hv (k := k) (p := p) (by omega) (Or.inr hpN) hq.lv (LL := LL) (fun q hq' ⟨n, hn, hn3, hnq⟩ => hJ q hq' (by have h := (cTo_ne hR0 ok hn hn3).2; rw [show cTo s n = q from hnq] at h; omega))) dX4_run_66 L_RX4_151 (cc_rc4 (by first | assumption | (simp only [cxN, cxZ, cxS, cxL, cxR]; assumption))) rfl rfl (by decide) (by omega) (by omega) (Nat.le_of_ble_eq_true rfl) (fun v9 M9 hq => ?_) (fun E9 M9 hq => ?_)
              · obtain ⟨e3, v', W, rfl, w1, w2, w3, w4⟩ := hq
                cases e3
                refine px_iinc dX4_run_69 rfl (px_o_dec (n := i) (by omega)) (by decide) ?_
                refine px_goto (tgt := 49) dX4_run_72 (by decide) ?_
                refine px_sub (ih v' (cUp LL p W) (by omega) (hq.tr w1.cq) w2 fun q hq' hiq => ?_) rfl
                by_cases e : q = p
                · rw [e]
                  exact ⟨w3, by rw [cUp_s]; exact w4⟩
                · have hne : cn u0 2 q 0 ≠ cn u0 2 p 0 := fun z => e (hR0.inj hq' hpN z)
                  obtain ⟨j1, j2⟩ := hJ q hq' (by omega)
                  refine ⟨j1.cg w1 e fun n hn h3 z => ?_, by rw [cUp_n e]; exact j2⟩
                  have := (cTo_ne hR0 ok hn h3).2
                  rw [z] at this
                  omega
              · obtain ⟨e3, -⟩ := hq
                cases e3
        have kk6 := hR0.obj (i := 6) (by decide)
        have hl := hR0.len
        refine px_aload_n dX4_run_39 rfl trivial ?_
        refine px_getf dX4_run_40 F_RX4_28 (cc_obj (by first | assumption | (simp only [cxN, cxZ, cxS, cxL, cxR]; assumption))) (by rfl) ?_
        refine px_callVr (cl_size rfl (by first | assumption | (simp only [cxN, cxZ, cxS, cxL, cxR]; assumption)) hX) dX4_run_43 L_RX4_70 (cc_rcL rfl (by first | assumption | (simp only [cxN, cxZ, cxS, cxL, cxR]; assumption))) rfl rfl (by decide) (by omega) (by omega) (Nat.le_of_ble_eq_true rfl) ?_
        rw [hR0.1.2.2.2.2.2, List.length_map, hl]
        refine px_iconst (v := nI 1) dX4_run_46 (by decide) ?_
        refine pn_isub dX4_run_47 (px_o_sub (n := s.1 1) (by omega)) ?_
        refine px_istore_n dX4_run_48 (by decide) ?_
        exact px_sub (lp (s.1 1) u0 (fun _ => []) (Nat.le_refl _) (cq.rf u0) hR0 fun q hq' hlt => by have := (hR0.place hq').2; omega) rfl
    · rw [px_ch_0 hr]
      refine pn_if_eq (tgt := 84) dX4_run_36 (by decide) (pn_z (by omega)) (fun g3 => ?_) (fun g3 => ?_)
      · refine px_sub (fin u0 [] [] hR0 (hp0.sp0 ok hr k) ⟨fun _ => [], rfl, ⟨hz0, fun j w hj => ?_⟩, fun z => absurd rfl z⟩) rfl
        cases hj
      · exact absurd rfl g3
  refine px_iload_n dX4_run_0 rfl ?_
  refine px_iconst (v := nI 1) dX4_run_1 (by decide) ?_
  refine pn_icmp_lt (tgt := 11) dX4_run_2 (by decide) (px_ltN _ (by decide)) (fun g1 => ?_) (fun g1 => ?_)
  · exact px_sub (thr (fun z => by unfold kc_run at z; split at z <;> omega) 0 0 (by omega) (by omega)) rfl
  · refine px_iload_n dX4_run_5 rfl ?_
    refine px_bipush (v := nI 40) dX4_run_6 (by decide) ?_
    refine pn_icmp_le (tgt := 21) dX4_run_8 (by decide) (px_leN' _ (by decide)) (fun g2 => ?_) (fun g2 => ?_)
    · exact px_sub (kgood (by omega) (by omega)) rfl
    · exact px_sub (thr (fun z => by unfold kc_run at z; split at z <;> omega) 0 0 (by omega) (by omega)) rfl
