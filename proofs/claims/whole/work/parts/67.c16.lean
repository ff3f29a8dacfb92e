/-! ===== pin ===== -/
section CNP
variable (u : cc_U) (p c k i j : Nat)
theorem cnNP (h : ¬ (i = p ∧ (k = 2 ∨ (7 ≤ k ∧ k ≤ 13)))) : cn (cc_np u p c) k i j = cn u k i j := by unfold cn cc_np; rw [if_neg h]
theorem czNP (h : ¬ (i = p ∧ (k = 2 ∨ (7 ≤ k ∧ k ≤ 13)))) : cz (cc_np u p c) k i j = cz u k i j := by unfold cz cc_np; rw [if_neg h]
theorem csNP : cs (cc_np u p c) k i j = none ∨ cs (cc_np u p c) k i j = cs u k i j := by
  unfold cs cc_np
  split
  · exact Or.inl rfl
  · exact Or.inr rfl
theorem clNP (h : ¬ (i = p ∧ (k = 2 ∨ (7 ≤ k ∧ k ≤ 13)))) : cl (cc_np u p c) k i = cl u k i := by unfold cl cc_np; rw [if_neg h]
theorem cxNP : cx (cc_np u p c) k i ↔ (i = p ∧ (k = 2 ∨ (7 ≤ k ∧ k ≤ 13))) ∨ cx u k i := by
  unfold cx cc_np
  split
  · rename_i h; exact ⟨fun _ => Or.inl h, fun _ => Nat.one_ne_zero⟩
  · rename_i h; exact ⟨Or.inr, fun y => y.resolve_left h⟩
theorem cnNP0 (h : k = 2 ∨ (7 ≤ k ∧ k ≤ 13)) : cn (cc_np u p c) k p j = if k = 2 ∧ j = 0 then c else 0 := by unfold cn cc_np; rw [if_pos ⟨rfl, h⟩]
theorem czNP0 (h : k = 2 ∨ (7 ≤ k ∧ k ≤ 13)) : cz (cc_np u p c) k p j = if k = 2 then -8 else 0 := by unfold cz cc_np; rw [if_pos ⟨rfl, h⟩]
theorem clNP0 (h : k = 2 ∨ (7 ≤ k ∧ k ≤ 13)) : cl (cc_np u p c) k p = [] := by unfold cl cc_np; rw [if_pos ⟨rfl, h⟩]
end CNP
def nx1_pin (s : mm_S) : mm_S := mm_I (mm_A s 2 (s.1 1) 0) 1 (s.1 1 + 1)
def cu_pin (s : mm_S) (u : cc_U) : cc_U := cL (cL (cc_np u (s.1 1) (s.1 1 + 1)) 14 6 (cl u 14 6 ++ [(2, s.1 1)])) 14 1 (cl u 14 1 ++ [(2, s.1 1)])
theorem c2_app (L : List Nat) (n : Nat) : c2 (L ++ [n]) = c2 L ++ [(2, n)] := List.map_append
theorem cRl.pin_ {s : mm_S} {u : cc_U} {O : List Nat} (hR : cRl s u O) (ok : mm_ok s) (hn : s.1 1 < 60) : cRl (nx1_pin s) (cu_pin s u) (O ++ [s.1 1]) := by
  have hlen := hR.len
  obtain ⟨hA, hB, hC, hD, hE, hF, hG, hH⟩ := id hR
  have hbd := ok.h1
  have q1 : ∀ k, k ≠ 1 → (nx1_pin s).1 k = s.1 k := fun k hk => if_neg hk
  have q11 : (nx1_pin s).1 1 = s.1 1 + 1 := mr_Ie
  have q2 : ∀ k i, k ≠ 2 → (nx1_pin s).2.1 k i = s.2.1 k i := fun k i h1 => congrFun (if_neg h1) i
  have q22 : ∀ i, (nx1_pin s).2.1 2 i = if i = s.1 1 then 0 else s.2.1 2 i := fun i => congrFun (mr_A0 s 2 (s.1 1) 0) i
  have q3 : ∀ k i, (nx1_pin s).2.2 k i = s.2.2 k i := fun k i => rfl
  generalize nx1_pin s = s1 at q1 q11 q2 q22 q3
  have x : ∀ k i, cx (cu_pin s u) k i ↔ (i = s.1 1 ∧ (k = 2 ∨ (7 ≤ k ∧ k ≤ 13))) ∨ cx u k i := fun k i => by unfold cu_pin; rw [cxL, cxL, cxNP]
  have r : ∀ k i j, ¬ (i = s.1 1 ∧ (k = 2 ∨ (7 ≤ k ∧ k ≤ 13))) → cn (cu_pin s u) k i j = cn u k i j := fun k i j h1 => by unfold cu_pin; rw [cnL, cnL, cnNP _ _ _ _ _ _ h1]
  have r0 : ∀ k j, k = 2 ∨ (7 ≤ k ∧ k ≤ 13) → cn (cu_pin s u) k (s.1 1) j = if k = 2 ∧ j = 0 then s.1 1 + 1 else 0 := fun k j h1 => by unfold cu_pin; rw [cnL, cnL, cnNP0 _ _ _ _ _ h1]
  have z : ∀ k i j, ¬ (i = s.1 1 ∧ (k = 2 ∨ (7 ≤ k ∧ k ≤ 13))) → cz (cu_pin s u) k i j = cz u k i j := fun k i j h1 => by unfold cu_pin; rw [czL, czL, czNP _ _ _ _ _ _ h1]
  have z0 : ∀ j, cz (cu_pin s u) 2 (s.1 1) j = -8 := fun j => by unfold cu_pin; rw [czL, czL, czNP0 _ _ _ _ _ (Or.inl rfl)]; rfl
  have y : ∀ k i j, cs (cu_pin s u) k i j = none ∨ cs (cu_pin s u) k i j = cs u k i j := fun k i j => by unfold cu_pin; rw [csL, csL]; exact csNP _ _ _ _ _ _
  have l : ∀ k i, ¬ (i = s.1 1 ∧ (k = 2 ∨ (7 ≤ k ∧ k ≤ 13))) → ¬ (k = 14 ∧ i = 6) → ¬ (k = 14 ∧ i = 1) → cl (cu_pin s u) k i = cl u k i := fun k i h1 h2 h3 => by unfold cu_pin; rw [clL, if_neg h3, clL, if_neg h2, clNP _ _ _ _ _ h1]
  have l0 : ∀ k, 7 ≤ k ∧ k ≤ 13 → cl (cu_pin s u) k (s.1 1) = [] := fun k h1 => by unfold cu_pin; rw [clL, if_neg (by omega), clL, if_neg (by omega), clNP0 _ _ _ _ (Or.inr h1)]
  have l6 : cl (cu_pin s u) 14 6 = cl u 14 6 ++ [(2, s.1 1)] := by unfold cu_pin; rw [clL, if_neg (by omega), clL, if_pos ⟨rfl, rfl⟩]
  have l1 : cl (cu_pin s u) 14 1 = cl u 14 1 ++ [(2, s.1 1)] := by unfold cu_pin; rw [clL, if_pos ⟨rfl, rfl⟩]
  generalize cu_pin s u = W at x r r0 z z0 y l l0 l6 l1
  have hst : cSt s1 = cSt s := by unfold cSt; rw [q1 9 (by decide)]
  have har : ∀ p', cAr s1 p' = cAr s p' := fun p' => by unfold cAr; simp only [q1 6 (by decide), q2 3 _ (by decide)]
  have hen : ∀ p', cEn s1 p' = cEn s p' := fun p' => by unfold cEn; simp only [q1 13 (by decide), q2 10 _ (by decide)]
  have hStp : ∀ n, cStp s1 n ↔ cStp s n := fun n => by unfold cStp; rw [q1 6 (by decide), q1 9 (by decide), q1 13 (by decide)]
  refine ⟨?_, ⟨?_, fun p' => ?_, fun i p' hi => ?_, fun a ha => ?_⟩, ?_, ?_, ?_, ?_, ?_, ?_⟩
  · obtain ⟨a1, a2, a3, a4, a5, a6⟩ := hA
    refine ⟨fun i hi => (x 14 i).mpr (Or.inr (a1 i hi)), ?_, ?_, ?_, ?_, ?_⟩
    · rw [l1, q11, a2, List.range_succ, c2_app]
    · rw [l 14 2 (by omega) (by omega) (by omega), q1 6 (by decide)]; exact a3
    · rw [l 14 3 (by omega) (by omega) (by omega), hst]; exact a4
    · rw [l 14 4 (by omega) (by omega) (by omega), q1 13 (by decide)]; exact a5
    · rw [l6, a6, c2_app]
  · exact List.nodup_append.mpr ⟨hB.1, by simp, fun a ha b hb e => by
      have h1 := (hB.2.1 a).mp ha
      rw [List.mem_singleton.mp hb] at e
      omega⟩
  · rw [List.mem_append, hB.2.1, List.mem_singleton, q11]; omega
  · rcases Nat.lt_or_ge i O.length with h1 | h1
    · rw [List.getElem?_append_left h1] at hi
      have := (hB.2.1 p').mp (List.mem_of_getElem? hi)
      rw [r 2 p' 0 (by omega)]; exact hB.2.2.1 i p' hi
    · have h2 : i < O.length + 1 := by have := (List.getElem?_eq_some_iff.mp hi).1; simp at this; omega
      obtain rfl : i = O.length := by omega
      rw [List.getElem?_append_right (Nat.le_refl _), Nat.sub_self] at hi
      obtain rfl : p' = s.1 1 := (Option.some.inj hi).symm
      rw [r0 2 0 (Or.inl rfl), if_pos ⟨rfl, rfl⟩, hlen]
  · rw [q1 6 (by decide)] at ha
    obtain ⟨b1, b2, -, -⟩ := ok.2.1 a ha
    rw [q2 3 a (by decide), q2 4 a (by decide), r 2 _ 0 (by omega), r 2 _ 0 (by omega)]
    exact hB.2.2.2 a ha
  · refine ⟨fun p' hp' => ?_, fun p' hp' k hk => ?_, fun p' hp' => ?_, ?_⟩
    · by_cases e : p' = s.1 1
      · subst e
        refine ⟨(x _ _).mpr (Or.inl ⟨rfl, by omega⟩), (x _ _).mpr (Or.inl ⟨rfl, by omega⟩), (x _ _).mpr (Or.inl ⟨rfl, by omega⟩), (x _ _).mpr (Or.inl ⟨rfl, by omega⟩), (x _ _).mpr (Or.inl ⟨rfl, by omega⟩), (x _ _).mpr (Or.inl ⟨rfl, by omega⟩), (x _ _).mpr (Or.inl ⟨rfl, by omega⟩), (x _ _).mpr (Or.inl ⟨rfl, by omega⟩), ?_⟩
        rw [r0 7 0 (by omega), if_neg (by omega)]; exact Nat.zero_le _
      · have hq' : cPx s p' := by unfold cPx at hp' ⊢; rw [q11] at hp'; omega
        obtain ⟨a1, a2, a3, a4, a5, a6, a7, a8, a9⟩ := hC.1 p' hq'
        exact ⟨(x _ _).mpr (Or.inr a1), (x _ _).mpr (Or.inr a2), (x _ _).mpr (Or.inr a3), (x _ _).mpr (Or.inr a4), (x _ _).mpr (Or.inr a5), (x _ _).mpr (Or.inr a6), (x _ _).mpr (Or.inr a7), (x _ _).mpr (Or.inr a8), by rw [r 7 p' 0 (by omega)]; exact a9⟩
    · have hq' : ¬ cPx s p' := by unfold cPx at hp' ⊢; rw [q11] at hp'; omega
      rw [x]
      rintro (h9 | h9)
      · unfold cPx at hp'; rw [q11] at hp'; omega
      · exact hC.2.1 p' hq' k hk h9
    · rw [q22]
      by_cases e : p' = s.1 1
      · subst e
        rw [if_pos rfl, r0 2 2 (Or.inl rfl), if_neg (by omega)]
      · rw [if_neg e, r 2 p' 2 (by omega)]; exact hC.2.2.1 p' (by rw [q11] at hp'; omega)
    · rw [r 2 60 2 (by omega), r 2 61 2 (by omega), r 2 60 0 (by omega), r 2 61 0 (by omega)]; exact hC.2.2.2
  · refine ⟨fun n => ?_, fun a ha => ?_, fun i hi => ?_, fun e he => ?_⟩
    · rw [x, hStp, ← hD.1 n]
      exact ⟨fun h9 => h9.resolve_left (by omega), Or.inr⟩
    · rw [q1 6 (by decide)] at ha
      simp only [fun j => r 3 a j (by omega), fun j => z 3 a j (by omega), q2 3 _ (by decide), q2 4 _ (by decide), q3]
      exact hD.2.1 a ha
    · rw [q1 9 (by decide)] at hi
      simp only [fun j => r 3 (200 + i) j (by omega), fun j => z 3 (200 + i) j (by omega), q2 7 _ (by decide), q3]
      exact hD.2.2.1 i hi
    · rw [q1 13 (by decide)] at he
      simp only [fun j => r 3 (300 + e) j (by omega), fun j => z 3 (300 + e) j (by omega), q2 10 _ (by decide), q2 12 _ (by decide), q3]
      exact hD.2.2.2 e he
  · refine ⟨fun p' hp' => ?_, ?_, fun p' hp' => ?_⟩
    · rw [q11] at hp'
      unfold cOL
      rw [if_neg (by omega), har, hen]
      by_cases e : p' = s.1 1
      · subst e
        have e1 : cEn s (s.1 1) = [] := List.eq_nil_iff_forall_not_mem.mpr fun n hn => by
          obtain ⟨g1, g2, g3⟩ := cEn_mem.mp hn
          have := (ok.2.2.2.1 (n - 300) (by omega)).1; omega
        have e2 : cAr s (s.1 1) = [] := List.eq_nil_iff_forall_not_mem.mpr fun n hn => by
          obtain ⟨g1, g2⟩ := cAr_mem.mp hn
          have := (ok.2.1 n g1).1; omega
        rw [e1, e2, l0 13 (by omega), r0 2 1 (Or.inl rfl), if_neg (by omega)]
        exact ⟨rfl, rfl⟩
      · obtain ⟨e1, e2⟩ := hE.1 p' (by omega)
        unfold cOL at e1
        rw [if_neg (by omega)] at e1
        rw [l 13 p' (by omega) (by omega) (by omega), r 2 p' 1 (by omega)]
        exact ⟨e1, e2⟩
    · rw [hst, l 13 60 (by omega) (by omega) (by omega)]; exact hE.2.1
    · rw [q11] at hp'
      have hin : ∀ n, cInn s1 p' n ↔ cInn s p' n := fun n => by
        unfold cInn
        rw [q1 6 (by decide), q1 9 (by decide), q2 4 _ (by decide), q2 7 _ (by decide)]
      by_cases e : p' = s.1 1
      · subst e
        refine ⟨[], l0 12 (by omega), List.nodup_nil, fun n => ⟨fun h9 => absurd h9 List.not_mem_nil, fun h9 => ?_⟩⟩
        have := (hin n).mp h9
        unfold cInn at this
        rcases this with ⟨g1, g2⟩ | ⟨g1, g2, g3⟩
        · have := (ok.2.1 n g1).2.1; omega
        · have := (ok.2.2.1 (n - 200) (by omega)).1; omega
      · obtain ⟨L, e1, e2, e3⟩ := hE.2.2 p' (by omega)
        exact ⟨L, by rw [l 12 p' (by omega) (by omega) (by omega)]; exact e1, e2, fun n => by rw [e3, hin]⟩
  · refine ⟨fun j hj => ?_, ?_⟩
    · rw [r 14 7 j (by omega), q2 14 j (by decide)]; exact hF.1 j hj
    · rw [r 14 0 0 (by omega), q1 25 (by decide)]; exact hF.2
  · obtain ⟨C, c1, c2, c3, K, c4⟩ := hG
    refine ⟨C, by rw [l 14 5 (by omega) (by omega) (by omega)]; exact c1, by rw [q1 17 (by decide)]; exact c2, fun i n hn => ?_, K, fun n hn => ?_⟩
    · rw [x, r 6 n 0 (by omega), z 6 n 0 (by omega), q2 15 i (by decide), q3]
      obtain ⟨d1, d2, d3⟩ := c3 i n hn
      exact ⟨Or.inr d1, d2, d3⟩
    · rw [x]
      rintro (h9 | h9)
      · omega
      · exact c4 n hn h9
  · obtain ⟨a1, a2, a3, a4, a5⟩ := hH
    refine ⟨fun i => ?_, fun i j r9 h9 => ?_, fun i j => ?_, by rw [r 7 61 0 (by omega)]; exact a4, by rw [z 8 61 0 (by omega)]; exact a5.1, by rcases y 9 61 0 with e | e; exact e; rw [e]; exact a5.2⟩
    · by_cases e : i = s.1 1
      · rw [e, z0]; omega
      · rw [z 2 i 0 (by omega)]; exact a1 i
    · rcases y 9 i j with e | e
      · rw [e] at h9; cases h9
      · rw [e] at h9
        obtain ⟨n, g1, g2⟩ := a2 i j r9 h9
        exact ⟨n, g1, (hStp n).mpr g2⟩
    · by_cases e : i = s.1 1
      · rw [e, r0 10 j (by omega), if_neg (by omega)]; exact Nat.zero_le _
      · rw [r 10 i j (by omega)]; exact a3 i j
section CKS
variable {u : cc_U} {X : px_M} {k i n : Nat}
theorem isl2 (h : isl k i = true) : k ≠ 2 := by
  intro e
  subst e
  unfold isl at h
  simp at h
theorem cl_size2 (o : px_O) (h : isl k i = true) (hx : cx u k i) (hX : c9 X) : px_Met 0 0 0 mJx4a65c_size_8abf5 [.inr (k, i)] (px_up (cc_M u X) (2, n) o) (px_rt (some (.inl (.int (nI (cl u k i).length)))) (px_up (cc_M u X) (2, n) o)) := jl_size ((px_up_n _ _ (ce_ne (isl2 h))).trans (cc_lst h hx)) (isl_k h).2 (px_u9 (cc_99 hX) (by simp))
theorem cc_rcL2 (o : px_O) (h : isl k i = true) (hx : cx u k i) : px_rcv (px_up (cc_M u X) (2, n) o) (k, i) RJx4a65c := Or.inr ⟨_, (px_up_n _ _ (ce_ne (isl2 h))).trans (cc_lst h hx), rfl⟩
end CKS
set_option maxRecDepth 100000 in
set_option maxHeartbeats 4000000 in
theorem ce_pin {s : mm_S} {u : cc_U} {X : px_M} (hX : c9 X) (ok : mm_ok s) (h : cok s u) : px_Met 9 70 8000 mX4_pin [.inr (14, 0)] (cc_M u X) (cqo X [cB] (kc_pin s) (.inl (.int (nI (s.1 1)))) (nx_pin s)) := by
  refine px_ofW (by decide) W_mX4_pin (Nat.le_of_ble_eq_true rfl) ?_
  obtain ⟨⟨O, hR⟩, hW⟩ := id h
  have hbd := ok.h1
  have h0 := hR.obj (i := 0) (by decide)
  have h1 := hR.obj (i := 1) (by decide)
  have h6 := hR.obj (i := 6) (by decide)
  have e6 : (cl u 14 6).length = s.1 1 := by rw [hR.1.2.2.2.2.2, List.length_map, hR.len]
  have nx1 : kc_pin s ≠ 0 → nx_pin s = s := fun e => by unfold nx_pin; rw [if_neg e]
  refine px_aload_n dX4_pin_0 rfl trivial ?_
  refine px_getf dX4_pin_1 F_RX4_12 (cc_obj (by first | assumption | (simp only [cxN, cxZ, cxS, cxL, cxR]; assumption))) (by rfl) ?_
  refine px_callVr (cl_size rfl (by first | assumption | (simp only [cxN, cxZ, cxS, cxL, cxR]; assumption)) hX) dX4_pin_4 L_RX4_70 (cc_rcL rfl (by first | assumption | (simp only [cxN, cxZ, cxS, cxL, cxR]; assumption))) rfl rfl (by decide) (by omega) (by omega) (Nat.le_of_ble_eq_true rfl) ?_
  rw [hR.pl]
  refine px_bipush (v := nI 60) dX4_pin_7 (by decide) ?_
  refine pn_icmp_lt (tgt := 22) dX4_pin_9 (by decide) (nI_ltI (by omega) (by omega)) (fun g1 => ?_) (fun g1 => ?_)
  · have e : kc_pin s = 0 := by unfold kc_pin; rw [if_neg (by omega)]
    unfold nx_pin
    rw [e, if_pos rfl]
    have hR1 := hR.pin_ ok g1
    have nP : ∀ k, k = 2 ∨ (7 ≤ k ∧ k ≤ 13) → cc_M u X (k, s.1 1) = none := fun k hk => cc_no (hR.2.2.1.2.1 (s.1 1) (by unfold cPx; omega) k hk) (by omega)
    refine px_newo (ci := 1) (2, s.1 1) dX4_pin_22 rfl K_RX4_35 N_RX1 Z_RX1 (nP 2 (by omega)) rfl (by omega) (by omega) ?_
    refine px_dup dX4_pin_25 rfl ?_
    refine px_aload_n dX4_pin_26 rfl trivial ?_
    refine px_getf dX4_pin_27 F_RX4_28 (((px_up_n _ _ (ce_ne (by decide))).trans (cc_obj h0))) (by rfl) ?_
    refine px_callVr (cl_size2 _ rfl h6 hX) dX4_pin_30 L_RX4_70 (cc_rcL2 _ rfl h6) rfl rfl (by decide) (by omega) (by omega) (Nat.le_of_ble_eq_true rfl) ?_
    rw [e6]
    refine px_sipush (v := nI 320) dX4_pin_33 (by decide) ?_
    have nU : ∀ (k : Nat) (o : px_O), 7 ≤ k → k ≤ 13 → px_up (cc_M u X) (2, s.1 1) o (k, s.1 1) = none := fun k o g2 g3 => (px_up_n _ _ (ce_ne (by omega))).trans (nP k (Or.inr ⟨g2, g3⟩))
    refine px_callI (ce_newP (p := s.1 1) (w := 320) (v := nI (s.1 1)) (Nat.le_refl _) (px_u9 (cc_99 hX) (by simp)) (px_up_s _ _ _) (nU 7 _ (by decide) (by decide)) (nU 8 _ (by decide) (by decide)) (nU 9 _ (by decide) (by decide)) (nU 10 _ (by decide) (by decide)) (nU 11 _ (by decide) (by decide)) (nU 12 _ (by decide) (by decide)) (nU 13 _ (by decide) (by decide))) dX4_pin_36 L_RX4_37 rfl rfl rfl (by decide) (by omega) (by omega) (Nat.le_of_ble_eq_true rfl) ?_
    have ew : cc_wl (s.1 1) = 320 := by unfold cc_wl; rw [if_neg (by omega)]
    have eM := cc_np_eq u X (s.1 1) (s.1 1 + 1)
    rw [ew] at eM
    refine px_eqM (eM _) ?_
    have x1 : ∀ k i, cx u k i → cx (cc_np u (s.1 1) (s.1 1 + 1)) k i := fun k i hk => (cxNP _ _ _ _ _).mpr (Or.inr hk)
    have x2 : cx (cc_np u (s.1 1) (s.1 1 + 1)) 2 (s.1 1) := (cxNP _ _ _ _ _).mpr (Or.inl ⟨rfl, Or.inl rfl⟩)
    have w6 : cl (cc_np u (s.1 1) (s.1 1 + 1)) 14 6 = cl u 14 6 := clNP _ _ _ _ _ (by omega)
    have y0 := x1 14 0 h0
    have y1 := x1 14 1 h1
    have y6 := x1 14 6 h6
    have hst : ∀ m ∈ O, cx u 2 m := fun m hm => (hR.2.2.1.pn ((hR.2.1.2.1 m).mp hm)).1
    refine px_astore_n dX4_pin_39 (by decide) trivial ?_
    refine px_aload_n dX4_pin_40 rfl trivial ?_
    refine px_getf dX4_pin_41 F_RX4_28 (cc_obj (by first | assumption | (simp only [cxN, cxZ, cxS, cxL, cxR]; assumption))) (by rfl) ?_
    refine px_aload_n dX4_pin_44 rfl trivial ?_
    refine px_callVr (cl_add (by rw [w6, e6]; omega) ⟨cc_obs2 x2, by rw [w6, hR.1.2.2.2.2.2]; exact cc_obs2s fun m hm => x1 2 m (hst m hm)⟩ rfl (by first | assumption | (simp only [cxN, cxZ, cxS, cxL, cxR]; assumption)) hX) dX4_pin_45 L_RX4_80 (cc_rcL rfl (by first | assumption | (simp only [cxN, cxZ, cxS, cxL, cxR]; assumption))) rfl rfl (by decide) (by omega) (by omega) (Nat.le_of_ble_eq_true rfl) ?_
    rw [w6]
    have w1 : cl (cL (cc_np u (s.1 1) (s.1 1 + 1)) 14 6 (cl u 14 6 ++ [(2, s.1 1)])) 14 1 = cl u 14 1 := by rw [clL, if_neg (by omega)]; exact clNP _ _ _ _ _ (by omega)
    refine px_pop dX4_pin_48 rfl ?_
    refine px_aload_n dX4_pin_49 rfl trivial ?_
    refine px_getf dX4_pin_50 F_RX4_12 (cc_obj (by first | assumption | (simp only [cxN, cxZ, cxS, cxL, cxR]; assumption))) (by rfl) ?_
    refine px_aload_n dX4_pin_53 rfl trivial ?_
    refine px_callVr (cl_add (by rw [w1, hR.pl]; omega) ⟨cc_obs2 (by rw [cxL]; exact x2), by rw [w1, hR.1.2.1]; exact cc_obs2s fun m hm => by rw [cxL]; exact x1 2 m (hst m ((hR.2.1.2.1 m).mpr (List.mem_range.mp hm)))⟩ rfl (by first | assumption | (simp only [cxN, cxZ, cxS, cxL, cxR]; assumption)) hX) dX4_pin_54 L_RX4_80 (cc_rcL rfl (by first | assumption | (simp only [cxN, cxZ, cxS, cxL, cxR]; assumption))) rfl rfl (by decide) (by omega) (by omega) (Nat.le_of_ble_eq_true rfl) ?_
    rw [w1]
    have hR2 := hR1.unl
    have k0 := hR2.obj (i := 0) (by decide)
    have k1 := hR2.obj (i := 1) (by decide)
    have k00 := hR1.obj (i := 0) (by decide)
    unfold cu_pin at k0 k1 hR2 k00
    refine px_pop dX4_pin_57 rfl ?_
    refine px_aload_n dX4_pin_58 rfl trivial ?_
    refine px_iconst (v := nI 0) dX4_pin_59 (by decide) ?_
    refine cp_listed dX4_pin_60 F_RX4_50 (by first | assumption | (simp only [cxN, cxZ, cxS, cxL, cxR]; assumption)) rfl (by decide) ?_
    refine px_aload_n dX4_pin_63 rfl trivial ?_
    refine px_getf dX4_pin_64 F_RX4_12 (cc_obj (by first | assumption | (simp only [cxN, cxZ, cxS, cxL, cxR]; assumption))) (by rfl) ?_
    refine px_callVr (cl_size rfl (by first | assumption | (simp only [cxN, cxZ, cxS, cxL, cxR]; assumption)) hX) dX4_pin_67 L_RX4_70 (cc_rcL rfl (by first | assumption | (simp only [cxN, cxZ, cxS, cxL, cxR]; assumption))) rfl rfl (by decide) (by omega) (by omega) (Nat.le_of_ble_eq_true rfl) ?_
    rw [hR2.pl, show (mm_I (nx1_pin s) 25 0).1 1 = s.1 1 + 1 by rw [mr_In (by decide)]; exact mr_Ie]
    refine px_iconst (v := nI 1) dX4_pin_70 (by decide) ?_
    refine pn_isub dX4_pin_71 (pk_sub (by omega)) ?_
    rw [Nat.add_sub_cancel]
    refine px_iret dX4_pin_72 rfl ?_ (by omega) (by omega)
    exact cqo.ok ⟨⟨_, hR2⟩, cRW.no rfl⟩ rfl
  · refine px_throw (text := "no more pins") cT_77 rfl rfl (by decide) dX4_pin_12 dX4_pin_15 dX4_pin_16 dX4_pin_18 dX4_pin_21 (Nat.le_of_ble_eq_true rfl) ?_ (by omega) (by omega)
    have e : kc_pin s = 1 := by unfold kc_pin; rw [if_pos (by omega)]
    exact cqo.no (k := 0) (by rw [nx1 (by omega)]; exact h) e rfl
