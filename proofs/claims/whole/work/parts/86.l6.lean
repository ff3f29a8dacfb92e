/-! ===== the law's loop ===== -/
theorem lw_and (x : Int32) : ∃ c, c < 16 ∧ x &&& nI 15 = nI c := by
  refine ⟨(x.toBitVec &&& 15#32).toNat, ?_, ?_⟩
  · rw [BitVec.toNat_and]
    exact Nat.lt_of_le_of_lt Nat.and_le_right (by decide)
  · refine Int32.toBitVec_inj.mp ?_
    show x.toBitVec &&& 15#32 = BitVec.ofNat 32 (x.toBitVec &&& 15#32).toNat
    rw [BitVec.ofNat_toNat, BitVec.setWidth_eq]
theorem lw_i4 (i : Nat) : nI i + Int32.ofInt 4 = nI (i + 4) := nI_add i 4
section LWL
variable {G0 : px_G} {Q : px_Q}
set_option maxRecDepth 100000 in
set_option maxHeartbeats 8000000 in
theorem lw_body {s : mm_S} {u : cc_U} {X : px_M} (hJ : lJ s u X) {i k n : Nat} (hi : i + 4 ≤ px_gL G0) (hL : px_gL G0 ≤ 2048) (hk : k + 70 ≤ 601024) (hn : n + 8000 ≤ 7293034) (K : ∀ s' u' X', lJ s' u' X' → pg_W G0 12 601024 7293034 mL_law Q 1173 (lB G0 i) [] (mm_M s' (cc_M u' X')) (k + 70) (n + 8000)) (lv : List (Nat × px_V)) : pg_W G0 12 601024 7293034 mL_law Q 37 (lB G0 i ++ lv) [] (mm_M s (cc_M u X)) k n := by
  obtain ⟨ok, hu, hX, h9⟩ := id hJ
  have hZ : ∃ Z : List mm_P, s.1 25 ≠ 0 → mm_vis s Z ∧ cwv s u Z := by
    by_cases h : s.1 25 = 0
    · exact ⟨[], fun z => absurd h z⟩
    · obtain ⟨Z, z1, z2⟩ := hu.2 h
      exact ⟨Z, fun _ => ⟨z1, z2⟩⟩
  obtain ⟨Z, hZ⟩ := hZ
  refine pg_aload_n dL_law_37 rfl trivial ?_
  refine pg_iload dL_law_38 rfl ?_
  refine pg_xldN dL_law_40 rfl (by omega) (by omega) ?_
  refine pg_bipush (v := nI 15) dL_law_41 (by decide) ?_
  refine pg_iand dL_law_43 ?_
  obtain ⟨c, hc, e⟩ := lw_and (px_gx G0 i)
  rw [e]
  rcases (show c = 0 ∨ c = 1 ∨ c = 2 ∨ c = 3 ∨ c = 4 ∨ c = 5 ∨ c = 6 ∨ c = 7 ∨ c = 8 ∨ c = 9 ∨ c = 10 ∨ c = 11 ∨ c = 12 ∨ c = 13 ∨ c = 14 ∨ c = 15 by omega) with rfl | rfl | rfl | rfl | rfl | rfl | rfl | rfl | rfl | rfl | rfl | rfl | rfl | rfl | rfl | rfl
  · exact pg_tableIn (tgt := 120) dL_law_44 (by decide) (by decide) rfl (by decide) (lc_pin hJ hi hL hk hn K lv)
  · exact pg_tableIn (tgt := 164) dL_law_44 (by decide) (by decide) rfl (by decide) (lc_arc hJ hi hL hk hn K lv)
  · exact pg_tableIn (tgt := 254) dL_law_44 (by decide) (by decide) rfl (by decide) (lc_end hJ hi hL hk hn K lv)
  · exact pg_tableIn (tgt := 332) dL_law_44 (by decide) (by decide) rfl (by decide) (lc_start hJ hi hL hk hn K lv)
  · exact pg_tableIn (tgt := 410) dL_law_44 (by decide) (by decide) rfl (by decide) (lc_through hJ hi hL hk hn K lv)
  · exact pg_tableIn (tgt := 485) dL_law_44 (by decide) (by decide) rfl (by decide) (lc_run hJ hi hL hk hn K lv)
  · exact pg_tableIn (tgt := 541) dL_law_44 (by decide) (by decide) rfl (by decide) (lc_slack hJ hZ hi hL hk hn K lv)
  · exact pg_tableIn (tgt := 618) dL_law_44 (by decide) (by decide) rfl (by decide) (lc_at hJ hZ hi hL hk hn K lv)
  · exact pg_tableIn (tgt := 686) dL_law_44 (by decide) (by decide) rfl (by decide) (lc_group hJ hi hL hk hn K lv)
  · exact pg_tableIn (tgt := 754) dL_law_44 (by decide) (by decide) rfl (by decide) (lc_model hJ hi hL hk hn K lv)
  · exact pg_tableIn (tgt := 810) dL_law_44 (by decide) (by decide) rfl (by decide) (lc_into hJ hi hL hk hn K lv)
  · exact pg_tableIn (tgt := 885) dL_law_44 (by decide) (by decide) rfl (by decide) (lc_reduced hJ hi hL hk hn K lv)
  · exact pg_tableIn (tgt := 986) dL_law_44 (by decide) (by decide) rfl (by decide) (lc_budget hJ hZ hi hL hk hn K lv)
  · exact pg_tableIn (tgt := 1075) dL_law_44 (by decide) (by decide) rfl (by decide) (lc_whatIf hJ hi hL hk hn K lv)
  · exact pg_tableIn (tgt := 1160) dL_law_44 (by decide) (by decide) rfl (by decide) (lc_back hJ hk hn K lv)
  · exact pg_tableOut (tgt := 1173) dL_law_44 (by decide) (by decide) (pg_sub (pg_wid (by omega) (by omega) (K s u X hJ)) rfl)
set_option maxRecDepth 100000 in
set_option maxHeartbeats 8000000 in
theorem lw_loop (hL : px_gL G0 ≤ 2048) (hQ : ∀ M, Q (.inl (some (.inl (.int (nI 1))))) M) : ∀ (m j : Nat) (s : mm_S) (u : cc_U) (X : px_M) (lv : List (Nat × px_V)), lJ s u X → m + j = 513 → (j ≠ 0 → 4 * j ≤ px_gL G0) → pg_W G0 12 601024 7293034 mL_law Q 28 (lB G0 (4 * j) ++ lv) [] (mm_M s (cc_M u X)) (70 + 70 * j) (90000 + 8000 * j) := by
  intro m
  induction m with
  | zero =>
    intro j s u X lv hJ hm hj
    have := hj (by omega)
    omega
  | succ m ih =>
    intro j s u X lv hJ hm hj
    have fin : ∀ lv', pg_W G0 12 601024 7293034 mL_law Q 1179 (lB G0 (4 * j) ++ lv') [] (mm_M s (cc_M u X)) (70 + 70 * j) (90000 + 8000 * j) := fun lv' => by
      refine pg_iconst (v := nI 1) dL_law_1179 (by decide) ?_
      exact pg_zret dL_law_1180 rfl (by decide) (hQ _) (by omega) (by omega)
    refine pg_iload dL_law_28 rfl ?_
    refine pg_aload_n dL_law_30 rfl trivial ?_
    refine pg_xlen dL_law_31 ?_
    refine pg_iconst (v := nI 4) dL_law_32 (by decide) ?_
    by_cases h4 : 4 ≤ px_gL G0
    · refine pgn_isub dL_law_33 (pk_sub h4) ?_
      refine pgn_icmp_gt (tgt := 1179) dL_law_34 (by decide) (nI_ltI (by omega) (by omega)) (fun g1 => ?_) (fun g1 => ?_)
      · exact pg_sub (fin []) rfl
      · refine pg_sub (lw_body hJ (i := 4 * j) (by omega) hL (by omega) (by omega) (fun s' u' X' hJ' => ?_) []) rfl
        refine pg_iinc dL_law_1173 rfl (lw_i4 _) (by decide) ?_
        refine pg_goto (tgt := 28) dL_law_1176 (by decide) ?_
        have ih1 := ih (j + 1) s' u' X' [] hJ' (by omega) (fun _ => by omega)
        rw [show 70 + 70 * (j + 1) = 70 + 70 * j + 70 by omega, show 90000 + 8000 * (j + 1) = 90000 + 8000 * j + 8000 by omega, show 4 * (j + 1) = 4 * j + 4 by omega] at ih1
        exact pg_sub ih1 rfl
    · have hj0 : j = 0 := Classical.byContradiction fun z => by have := hj z; omega
      subst hj0
      refine pgn_isub dL_law_33 rfl ?_
      have key : nI (px_gL G0) - nI 4 < nI (4 * 0) := by
        rcases (show px_gL G0 = 0 ∨ px_gL G0 = 1 ∨ px_gL G0 = 2 ∨ px_gL G0 = 3 by omega) with e | e | e | e <;> rw [e] <;> decide
      refine pgn_icmp_gt (tgt := 1179) dL_law_34 (by decide) (Iff.rfl) (fun g1 => ?_) (fun g1 => ?_)
      · exact pg_sub (fin []) rfl
      · exact absurd key g1
end LWL
