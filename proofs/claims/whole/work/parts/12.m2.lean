/-! ===== the reference's methods without loops ===== -/
/-- an int that is one of 0 .. n-1 -/
abbrev px_ix (x : Int32) (n : Nat) : Prop := 0 ≤ x.toInt ∧ x.toInt < n

theorem px_ix_of {x : Int32} {n : Nat} (h : px_ix x n) : ∃ j, j < n ∧ x = nI j := by
  refine ⟨x.toInt.toNat, by have := h.1; have := h.2; omega, ?_⟩
  have h1 := x.toInt_lt
  rw [← Int32.toInt_inj, nI_toInt (by have := h.1; omega)]
  have := h.1; omega
theorem px_ix_nI {j n : Nat} (hj : j < 2 ^ 31) : px_ix (nI j) n ↔ j < n := by
  unfold px_ix
  rw [nI_toInt hj]; omega
theorem px_lt0 (x : Int32) : x < 0 ↔ x.toInt < 0 := Int32.lt_iff_toInt_lt
theorem px_leN (x : Int32) {n : Nat} (hn : n < 2 ^ 31) : nI n ≤ x ↔ (n : Int) ≤ x.toInt := by rw [Int32.le_iff_toInt_le, nI_toInt hn]
theorem px_ltN (x : Int32) {n : Nat} (hn : n < 2 ^ 31) : x < nI n ↔ x.toInt < (n : Int) := by rw [Int32.lt_iff_toInt_lt, nI_toInt hn]
set_option maxRecDepth 100000 in
set_option maxHeartbeats 4000000 in
theorem me_isPin (s : mm_S) (X : px_M) (x : Int32) (hp : s.1 1 ≤ 60) : px_Met 0 0 0 mX5_isPin [.inr (1, 0), .inl (.int x)] (mm_M s X) (px_rt (some (.inl (.int (px_bi (px_ix x (s.1 1)))))) (mm_M s X)) := by
  refine px_ofW (by decide) W_mX5_isPin (Nat.le_of_ble_eq_true rfl) ?_
  refine px_iload_n dX5_isPin_0 rfl ?_
  refine pn_if_lt (tgt := 16) dX5_isPin_1 (by decide) (px_lt0 _) (fun h => ?_) (fun h => ?_)
  · refine px_iconst (v := nI 0) dX5_isPin_16 (by decide) ?_
    refine px_zret dX5_isPin_17 rfl (by decide) ⟨?_, rfl⟩ (by omega) (by omega)
    rw [show px_bi (px_ix x (s.1 1)) = nI 0 from if_neg fun z => by have := z.1; omega]
  · refine px_iload_n dX5_isPin_4 rfl ?_
    refine px_aload_n dX5_isPin_5 rfl trivial ?_
    refine mm_gets dX5_isPin_6 F_RX5_85 (by decide) (by (try simp only [mr_In, mr_Ie, mr_A1, mr_D1, mr_R1, mr_T1, ne_eq, Nat.reduceEqDiff, not_false_eq_true]); rfl) ?_
    refine pn_icmp_ge (tgt := 16) dX5_isPin_9 (by decide) (px_leN _ (by omega)) (fun h2 => ?_) (fun h2 => ?_)
    · refine px_iconst (v := nI 0) dX5_isPin_16 (by decide) ?_
      refine px_zret dX5_isPin_17 rfl (by decide) ⟨?_, rfl⟩ (by omega) (by omega)
      rw [show px_bi (px_ix x (s.1 1)) = nI 0 from if_neg fun z => by have := z.2; omega]
    · refine px_iconst (v := nI 1) dX5_isPin_12 (by decide) ?_
      refine px_goto (tgt := 17) dX5_isPin_13 (by decide) ?_
      refine px_zret dX5_isPin_17 rfl (by decide) ⟨?_, rfl⟩ (by omega) (by omega)
      rw [show px_bi (px_ix x (s.1 1)) = nI 1 from if_pos ⟨by omega, by omega⟩]
theorem dz_int64 {d : Int} (hd : d.natAbs ≤ 2 ^ 50) : FP.d2l (FP.dmul (dz d) 4620693217682128896) = Int64.ofInt d := by
  have h1 := dz_mul8 (a := d) (by omega)
  have e : (Int64.ofInt d).toInt = d := Int64.toInt_ofInt_of_le (by omega) (by omega)
  rw [← e] at h1
  have := FP.Core.d2l_int (a := Int64.ofInt d) (b := FP.Core.dmul (dz d) 4620693217682128896) (by rw [e] at h1 ⊢; exact h1)
  exact this
theorem dz_whole {d : Int} (hd : d.natAbs ≤ 2 ^ 50) : FP.dcmp (FP.dmul (dz d) 4620693217682128896) (FP.l2d (FP.d2l (FP.dmul (dz d) 4620693217682128896))) = some .eq := by
  rw [dz_int64 hd]
  have e : (Int64.ofInt d).toInt = d := Int64.toInt_ofInt_of_le (by omega) (by omega)
  have h2 := FP.Core.l2d_int (a := Int64.ofInt d) (by rw [e]; omega)
  rw [e] at h2
  have h3 := FP.Core.dcmp_int (dz_mul8 (a := d) (by omega)) h2
  rw [show compare d d = Ordering.eq from Int.compare_eq_eq.mpr rfl] at h3
  exact h3
theorem dz_mul8_vf {d : Int} (hd : d.natAbs ≤ 2 ^ 50) : vf_n64 (FP.dmul (dz d) 4620693217682128896) := by
  refine dz_num fun e => ?_
  have h1 := dz_mul8 (a := d) (by omega)
  unfold FP.Core.DInt at h1
  rw [show FP.Core.val64 (FP.dmul (dz d) 4620693217682128896) = _ from e] at h1
  exact h1.elim
set_option maxRecDepth 100000 in
set_option maxHeartbeats 4000000 in
theorem me_isTime (M : px_M) (d b : Int) (hd : d.natAbs ≤ 2 ^ 40) (hb : b.natAbs ≤ 2 ^ 40) : px_Met 0 0 0 mX5_isTime [.inl (.double (dz d)), .inl (.double (dz b))] M (px_rt (some (.inl (.int (px_bi (b ≤ d ∧ d ≤ 8388608))))) M) := by
  refine px_ofW (by decide) W_mX5_isTime (Nat.le_of_ble_eq_true rfl) ?_
  refine px_dload_n dX5_isTime_0 rfl ?_
  refine px_ldc2d dX5_isTime_1 D_RX5_88 ?_
  refine px_dmul dX5_isTime_4 rfl (dz_mul8_vf (by omega)) ?_
  refine px_dstore dX5_isTime_5 (by decide) ?_
  refine px_dload_n dX5_isTime_7 rfl ?_
  refine px_dload_n dX5_isTime_8 rfl ?_
  refine pn_dcmp dX5_isTime_9 rfl rfl (by omega) (by omega) ?_
  refine pn_if_lt (tgt := 35) dX5_isTime_10 (by decide) (dz_c_lt _ _) (fun h => ?_) (fun h => ?_)
  · refine px_iconst (v := nI 0) dX5_isTime_35 (by decide) ?_
    refine px_zret dX5_isTime_36 rfl (by decide) ⟨?_, rfl⟩ (by omega) (by omega)
    rw [show px_bi (b ≤ d ∧ d ≤ 8388608) = nI 0 from if_neg fun z => by have := z.1; omega]
  · refine px_dload_n dX5_isTime_13 rfl ?_
    refine pn_ldc2d dX5_isTime_14 D_RX5_90 dz_top ?_
    refine pn_dcmp dX5_isTime_17 rfl rfl (by omega) (by omega) ?_
    refine pn_if_gt (tgt := 35) dX5_isTime_18 (by decide) (dz_c_gt _ _) (fun h2 => ?_) (fun h2 => ?_)
    · refine px_iconst (v := nI 0) dX5_isTime_35 (by decide) ?_
      refine px_zret dX5_isTime_36 rfl (by decide) ⟨?_, rfl⟩ (by omega) (by omega)
      rw [show px_bi (b ≤ d ∧ d ≤ 8388608) = nI 0 from if_neg fun z => by have := z.2; omega]
    · refine px_dload dX5_isTime_21 rfl ?_
      refine px_dload dX5_isTime_23 rfl ?_
      refine px_d2l dX5_isTime_25 ?_
      refine px_l2d dX5_isTime_26 ?_
      refine px_dcmp dX5_isTime_27 ?_
      rw [dz_whole (by omega)]
      refine px_if_ne (tgt := 35) dX5_isTime_28 (by decide) (fun h => absurd rfl h) (fun _ => ?_)
      refine px_iconst (v := nI 1) dX5_isTime_31 (by decide) ?_
      refine px_goto (tgt := 36) dX5_isTime_32 (by decide) ?_
      refine px_zret dX5_isTime_36 rfl (by decide) ⟨?_, rfl⟩ (by omega) (by omega)
      rw [show px_bi (b ≤ d ∧ d ≤ 8388608) = nI 1 from if_pos ⟨by omega, by omega⟩]
