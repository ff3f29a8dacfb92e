/-! ===== the class's small methods ===== -/
abbrev cI : String := "java/lang/IndexOutOfBoundsException"
abbrev cB : String := "java/lang/IllegalStateException"
abbrev cA : String := "java/lang/IllegalArgumentException"
section CX1
variable {d mc ms : Nat} {Γ : px_Y} {Q : px_Q} {pc : Nat} {lv : List (Nat × px_V)} {st : List px_V} {M : px_M} {k n : Nat}
/-- calls that throw, and nobody catches here -/
theorem px_callVx {Γ' : px_Y} {d' mc' ms' idx nA : Nat} {As stk : List px_V} {r : px_R} {E : String} {M1 : px_M} (hM : px_Met d' mc' ms' Γ' (.inr r :: As) M (px_th E M1)) (hd : decode Γ.2.1 pc = .ok (.invokevirtual idx, 3)) (hl : px_lkV Γ.1.cls idx nA Γ') (hr : px_rcv M r Γ'.1.cls) (hs : stk = As.reverse ++ .inr r :: st) (hA : As.length = nA) (hdd : d' + 1 ≤ d) (hk : k + mc' ≤ mc) (hn : n + ms' ≤ ms) (hst : (st.map px_cat).sum ≤ 8)
    (hh : Γ.2.2.2.2 = []) (hQ : Q (.inr E) M1) : px_W d mc ms Γ Q pc lv stk M k n :=
  px_callV hM hd hl hr hs hA hdd hk hn hst (fun v9 M' h => absurd h.1 (fun z => by cases z)) (fun E' M' h => by
    obtain ⟨h1, h2⟩ := h
    cases h1; subst h2; exact px_xout hh hQ hk hn)
theorem px_callSx {Γ' : px_Y} {d' mc' ms' idx nA : Nat} {As stk : List px_V} {E : String} {M1 : px_M} (hM : px_Met d' mc' ms' Γ' As M (px_th E M1)) (hd : decode Γ.2.1 pc = .ok (.invokestatic idx, 3)) (hl : px_lkS Γ.1.cls idx nA Γ') (hs : stk = As.reverse ++ st) (hA : As.length = nA) (hdd : d' + 1 ≤ d) (hk : k + mc' ≤ mc) (hn : n + ms' ≤ ms) (hst : (st.map px_cat).sum ≤ 8)
    (hh : Γ.2.2.2.2 = []) (hQ : Q (.inr E) M1) : px_W d mc ms Γ Q pc lv stk M k n :=
  px_callS hM hd hl hs hA hdd hk hn hst (fun v9 M' h => absurd h.1 (fun z => by cases z)) (fun E' M' h => by
    obtain ⟨h1, h2⟩ := h
    cases h1; subst h2; exact px_xout hh hQ hk hn)
end CX1
set_option maxRecDepth 100000 in
set_option maxHeartbeats 4000000 in
theorem ce_chk {M : px_M} {x : Int32} {n : Nat} (hn : n < 2 ^ 31) (h : px_ix x n) : px_Met 0 1 6 mX4_checkIndex [.inl (.int x), .inl (.int (nI n))] M (px_rt none M) := by
  refine px_ofW (by decide) W_mX4_checkIndex (Nat.le_of_ble_eq_true rfl) ?_
  refine px_iload_n dX4_checkIndex_0 rfl ?_
  refine pn_if_lt (tgt := 9) dX4_checkIndex_1 (by decide) (px_lt0 _) (fun h7 => ?_) (fun h7 => ?_)
  · have := h.1; omega
  · refine px_iload_n dX4_checkIndex_4 rfl ?_
    refine px_iload_n dX4_checkIndex_5 rfl ?_
    refine pn_icmp_lt (tgt := 19) dX4_checkIndex_6 (by decide) (px_ltN _ hn) (fun h8 => ?_) (fun h8 => ?_)
    · refine px_vret dX4_checkIndex_19 rfl ?_ (by omega) (by omega)
      exact ⟨rfl, rfl⟩
    · have := h.2; omega
set_option maxRecDepth 100000 in
set_option maxHeartbeats 4000000 in
theorem ce_chkN {M : px_M} {x : Int32} {n : Nat} (hn : n < 2 ^ 31) (h : ¬ px_ix x n) : px_Met 0 1 6 mX4_checkIndex [.inl (.int x), .inl (.int (nI n))] M (px_th cI M) := by
  refine px_ofW (by decide) W_mX4_checkIndex (Nat.le_of_ble_eq_true rfl) ?_
  refine px_iload_n dX4_checkIndex_0 rfl ?_
  refine pn_if_lt (tgt := 9) dX4_checkIndex_1 (by decide) (px_lt0 _) (fun h7 => ?_) (fun h7 => ?_)
  · refine px_throw (text := "there is none of this number") cT_169 rfl rfl (by decide) dX4_checkIndex_9 dX4_checkIndex_12 dX4_checkIndex_13 dX4_checkIndex_15 dX4_checkIndex_18 (Nat.le_of_ble_eq_true rfl) ?_ (by omega) (by omega)
    exact ⟨rfl, rfl⟩
  · refine px_iload_n dX4_checkIndex_4 rfl ?_
    refine px_iload_n dX4_checkIndex_5 rfl ?_
    refine pn_icmp_lt (tgt := 19) dX4_checkIndex_6 (by decide) (px_ltN _ hn) (fun h8 => ?_) (fun h8 => ?_)
    · exact absurd ⟨by omega, h8⟩ h
    · refine px_throw (text := "there is none of this number") cT_169 rfl rfl (by decide) dX4_checkIndex_9 dX4_checkIndex_12 dX4_checkIndex_13 dX4_checkIndex_15 dX4_checkIndex_18 (Nat.le_of_ble_eq_true rfl) ?_ (by omega) (by omega)
      exact ⟨rfl, rfl⟩
set_option maxRecDepth 100000 in
set_option maxHeartbeats 4000000 in
theorem ce_isTime {M : px_M} {d : Int} (h : -8388608 ≤ d ∧ d ≤ 8388608) : px_Met 0 0 0 mX4_isTime [.inl (.double (dz d))] M (px_rt (some (.inl (.int (nI 1)))) M) := by
  obtain ⟨ha, hb⟩ := h
  refine px_ofW (by decide) W_mX4_isTime (Nat.le_of_ble_eq_true rfl) ?_
  refine px_dload_n dX4_isTime_0 rfl ?_
  refine pn_ldc2d dX4_isTime_1 D_RX4_226 dz_bot ?_
  refine pn_dcmp dX4_isTime_4 rfl rfl (by omega) (by omega) ?_
  refine pn_if_lt (tgt := 36) dX4_isTime_5 (by decide) (dz_c_lt _ _) (fun h7 => ?_) (fun h7 => ?_)
  · omega
  refine px_dload_n dX4_isTime_8 rfl ?_
  refine pn_ldc2d dX4_isTime_9 D_RX4_228 dz_top ?_
  refine pn_dcmp dX4_isTime_12 rfl rfl (by omega) (by omega) ?_
  refine pn_if_gt (tgt := 36) dX4_isTime_13 (by decide) (dz_c_gt _ _) (fun h8 => ?_) (fun h8 => ?_)
  · omega
  have e : (Int32.ofInt d).toInt = d := Int32.toInt_ofInt_of_le (by omega) (by omega)
  have h1 : FP.Core.DInt d (FP.dmul (dz d) 4620693217682128896) := dz_mul8 (a := d) (by omega)
  have h2 : FP.d2i (FP.dmul (dz d) 4620693217682128896) = Int32.ofInt d := by
    have := FP.Core.d2i_int (a := Int32.ofInt d) (b := FP.Core.dmul (dz d) 4620693217682128896) (by rw [e]; exact h1)
    exact this
  have h3 : FP.dcmp (FP.dmul (dz d) 4620693217682128896) (FP.i2d (Int32.ofInt d)) = some .eq := by
    have h4 := FP.Core.i2d_int (Int32.ofInt d)
    rw [e] at h4
    have h5 := FP.Core.dcmp_int h1 h4
    rw [show compare d d = Ordering.eq from Int.compare_eq_eq.mpr rfl] at h5
    exact h5
  refine px_dload_n dX4_isTime_16 rfl ?_
  refine px_ldc2d dX4_isTime_17 D_RX4_230 ?_
  refine px_dmul dX4_isTime_20 rfl (dz_mul8_vf (by omega)) ?_
  refine px_dload_n dX4_isTime_21 rfl ?_
  refine px_ldc2d dX4_isTime_22 D_RX4_230 ?_
  refine px_dmul dX4_isTime_25 rfl (dz_mul8_vf (by omega)) ?_
  refine px_d2i dX4_isTime_26 ?_
  refine px_i2d dX4_isTime_27 ?_
  refine px_dcmp dX4_isTime_28 ?_
  rw [h2, h3]
  refine px_if_ne (tgt := 36) dX4_isTime_29 (by decide) (fun h => absurd rfl h) (fun _ => ?_)
  refine px_iconst (v := nI 1) dX4_isTime_32 (by decide) ?_
  refine px_goto (tgt := 37) dX4_isTime_33 (by decide) ?_
  refine px_zret dX4_isTime_37 rfl (by first | decide | assumption) ?_ (by omega) (by omega)
  exact ⟨rfl, rfl⟩
set_option maxRecDepth 100000 in
set_option maxHeartbeats 4000000 in
theorem ce_isTimeN {M : px_M} {d : Int} (hd : d.natAbs ≤ 2 ^ 40) (h : ¬ (-8388608 ≤ d ∧ d ≤ 8388608)) : px_Met 0 0 0 mX4_isTime [.inl (.double (dz d))] M (px_rt (some (.inl (.int (nI 0)))) M) := by
  refine px_ofW (by decide) W_mX4_isTime (Nat.le_of_ble_eq_true rfl) ?_
  refine px_dload_n dX4_isTime_0 rfl ?_
  refine pn_ldc2d dX4_isTime_1 D_RX4_226 dz_bot ?_
  refine pn_dcmp dX4_isTime_4 rfl rfl (by omega) (by omega) ?_
  refine pn_if_lt (tgt := 36) dX4_isTime_5 (by decide) (dz_c_lt _ _) (fun h7 => ?_) (fun h7 => ?_)
  · refine px_iconst (v := nI 0) dX4_isTime_36 (by decide) ?_
    refine px_zret dX4_isTime_37 rfl (by first | decide | assumption) ?_ (by omega) (by omega)
    exact ⟨rfl, rfl⟩
  refine px_dload_n dX4_isTime_8 rfl ?_
  refine pn_ldc2d dX4_isTime_9 D_RX4_228 dz_top ?_
  refine pn_dcmp dX4_isTime_12 rfl rfl (by omega) (by omega) ?_
  refine pn_if_gt (tgt := 36) dX4_isTime_13 (by decide) (dz_c_gt _ _) (fun h8 => ?_) (fun h8 => ?_)
  · refine px_iconst (v := nI 0) dX4_isTime_36 (by decide) ?_
    refine px_zret dX4_isTime_37 rfl (by first | decide | assumption) ?_ (by omega) (by omega)
    exact ⟨rfl, rfl⟩
  · omega
set_option maxRecDepth 100000 in
set_option maxHeartbeats 4000000 in
theorem ce_isDelay {M : px_M} {d : Int} (h : 0 ≤ d ∧ d ≤ 8388608) : px_Met 1 0 0 mX4_isDelay [.inl (.double (dz d))] M (px_rt (some (.inl (.int (nI 1)))) M) := by
  refine px_ofW (by decide) W_mX4_isDelay (Nat.le_of_ble_eq_true rfl) ?_
  have := h.1
  have := h.2
  refine px_dload_n dX4_isDelay_0 rfl ?_
  refine pn_dconst0 dX4_isDelay_1 ?_
  refine pn_dcmp dX4_isDelay_2 rfl rfl (by omega) (by omega) ?_
  refine pn_if_lt (tgt := 17) dX4_isDelay_3 (by decide) (dz_c_lt _ _) (fun h7 => ?_) (fun h7 => ?_)
  · omega
  refine px_dload_n dX4_isDelay_6 rfl ?_
  refine px_callSr (ce_isTime (d := d) ⟨by omega, by omega⟩) dX4_isDelay_7 L_RX4_219 rfl rfl (by decide) (by omega) (by omega) (Nat.le_of_ble_eq_true rfl) ?_
  refine pn_if_eq (tgt := 17) dX4_isDelay_10 (by decide) (pn_z (by omega)) (fun h8 => ?_) (fun h8 => ?_)
  · exact absurd h8 (by decide)
  refine px_iconst (v := nI 1) dX4_isDelay_13 (by decide) ?_
  refine px_goto (tgt := 18) dX4_isDelay_14 (by decide) ?_
  refine px_zret dX4_isDelay_18 rfl (by first | decide | assumption) ?_ (by omega) (by omega)
  exact ⟨rfl, rfl⟩
set_option maxRecDepth 100000 in
set_option maxHeartbeats 4000000 in
theorem ce_isDelayN {M : px_M} {d : Int} (hd : d.natAbs ≤ 2 ^ 40) (h : ¬ (0 ≤ d ∧ d ≤ 8388608)) : px_Met 1 0 0 mX4_isDelay [.inl (.double (dz d))] M (px_rt (some (.inl (.int (nI 0)))) M) := by
  refine px_ofW (by decide) W_mX4_isDelay (Nat.le_of_ble_eq_true rfl) ?_
  refine px_dload_n dX4_isDelay_0 rfl ?_
  refine pn_dconst0 dX4_isDelay_1 ?_
  refine pn_dcmp dX4_isDelay_2 rfl rfl (by omega) (by omega) ?_
  refine pn_if_lt (tgt := 17) dX4_isDelay_3 (by decide) (dz_c_lt _ _) (fun h7 => ?_) (fun h7 => ?_)
  · refine px_iconst (v := nI 0) dX4_isDelay_17 (by decide) ?_
    refine px_zret dX4_isDelay_18 rfl (by first | decide | assumption) ?_ (by omega) (by omega)
    exact ⟨rfl, rfl⟩
  refine px_dload_n dX4_isDelay_6 rfl ?_
  refine px_callSr (ce_isTimeN (d := d) hd (by omega)) dX4_isDelay_7 L_RX4_219 rfl rfl (by decide) (by omega) (by omega) (Nat.le_of_ble_eq_true rfl) ?_
  refine pn_if_eq (tgt := 17) dX4_isDelay_10 (by decide) (pn_z (by omega)) (fun h8 => ?_) (fun h8 => ?_)
  · refine px_iconst (v := nI 0) dX4_isDelay_17 (by decide) ?_
    refine px_zret dX4_isDelay_18 rfl (by first | decide | assumption) ?_ (by omega) (by omega)
    exact ⟨rfl, rfl⟩
  · exact absurd rfl h8
set_option maxRecDepth 100000 in
set_option maxHeartbeats 4000000 in
theorem ce_time {M : px_M} {d : Int} (h : -8388608 ≤ d ∧ d ≤ 8388608) : px_Met 1 1 6 mX4_checkTime [.inl (.double (dz d))] M (px_rt none M) := by
  refine px_ofW (by decide) W_mX4_checkTime (Nat.le_of_ble_eq_true rfl) ?_
  refine px_dload_n dX4_checkTime_0 rfl ?_
  refine px_callSr (ce_isTime h) dX4_checkTime_1 L_RX4_219 rfl rfl (by decide) (by omega) (by omega) (Nat.le_of_ble_eq_true rfl) ?_
  refine pn_if_ne (tgt := 17) dX4_checkTime_4 (by decide) (pn_z (by omega)) (fun h7 => ?_) (fun h7 => ?_)
  · refine px_vret dX4_checkTime_17 rfl ?_ (by omega) (by omega)
    exact ⟨rfl, rfl⟩
  · exact absurd h7 (by decide)
set_option maxRecDepth 100000 in
set_option maxHeartbeats 4000000 in
theorem ce_timeN {M : px_M} {d : Int} (hd : d.natAbs ≤ 2 ^ 40) (h : ¬ (-8388608 ≤ d ∧ d ≤ 8388608)) : px_Met 1 1 6 mX4_checkTime [.inl (.double (dz d))] M (px_th cA M) := by
  refine px_ofW (by decide) W_mX4_checkTime (Nat.le_of_ble_eq_true rfl) ?_
  refine px_dload_n dX4_checkTime_0 rfl ?_
  refine px_callSr (ce_isTimeN hd h) dX4_checkTime_1 L_RX4_219 rfl rfl (by decide) (by omega) (by omega) (Nat.le_of_ble_eq_true rfl) ?_
  refine pn_if_ne (tgt := 17) dX4_checkTime_4 (by decide) (pn_z (by omega)) (fun h7 => ?_) (fun h7 => ?_)
  · exact absurd rfl h7
  · refine px_throw (text := "no time") cT_97 rfl rfl (by decide) dX4_checkTime_7 dX4_checkTime_10 dX4_checkTime_11 dX4_checkTime_13 dX4_checkTime_16 (Nat.le_of_ble_eq_true rfl) ?_ (by omega) (by omega)
    exact ⟨rfl, rfl⟩
set_option maxRecDepth 100000 in
set_option maxHeartbeats 4000000 in
theorem ce_lsd {u : cc_U} {X : px_M} (h0 : cx u 14 0) (hb : cn u 14 0 0 < 2 ^ 31) (h : cn u 14 0 0 ≠ 0) : px_Met 0 1 6 mX4_checkListed [.inr (14, 0)] (cc_M u X) (px_rt none (cc_M u X)) := by
  unfold cn at hb h
  refine px_ofW (by decide) W_mX4_checkListed (Nat.le_of_ble_eq_true rfl) ?_
  refine px_aload_n dX4_checkListed_0 rfl trivial ?_
  refine px_getf dX4_checkListed_1 F_RX4_50 (cc_obj (by first | assumption | (simp only [cxN, cxZ, cxS, cxL, cxR]; assumption))) (by rfl) ?_
  refine pn_if_ne (tgt := 17) dX4_checkListed_4 (by decide) (pn_z (by omega)) (fun h7 => ?_) (fun h7 => ?_)
  · refine px_vret dX4_checkListed_17 rfl ?_ (by omega) (by omega)
    exact ⟨rfl, rfl⟩
  · exact absurd h7 h
set_option maxRecDepth 100000 in
set_option maxHeartbeats 4000000 in
theorem ce_lsdN {u : cc_U} {X : px_M} (h0 : cx u 14 0) (h : cn u 14 0 0 = 0) : px_Met 0 1 6 mX4_checkListed [.inr (14, 0)] (cc_M u X) (px_th cB (cc_M u X)) := by
  unfold cn at h
  refine px_ofW (by decide) W_mX4_checkListed (Nat.le_of_ble_eq_true rfl) ?_
  refine px_aload_n dX4_checkListed_0 rfl trivial ?_
  refine px_getf dX4_checkListed_1 F_RX4_50 (cc_obj (by first | assumption | (simp only [cxN, cxZ, cxS, cxL, cxR]; assumption))) (by rfl) ?_
  refine pn_if_ne (tgt := 17) dX4_checkListed_4 (by decide) (pn_z (by omega)) (fun h7 => ?_) (fun h7 => ?_)
  · exact absurd h h7
  · refine px_throw (text := "no paths are listed") cT_77 rfl rfl (by decide) dX4_checkListed_7 dX4_checkListed_10 dX4_checkListed_11 dX4_checkListed_13 dX4_checkListed_16 (Nat.le_of_ble_eq_true rfl) ?_ (by omega) (by omega)
    exact ⟨rfl, rfl⟩
/-! new objects' constructors -/
theorem px_up2 (M : px_M) (r : px_R) (o o' : px_O) : px_up (px_up M r o) r o' = px_up M r o' := by
  funext x
  unfold px_up
  split <;> rfl
set_option maxRecDepth 100000 in
set_option maxHeartbeats 4000000 in
theorem ce_newS {M : px_M} {r f t : px_R} {v0 v1 v2 v3 v4 v5 : px_V} {x : Int32} {z : UInt64} (hr : M r = some (.inl (2, [v0, v1, v2, v3, v4, v5]))) : px_Met 0 0 0 mX2_init [.inr r, .inl (.int x), .inr f, .inr t, .inl (.double z)] M (px_rt none (px_up M r (.inl (2, [.inl (.int x), .inr f, .inr t, .inl (.double z), .inl (.int (nI 0)), .inl (.int (nI 0))])))) := by
  refine px_ofW (by decide) W_mX2_init (Nat.le_of_ble_eq_true rfl) ?_
  refine px_aload_n dX2_init_0 rfl trivial ?_
  refine px_objInit dX2_init_1 O_RX2_1 (Nat.le_of_ble_eq_true rfl) ?_
  refine px_aload_n dX2_init_4 rfl trivial ?_
  refine px_iconst (v := nI 0) dX2_init_5 (by decide) ?_
  refine px_putf dX2_init_6 F_RX2_7 nf_2_4 (hr) (Nat.le_of_ble_eq_true rfl) (fun _ => ⟨rfl, rfl⟩) ?_
  rw [show ([v0, v1, v2, v3, v4, v5] : List px_V).set 4 (.inl (.int (nI 0))) = [v0, v1, v2, v3, .inl (.int (nI 0)), v5] from rfl]
  refine px_aload_n dX2_init_9 rfl trivial ?_
  refine px_iconst (v := nI 0) dX2_init_10 (by decide) ?_
  refine px_putf dX2_init_11 F_RX2_13 nf_2_5 ((px_up_s _ _ _)) (Nat.le_of_ble_eq_true rfl) (fun _ => ⟨rfl, rfl⟩) ?_
  rw [px_up2, show ([v0, v1, v2, v3, .inl (.int (nI 0)), v5] : List px_V).set 5 (.inl (.int (nI 0))) = [v0, v1, v2, v3, .inl (.int (nI 0)), .inl (.int (nI 0))] from rfl]
  refine px_aload_n dX2_init_14 rfl trivial ?_
  refine px_iload_n dX2_init_15 rfl ?_
  refine px_putF dX2_init_16 G_RX2_16 rfl ((px_up_s _ _ _)) (Nat.le_of_ble_eq_true rfl) (fun _ => ⟨rfl, rfl⟩) ?_
  refine px_aload_n dX2_init_19 rfl trivial ?_
  refine px_aload_n dX2_init_20 rfl trivial ?_
  refine px_putF dX2_init_21 G_RX2_19 rfl ((px_up_s _ _ _)) (Nat.le_of_ble_eq_true rfl) (fun _ => ⟨rfl, rfl⟩) ?_
  refine px_aload_n dX2_init_24 rfl trivial ?_
  refine px_aload_n dX2_init_25 rfl trivial ?_
  refine px_putF dX2_init_26 G_RX2_23 rfl ((px_up_s _ _ _)) (Nat.le_of_ble_eq_true rfl) (fun _ => ⟨rfl, rfl⟩) ?_
  refine px_aload_n dX2_init_29 rfl trivial ?_
  refine px_dload dX2_init_30 rfl ?_
  refine px_putf dX2_init_32 F_RX2_26 nf_2_3 ((px_up_s _ _ _)) (Nat.le_of_ble_eq_true rfl) (fun _ => ⟨rfl, rfl⟩) ?_
  refine px_vret dX2_init_35 rfl ?_ (by omega) (by omega)
  refine ⟨rfl, ?_⟩
  rw [px_up2, px_up2, px_up2, px_up2]
  rfl
set_option maxRecDepth 100000 in
set_option maxHeartbeats 4000000 in
theorem ce_newC {M : px_M} {r f : px_R} {v0 v1 : px_V} {z : UInt64} (hr : M r = some (.inl (0, [v0, v1]))) : px_Met 0 0 0 mX0_init [.inr r, .inr f, .inl (.double z)] M (px_rt none (px_up M r (.inl (0, [.inr f, .inl (.double z)])))) := by
  refine px_ofW (by decide) W_mX0_init (Nat.le_of_ble_eq_true rfl) ?_
  refine px_aload_n dX0_init_0 rfl trivial ?_
  refine px_objInit dX0_init_1 O_RX0_1 (Nat.le_of_ble_eq_true rfl) ?_
  refine px_aload_n dX0_init_4 rfl trivial ?_
  refine px_aload_n dX0_init_5 rfl trivial ?_
  refine px_putF dX0_init_6 G_RX0_7 rfl (hr) (Nat.le_of_ble_eq_true rfl) (fun _ => ⟨rfl, rfl⟩) ?_
  refine px_aload_n dX0_init_9 rfl trivial ?_
  refine px_dload_n dX0_init_10 rfl ?_
  refine px_putF dX0_init_11 G_RX0_13 rfl ((px_up_s _ _ _)) (Nat.le_of_ble_eq_true rfl) (fun _ => ⟨rfl, rfl⟩) ?_
  refine px_vret dX0_init_14 rfl ?_ (by omega) (by omega)
  refine ⟨rfl, ?_⟩
  rw [px_up2]
  rfl
