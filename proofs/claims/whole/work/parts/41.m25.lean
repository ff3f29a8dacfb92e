/-! ===== slack, at, budget ===== -/
theorem dz_mul_num (a b : Int) (ha : a.natAbs ≤ 2 ^ 53) (hb : b.natAbs ≤ 2 ^ 53) : FP.Core.val64 (FP.dmul (dz a) (dz b)) ≠ .nan := by
  show FP.Core.val64 (FP.Core.dmul (dz a) (dz b)) ≠ .nan
  rw [FP.Core.val64_dmul, Ne, FP.Core.round_nan, FP.Core.exactProduct_nan]
  have h1 := dz_is_dz ha
  have h2 := dz_is_dz hb
  unfold dz_is at h1 h2
  rintro (h | h | ⟨s, t, q, h, -⟩ | ⟨s, t, q, -, h⟩)
  · rw [h] at h1; exact h1.elim
  · rw [h] at h2; exact h2.elim
  · rw [h] at h1; exact h1.elim
  · rw [h] at h2; exact h2.elim
theorem dz_div_vf {x : UInt64} (hx : FP.Core.val64 x ≠ .nan) {b : Int} (hb : b.natAbs ≤ 2 ^ 53) (h0 : b ≠ 0) : vf_n64 (FP.ddiv x (dz b)) := by
  refine dz_num ?_
  show FP.Core.val64 (FP.Core.ddiv x (dz b)) ≠ .nan
  rw [FP.Core.val64_ddiv, Ne, FP.Core.quotient_nan]
  have h2 := dz_is_dz hb
  unfold dz_is at h2
  rintro (h | h | ⟨s, t, -, h⟩ | ⟨s, t, q, r, -, h⟩)
  · exact hx h
  · rw [h] at h2; exact h2.elim
  · rw [h] at h2; exact h2.elim
  · rw [h] at h2
    exact h0 ((FP.Core.whole_zero h2).mp rfl)
def mm_zd (Z : List mm_P) (x : Int32) : mm_P := Z.getD (px_tn x) (0, 0, [], 0)
theorem mm_vis.get {s : mm_S} {Z : List mm_P} {x : Int32} (h : mm_vis s Z) (hx : px_ix x (s.1 24)) : Z[px_tn x]? = some (mm_zd Z x) ∧ mm_pq s (s.2.1 22 (px_tn x)) (s.2.1 23 (px_tn x)) (mm_zd Z x) ∧ px_tn x < 320 := by
  obtain ⟨e1, e2⟩ := px_ix_tn hx
  obtain ⟨h1, h2, h3⟩ := h
  have hk : Z[px_tn x]? = some (mm_zd Z x) := by
    unfold mm_zd
    rw [List.getD_eq_getElem?_getD, List.getElem?_eq_getElem (by omega)]; rfl
  exact ⟨hk, h3 _ _ hk, by omega⟩
theorem mm_vis.nq {s t : mm_S} {Z : List mm_P} (h : mm_vis s Z) (q : mm_nq s t) : mm_vis t Z := by
  obtain ⟨h1, h2, h3⟩ := h
  refine ⟨by rw [q.1 24 (by decide)]; exact h1, h2, fun k x hx => ?_⟩
  rw [(q.2 22 (by decide)).1, (q.2 23 (by decide)).1]
  exact (h3 k x hx).eq (q.1 13 (by decide)) (q.2 3 (by decide)).1 (q.2 18 (by decide)).1 (q.2 19 (by decide)).1 (q.2 11 (by decide)).2 (q.2 20 (by decide)).2
theorem kc_fault0 {s : mm_S} {x : Int32} (h : kc_fault s x = 0) : s.1 25 ≠ 0 ∧ px_ix x (s.1 24) := by
  unfold kc_fault at h
  by_cases h1 : s.1 25 = 0
  · rw [if_pos h1] at h; omega
  · rw [if_neg h1] at h
    by_cases h2 : px_ix x (s.1 24)
    · exact ⟨h1, h2⟩
    · rw [if_pos h2] at h; omega
theorem kc_fault_le (s : mm_S) (x : Int32) : kc_fault s x ≤ 2 := by
  unfold kc_fault
  split
  · decide
  · split <;> decide
theorem mm_K3.rf (s : mm_S) : mm_K3 s (s.2.1 22) (s.2.1 23) (s.1 24) s := ⟨fun _ _ => rfl, rfl, fun _ _ _ _ _ => rfl, rfl, rfl, rfl⟩
set_option maxRecDepth 100000 in
set_option maxHeartbeats 4000000 in
theorem me_slack (s : mm_S) (X : px_M) (ok : mm_ok s) (Z : List mm_P) (hv : s.1 25 ≠ 0 → mm_vis s Z) (x : Int32) : px_Met 1 0 0 mX5_slack [.inr (1, 0), .inl (.int x)] (mm_M s X) (mqd X (kc_fault s x) (dz (mm_zd Z x).1) s) := by
  refine px_ofW (by decide) W_mX5_slack (Nat.le_of_ble_eq_true rfl) ?_
  have hle := kc_fault_le s x
  refine px_aload_n dX5_slack_0 rfl trivial ?_
  refine px_aload_n dX5_slack_1 rfl trivial ?_
  refine px_iload_n dX5_slack_2 rfl ?_
  refine px_callVr ((me_faultOf s X ok x)) dX5_slack_3 L_RX5_160 (mm_rcv _ _) rfl rfl (by decide) (by omega) (by omega) (Nat.le_of_ble_eq_true rfl) ?_
  refine mm_put dX5_slack_6 F_RX5_81 nf_5_0 (by decide) (by first | exact ⟨rfl, rfl⟩ | decide) ?_
  refine px_aload_n dX5_slack_9 rfl trivial ?_
  refine mm_gets dX5_slack_10 F_RX5_81 (by decide) (by (try simp only [mr_In, mr_Ie, mr_A1, mr_D1, mr_R1, mr_T1, ne_eq, Nat.reduceEqDiff, not_false_eq_true]); rfl) ?_
  refine pn_if_le (tgt := 20) dX5_slack_13 (by decide) (pn_lez (by omega)) (fun h => ?_) (fun h => ?_)
  · have c0 : kc_fault s x = 0 := by omega
    obtain ⟨h1, h2⟩ := kc_fault0 c0
    have tn : mm_nq s (mm_I s 0 (kc_fault s x)) := (mm_nq.rf s).I0 _
    obtain ⟨g1, g2, g3⟩ := ((hv h1).nq tn).get (x := x) (by rw [tn.1 24 (by decide)]; exact h2)
    obtain ⟨e1, e2⟩ := px_ix_tn h2
    have hs := me_slackOf _ _ X (ok.nq tn) (mm_K3.rf _) (px_tn x) (by omega) _ g2
    rw [← e1] at hs
    refine px_aload_n dX5_slack_20 rfl trivial ?_
    refine px_iload_n dX5_slack_21 rfl ?_
    refine px_callVr (hs) dX5_slack_22 L_RX5_141 (mm_rcv _ _) rfl rfl (by decide) (by omega) (by omega) (Nat.le_of_ble_eq_true rfl) ?_
    refine px_dret dX5_slack_25 rfl ?_ (by omega) (by omega)
    exact ⟨_, _, rfl, rfl, rfl, tn, fun _ => rfl⟩
  · refine pn_dconst0 dX5_slack_16 ?_
    refine px_goto (tgt := 25) dX5_slack_17 (by decide) ?_
    refine px_dret dX5_slack_25 rfl ?_ (by omega) (by omega)
    exact ⟨_, _, rfl, rfl, rfl, (mm_nq.rf s).I0 _, fun z => by omega⟩
def mm_seq (z : mm_P) : List Nat := z.2.1 :: z.2.2.1.reverse ++ [z.2.2.2]
def kc_at (s : mm_S) (Z : List mm_P) (x y : Int32) : Nat := if kc_fault s x ≠ 0 then kc_fault s x else if px_ix y (mm_seq (mm_zd Z x)).length then 0 else 2
def vr_at (Z : List mm_P) (x y : Int32) : Nat := (mm_seq (mm_zd Z x)).getD (px_tn y) 0
theorem mm_seq_m {z : mm_P} {k v : Nat} (h : z.2.2.1.reverse[k]? = some v) : (mm_seq z).getD (k + 1) 0 = v := by
  show (z.2.1 :: (z.2.2.1.reverse ++ [z.2.2.2])).getD (k + 1) 0 = v
  obtain ⟨h1, -⟩ := List.getElem?_eq_some_iff.mp h
  rw [List.getD_cons_succ, List.getD_eq_getElem?_getD, List.getElem?_append_left h1, h]; rfl
theorem mm_seq_e (z : mm_P) : (mm_seq z).getD (z.2.2.1.length + 1) 0 = z.2.2.2 := by
  show (z.2.1 :: (z.2.2.1.reverse ++ [z.2.2.2])).getD (z.2.2.1.length + 1) 0 = _
  rw [List.getD_cons_succ, List.getD_eq_getElem?_getD, List.getElem?_append_right (by rw [List.length_reverse]; exact Nat.le_refl _), List.length_reverse, Nat.sub_self]; rfl
theorem px_Nlt (x : Int32) {n : Nat} (hn : n < 2 ^ 31) : nI n < x ↔ (n : Int) < x.toInt := by rw [Int32.lt_iff_toInt_lt, nI_toInt hn]
set_option maxRecDepth 100000 in
set_option maxHeartbeats 4000000 in
theorem me_at (s : mm_S) (X : px_M) (ok : mm_ok s) (Z : List mm_P) (hv : s.1 25 ≠ 0 → mm_vis s Z) (x y : Int32) : px_Met 1 0 0 mX5_at [.inr (1, 0), .inl (.int x), .inl (.int y)] (mm_M s X) (mq X (kc_at s Z x y) (nI (vr_at Z x y)) s) := by
  refine px_ofW (by decide) W_mX5_at (Nat.le_of_ble_eq_true rfl) ?_
  have hle := kc_fault_le s x
  refine px_aload_n dX5_at_0 rfl trivial ?_
  refine px_aload_n dX5_at_1 rfl trivial ?_
  refine px_iload_n dX5_at_2 rfl ?_
  refine px_callVr ((me_faultOf s X ok x)) dX5_at_3 L_RX5_160 (mm_rcv _ _) rfl rfl (by decide) (by omega) (by omega) (Nat.le_of_ble_eq_true rfl) ?_
  refine mm_put dX5_at_6 F_RX5_81 nf_5_0 (by decide) (by first | exact ⟨rfl, rfl⟩ | decide) ?_
  refine px_aload_n dX5_at_9 rfl trivial ?_
  refine mm_gets dX5_at_10 F_RX5_81 (by decide) (by (try simp only [mr_In, mr_Ie, mr_A1, mr_D1, mr_R1, mr_T1, ne_eq, Nat.reduceEqDiff, not_false_eq_true]); rfl) ?_
  refine pn_if_le (tgt := 18) dX5_at_13 (by decide) (pn_lez (by omega)) (fun h => ?_) (fun h => ?_)
  · have c0 : kc_fault s x = 0 := by omega
    obtain ⟨h1, h2⟩ := kc_fault0 c0
    have tn : mm_nq s (mm_I s 0 (kc_fault s x)) := (mm_nq.rf s).I0 _
    generalize mm_I s 0 (kc_fault s x) = s1 at tn ⊢
    obtain ⟨g1, g2, g3⟩ := ((hv h1).nq tn).get (x := x) (by rw [tn.1 24 (by decide)]; exact h2)
    obtain ⟨e1, e2⟩ := px_ix_tn h2
    obtain ⟨q1, q2, q3, ⟨q4, q5⟩, o1, o2, o3, o4⟩ := g2
    have hkc : kc_at s Z x y = if px_ix y (mm_seq (mm_zd Z x)).length then 0 else 2 := by unfold kc_at; rw [if_neg (fun z => z c0)]
    have hva : vr_at Z x y = (mm_seq (mm_zd Z x)).getD (px_tn y) 0 := rfl
    generalize mm_zd Z x = z at q1 q2 q4 q5 o1 o2 o3 o4 hkc hva g1
    have hlen : (mm_seq z).length = z.2.2.1.length + 2 := by
      show (z.2.1 :: z.2.2.1.reverse ++ [z.2.2.2]).length = _
      simp
    rw [hlen] at hkc
    have o2' : z.2.2.1.length ≤ 64 := o2
    rw [hkc, hva]
    have hu := me_unroll1 s1 X z.2.1 (s1.2.1 22 (px_tn x)) z.2.2.1 (by omega) q5 o2 o3
    refine px_aload_n dX5_at_18 rfl trivial ?_
    refine px_aload_n dX5_at_19 rfl trivial ?_
    refine mm_get dX5_at_20 F_RX5_59 rfl ?_
    refine px_iload_n dX5_at_23 rfl ?_
    refine mm_ald dX5_at_24 rfl e1 rfl (by omega) ?_
    refine px_iconst (v := nI 1) dX5_at_25 (by decide) ?_
    refine px_callVr (hu) dX5_at_26 L_RX5_123 (mm_rcv _ _) rfl rfl (by decide) (by omega) (by omega) (Nat.le_of_ble_eq_true rfl) ?_
    have hf := px_fil_get z.2.2.1 (s1.2.1 27)
    have hf2 : ∀ k, k < z.2.2.1.length → px_fil z.2.2.1 (s1.2.1 27) k < 150 := fun k hk => px_fil_lt o3 _ hk
    generalize px_fil z.2.2.1 (s1.2.1 27) = f at hf hf2 ⊢
    have tn2 : mm_nq s (mm_R s1 27 f) := tn.R (by decide) f
    have bad' : ¬ px_ix y (z.2.2.1.length + 2) → px_W 1 0 0 mX5_at (mq X (if px_ix y (z.2.2.1.length + 2) then 0 else 2) (nI ((mm_seq z).getD (px_tn y) 0)) s) 42 [(0, .inr (1, 0))] [.inr (1, 0)] (mm_M (mm_R s1 27 f) X) 0 0 := by
      intro hy
      rw [if_neg hy]
      refine px_iconst (v := nI 2) dX5_at_42 (by decide) ?_
      refine px_goto (tgt := 47) dX5_at_43 (by decide) ?_
      refine mm_put dX5_at_47 F_RX5_81 nf_5_0 (by decide) (by first | exact ⟨rfl, rfl⟩ | decide) ?_
      refine px_aload_n dX5_at_50 rfl trivial ?_
      refine mm_gets dX5_at_51 F_RX5_81 (by decide) (by (try simp only [mr_In, mr_Ie, mr_A1, mr_D1, mr_R1, mr_T1, ne_eq, Nat.reduceEqDiff, not_false_eq_true]); rfl) ?_
      refine pn_if_le (tgt := 61) dX5_at_54 (by decide) (pn_lez (by omega)) (fun h5 => ?_) (fun h5 => ?_)
      · exact absurd h5 (by decide)
      · refine px_iconst (v := nI 0) dX5_at_57 (by decide) ?_
        refine px_goto (tgt := 100) dX5_at_58 (by decide) ?_
        refine px_iret dX5_at_100 rfl ?_ (by omega) (by omega)
        exact ⟨_, _, rfl, rfl, rfl, tn2.I0 2, fun z => by omega⟩
    have good : px_ix y (z.2.2.1.length + 2) → px_W 1 0 0 mX5_at (mq X (if px_ix y (z.2.2.1.length + 2) then 0 else 2) (nI ((mm_seq z).getD (px_tn y) 0)) s) 46 [(0, .inr (1, 0)), (1, .inl (.int x)), (2, .inl (.int y)), (3, .inl (.int (nI z.2.2.1.length)))] [.inr (1, 0)] (mm_M (mm_R s1 27 f) X) 0 0 := by
      intro hy
      rw [if_pos hy]
      obtain ⟨j, hj, rfl⟩ := px_ix_of hy
      rw [nI_tn (by omega)]
      have tn3 : mm_nq s (mm_I (mm_R s1 27 f) 0 0) := tn2.I0 0
      refine px_iconst (v := nI 0) dX5_at_46 (by decide) ?_
      refine mm_put dX5_at_47 F_RX5_81 nf_5_0 (by decide) (by first | exact ⟨rfl, rfl⟩ | decide) ?_
      refine px_aload_n dX5_at_50 rfl trivial ?_
      refine mm_gets dX5_at_51 F_RX5_81 (by decide) (by (try simp only [mr_In, mr_Ie, mr_A1, mr_D1, mr_R1, mr_T1, ne_eq, Nat.reduceEqDiff, not_false_eq_true]); rfl) ?_
      refine pn_if_le (tgt := 61) dX5_at_54 (by decide) (pn_lez (by omega)) (fun h5 => ?_) (fun h5 => ?_)
      · refine px_iload_n dX5_at_61 rfl ?_
        refine pn_if_ne (tgt := 78) dX5_at_62 (by decide) (pn_z (by omega)) (fun h6 => ?_) (fun h6 => ?_)
        · refine px_iload_n dX5_at_78 rfl ?_
          refine px_iload_n dX5_at_79 rfl ?_
          refine pn_icmp_gt (tgt := 94) dX5_at_80 (by decide) (nI_ltI (by omega) (by omega)) (fun h7 => ?_) (fun h7 => ?_)
          · have hj' : j = z.2.2.1.length + 1 := by omega
            refine px_aload_n dX5_at_94 rfl trivial ?_
            refine mm_get dX5_at_95 F_RX5_62 rfl ?_
            refine px_iload_n dX5_at_98 rfl ?_
            refine mm_ald dX5_at_99 rfl (by first | rfl | assumption) (by (try simp only [mr_I2, mr_An, mr_Ae, mr_D2, mr_Rn, mr_Re, mr_T2, ne_eq, Nat.reduceEqDiff, not_false_eq_true]); rfl) (by first | assumption | omega) ?_
            refine px_iret dX5_at_100 rfl ?_ (by omega) (by omega)
            refine ⟨_, _, rfl, rfl, rfl, tn3, fun _ => ?_⟩
            rw [hj', mm_seq_e, ← q1]
          · have hj' : j - 1 < z.2.2.1.length := by omega
            refine px_aload_n dX5_at_83 rfl trivial ?_
            refine mm_get dX5_at_84 F_RX5_69 rfl ?_
            refine px_iload_n dX5_at_87 rfl ?_
            refine px_iconst (v := nI 1) dX5_at_88 (by decide) ?_
            refine pn_isub dX5_at_89 (by first | exact pk_sub (by omega) | rfl) ?_
            refine mm_ald dX5_at_90 rfl (by first | rfl | assumption) (by (try simp only [mr_I2, mr_An, mr_Ae, mr_D2, mr_Rn, mr_Re, mr_T2, ne_eq, Nat.reduceEqDiff, not_false_eq_true]); rfl) (by first | assumption | omega) ?_
            refine px_goto (tgt := 100) dX5_at_91 (by decide) ?_
            refine px_iret dX5_at_100 rfl ?_ (by omega) (by omega)
            refine ⟨_, _, rfl, rfl, rfl, tn3, fun _ => ?_⟩
            have := mm_seq_m (z := z) (hf (j - 1) hj')
            rw [show j - 1 + 1 = j by omega] at this
            rw [this]
        · have hrow : mm_row (mm_I (mm_R s1 27 f) 0 0) z.2.1 z.2.2.1 (s1.2.1 22 (px_tn x)) := mm_row.eq (s := s1) (t := mm_I (mm_R s1 27 f) 0 0) rfl rfl rfl q5
          refine px_aload_n dX5_at_65 rfl trivial ?_
          refine px_aload_n dX5_at_66 rfl trivial ?_
          refine mm_get dX5_at_67 F_RX5_59 rfl ?_
          refine px_iload_n dX5_at_70 rfl ?_
          refine mm_ald dX5_at_71 rfl (by first | rfl | assumption) (by (try simp only [mr_I2, mr_An, mr_Ae, mr_D2, mr_Rn, mr_Re, mr_T2, ne_eq, Nat.reduceEqDiff, not_false_eq_true]); rfl) (by first | assumption | omega) ?_
          refine px_callVr ((me_startOf (mm_I (mm_R s1 27 f) 0 0) X z.2.1 (s1.2.1 22 (px_tn x)) z.2.2.1 (by omega) hrow)) dX5_at_72 L_RX5_119 (mm_rcv _ _) rfl rfl (by decide) (by omega) (by omega) (Nat.le_of_ble_eq_true rfl) ?_
          refine px_goto (tgt := 100) dX5_at_75 (by decide) ?_
          refine px_iret dX5_at_100 rfl ?_ (by omega) (by omega)
          refine ⟨_, _, rfl, rfl, rfl, tn3, fun _ => ?_⟩
          rw [h6]; rfl
      · exact absurd rfl h5
    refine px_istore_n dX5_at_29 (by decide) ?_
    refine px_aload_n dX5_at_30 rfl trivial ?_
    refine px_iload_n dX5_at_31 rfl ?_
    refine pn_if_lt (tgt := 42) dX5_at_32 (by decide) (px_lt0 _) (fun h5 => ?_) (fun h5 => ?_)
    · exact px_sub (bad' (fun z => by have := z.1; omega)) rfl
    · refine px_iload_n dX5_at_35 rfl ?_
      refine px_iload_n dX5_at_36 rfl ?_
      refine px_iconst (v := nI 1) dX5_at_37 (by decide) ?_
      refine pn_iadd dX5_at_38 (by first | exact nI_add _ _ | rfl) ?_
      refine pn_icmp_le (tgt := 46) dX5_at_39 (by decide) (px_Nle _ (by omega)) (fun h6 => ?_) (fun h6 => ?_)
      · exact px_sub (good ⟨by omega, by omega⟩) rfl
      · exact px_sub (bad' (fun z => by have := z.2; omega)) rfl
  · refine px_iconst (v := nI 0) dX5_at_16 (by decide) ?_
    refine px_iret dX5_at_17 rfl ?_ (by omega) (by omega)
    refine ⟨_, _, rfl, rfl, ?_, (mm_nq.rf s).I0 _, fun z => ?_⟩
    · unfold kc_at; rw [if_pos h]; rfl
    · unfold kc_at at z; rw [if_pos h] at z; omega
