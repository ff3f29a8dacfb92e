/-! ===== model: how many pairs of a block ===== -/
def px_sum (f : Nat → Nat) : Nat → Nat
  | 0 => 0
  | k + 1 => px_sum f k + f k
theorem px_sum_le {f : Nat → Nat} {c : Nat} (h : ∀ i, f i ≤ c) : ∀ k, px_sum f k ≤ k * c := by
  intro k
  induction k with
  | zero => exact Nat.zero_le _
  | succ k ih =>
    show px_sum f k + f k ≤ _
    have := h k
    rw [Nat.succ_mul]; omega
theorem px_sum_same {f g : Nat → Nat} : ∀ {k : Nat}, (∀ i, i < k → f i = g i) → px_sum f k = px_sum g k := by
  intro k
  induction k with
  | zero => intro _; rfl
  | succ k ih =>
    intro h
    show px_sum f k + f k = px_sum g k + g k
    rw [ih fun i hi => h i (by omega), h k (by omega)]
def kc_model (x : Int32) : Nat := if px_ix x 8 then 0 else 1
noncomputable def va_model (s : mm_S) (x : Int32) : Nat := px_sum (fun p => px_sum (fun q => px_ch (mm_red s (px_oc x) p q)) (s.1 1)) (s.1 1)
set_option maxRecDepth 100000 in
set_option maxHeartbeats 4000000 in
theorem me_model (s : mm_S) (X : px_M) (ok : mm_ok s) (x : Int32) : px_Met 2 0 0 mX5_model [.inr (1, 0), .inl (.int x)] (mm_M s X) (mq X (kc_model x) (nI (va_model s x)) s) := by
  have h1 := ok.1.1
  refine px_ofW (by decide) W_mX5_model (Nat.le_of_ble_eq_true rfl) ?_
  have bad : ¬ px_ix x 8 → px_W 2 0 0 mX5_model (mq X (kc_model x) (nI (va_model s x)) s) 11 [(0, .inr (1, 0)), (1, .inl (.int x))] [.inr (1, 0)] (mm_M s X) 0 0 := by
    intro hx
    have kc : kc_model x = 1 := if_neg hx
    have fin : px_W 2 0 0 mX5_model (mq X (kc_model x) (nI (va_model s x)) s) 81 [(0, .inr (1, 0)), (1, .inl (.int x)), (2, .inl (.int (nI 0)))] [] (mm_M (mm_I s 0 1) X) 0 0 := by
      refine px_iload_n dX5_model_81 rfl ?_
      refine px_iret dX5_model_82 rfl ?_ (by omega) (by omega)
      exact ⟨_, _, rfl, rfl, kc.symm ▸ rfl, (mm_nq.rf s).I0 1, fun z => by omega⟩
    refine px_iconst (v := nI 1) dX5_model_11 (by decide) ?_
    refine px_goto (tgt := 16) dX5_model_12 (by decide) ?_
    refine mm_put dX5_model_16 F_RX5_81 nf_5_0 (by decide) (by first | exact ⟨rfl, rfl⟩ | decide) ?_
    refine px_iconst (v := nI 0) dX5_model_19 (by decide) ?_
    refine px_istore_n dX5_model_20 (by decide) ?_
    refine px_iconst (v := nI 0) dX5_model_21 (by decide) ?_
    refine px_istore_n dX5_model_22 (by decide) ?_
    refine px_iload_n dX5_model_23 rfl ?_
    refine px_aload_n dX5_model_24 rfl trivial ?_
    refine mm_gets dX5_model_25 F_RX5_85 (by decide) (by (try simp only [mr_In, mr_Ie, mr_A1, mr_D1, mr_R1, mr_T1, ne_eq, Nat.reduceEqDiff, not_false_eq_true]); rfl) ?_
    refine pn_icmp_ge (tgt := 81) dX5_model_28 (by decide) (nI_leI (by omega) (by omega)) (fun h2 => ?_) (fun h2 => ?_)
    · exact px_sub fin rfl
    · refine px_aload_n dX5_model_31 rfl trivial ?_
      refine mm_gets dX5_model_32 F_RX5_81 (by decide) (by (try simp only [mr_In, mr_Ie, mr_A1, mr_D1, mr_R1, mr_T1, ne_eq, Nat.reduceEqDiff, not_false_eq_true]); rfl) ?_
      refine pn_if_ne (tgt := 81) dX5_model_35 (by decide) (pn_z (by omega)) (fun h3 => ?_) (fun h3 => ?_)
      · exact px_sub fin rfl
      · exact absurd h3 (by decide)
  have good : px_ix x 8 → px_W 2 0 0 mX5_model (mq X (kc_model x) (nI (va_model s x)) s) 15 [(0, .inr (1, 0)), (1, .inl (.int x))] [.inr (1, 0)] (mm_M s X) 0 0 := by
    intro hx
    obtain ⟨e1, e2⟩ := px_ix_tn hx
    have kc : kc_model x = 0 := if_pos hx
    have xo : x = px_o (px_oc x) ∧ px_oc x ≤ 8 := px_oc_o fun _ => hx
    have inner : ∀ (u q p n : Nat) (t : mm_S), p < s.1 1 → q ≤ s.1 1 → s.1 1 < q + u → t.1 0 = 0 → mm_nq s t → n ≤ p * s.1 1 →
        (∀ t' : mm_S, t'.1 0 = 0 → mm_nq s t' → px_W 2 0 0 mX5_model (mq X (kc_model x) (nI (va_model s x)) s) 75 [(0, .inr (1, 0)), (1, .inl (.int x)), (2, .inl (.int (nI (n + px_sum (fun q => px_ch (mm_red s (px_oc x) p q)) (s.1 1))))), (3, .inl (.int (nI p)))] [] (mm_M t' X) 0 0) →
        px_W 2 0 0 mX5_model (mq X (kc_model x) (nI (va_model s x)) s) 41 [(0, .inr (1, 0)), (1, .inl (.int x)), (2, .inl (.int (nI (n + px_sum (fun q => px_ch (mm_red s (px_oc x) p q)) q)))), (3, .inl (.int (nI p))), (4, .inl (.int (nI q)))] [] (mm_M t X) 0 0 := by
      intro u
      induction u with
      | zero => intro q p n t g0 g1 g2; omega
      | succ u ih =>
        intro q p n t g0 g1 g2 t0 tn gn kk
        have t1 := tn.1 1 (by decide)
        have hs := px_sum_le (f := fun q => px_ch (mm_red s (px_oc x) p q)) (c := 1) (fun q => px_ch_le _) q
        refine px_iload dX5_model_41 rfl ?_
        refine px_aload_n dX5_model_43 rfl trivial ?_
        refine mm_gets dX5_model_44 F_RX5_85 (by decide) (by (try simp only [mr_In, mr_Ie, mr_A1, mr_D1, mr_R1, mr_T1, ne_eq, Nat.reduceEqDiff, not_false_eq_true]); rfl) ?_
        refine pn_icmp_ge (tgt := 75) dX5_model_47 (by decide) (nI_leI (by omega) (by omega)) (fun g3 => ?_) (fun g3 => ?_)
        · have hk := kk t t0 tn
          rw [show s.1 1 = q by omega] at hk
          exact px_sub hk rfl
        · have okt := ok.nq tn
          have hM : px_Met 1 0 0 mX5_isReduced [.inr (1, 0), .inl (.int x), .inl (.int (nI p)), .inl (.int (nI q))] (mm_M t X) (mm_rdq t X (px_oc x) p q) := by
            have := me_isReduced t X okt (px_oc x) p q (by omega) (by omega) (by omega)
            rw [← xo.1] at this
            exact this
          refine px_iload_n dX5_model_50 rfl ?_
          refine px_aload_n dX5_model_51 rfl trivial ?_
          refine px_iload_n dX5_model_52 rfl ?_
          refine px_iload_n dX5_model_53 rfl ?_
          refine px_iload dX5_model_54 rfl ?_
          refine px_callV (hM) dX5_model_56 L_RX5_167 (mm_rcv _ _) rfl rfl (by decide) (by omega) (by omega) (Nat.le_of_ble_eq_true rfl) (fun v9 M9 hq => ?_) (fun E9 M9 hq => ?_)
          · obtain ⟨h0, f, rfl⟩ := hq
            cases h0
            have e : mm_red t (px_oc x) p q = mm_red s (px_oc x) p q := propext (mm_red.nq tn _ _ _)
            rw [e]
            have go := ih (q + 1) p n (mm_R t 26 f) g0 (by omega) (by omega) t0 (tn.R (by decide) f) gn kk
            have es : px_sum (fun q => px_ch (mm_red s (px_oc x) p q)) (q + 1) = px_sum (fun q => px_ch (mm_red s (px_oc x) p q)) q + px_ch (mm_red s (px_oc x) p q) := rfl
            rw [es, ← Nat.add_assoc] at go
            refine pn_if_eq (tgt := 66) dX5_model_59 (by decide) (px_ch_z _) (fun h5 => ?_) (fun h5 => ?_)
            · rw [px_ch_0 h5] at go
              refine px_iconst (v := nI 0) dX5_model_66 (by decide) ?_
              refine pn_iadd dX5_model_67 (by first | exact nI_add _ _ | rfl) ?_
              refine px_istore_n dX5_model_68 (by decide) ?_
              refine px_iinc dX5_model_69 rfl (pn_i1 _) (by decide) ?_
              refine px_goto (tgt := 41) dX5_model_72 (by decide) ?_
              exact px_sub go rfl
            · rw [px_ch_1 (Classical.not_not.mp h5)] at go
              refine px_iconst (v := nI 1) dX5_model_62 (by decide) ?_
              refine px_goto (tgt := 67) dX5_model_63 (by decide) ?_
              refine pn_iadd dX5_model_67 (by first | exact nI_add _ _ | rfl) ?_
              refine px_istore_n dX5_model_68 (by decide) ?_
              refine px_iinc dX5_model_69 rfl (pn_i1 _) (by decide) ?_
              refine px_goto (tgt := 41) dX5_model_72 (by decide) ?_
              exact px_sub go rfl
          · exact absurd hq.1 (fun z => by cases z)
    have outer : ∀ (u p : Nat) (t : mm_S), p ≤ s.1 1 → s.1 1 < p + u → t.1 0 = 0 → mm_nq s t →
        px_W 2 0 0 mX5_model (mq X (kc_model x) (nI (va_model s x)) s) 23 [(0, .inr (1, 0)), (1, .inl (.int x)), (2, .inl (.int (nI (px_sum (fun p => px_sum (fun q => px_ch (mm_red s (px_oc x) p q)) (s.1 1)) p)))), (3, .inl (.int (nI p)))] [] (mm_M t X) 0 0 := by
      intro u
      induction u with
      | zero => intro p t g1 g2; omega
      | succ u ih =>
        intro p t g1 g2 t0 tn
        have t1 := tn.1 1 (by decide)
        have hs := px_sum_le (f := fun p => px_sum (fun q => px_ch (mm_red s (px_oc x) p q)) (s.1 1)) (c := s.1 1) (fun p => by have := px_sum_le (f := fun q => px_ch (mm_red s (px_oc x) p q)) (c := 1) (fun q => px_ch_le _) (s.1 1); omega) p
        have fin : p = s.1 1 → px_W 2 0 0 mX5_model (mq X (kc_model x) (nI (va_model s x)) s) 81 [(0, .inr (1, 0)), (1, .inl (.int x)), (2, .inl (.int (nI (px_sum (fun p => px_sum (fun q => px_ch (mm_red s (px_oc x) p q)) (s.1 1)) p)))), (3, .inl (.int (nI p)))] [] (mm_M t X) 0 0 := by
          intro g4
          refine px_iload_n dX5_model_81 rfl ?_
          refine px_iret dX5_model_82 rfl ?_ (by omega) (by omega)
          exact ⟨_, _, rfl, rfl, t0.trans kc.symm, tn, fun _ => by unfold va_model; rw [g4]⟩
        refine px_iload_n dX5_model_23 rfl ?_
        refine px_aload_n dX5_model_24 rfl trivial ?_
        refine mm_gets dX5_model_25 F_RX5_85 (by decide) (by (try simp only [mr_In, mr_Ie, mr_A1, mr_D1, mr_R1, mr_T1, ne_eq, Nat.reduceEqDiff, not_false_eq_true]); rfl) ?_
        refine pn_icmp_ge (tgt := 81) dX5_model_28 (by decide) (nI_leI (by omega) (by omega)) (fun g3 => ?_) (fun g3 => ?_)
        · exact px_sub (fin (by omega)) rfl
        · refine px_aload_n dX5_model_31 rfl trivial ?_
          refine mm_gets dX5_model_32 F_RX5_81 (by decide) (by (try simp only [mr_In, mr_Ie, mr_A1, mr_D1, mr_R1, mr_T1, ne_eq, Nat.reduceEqDiff, not_false_eq_true]); rfl) ?_
          refine pn_if_ne (tgt := 81) dX5_model_35 (by decide) (pn_z (by omega)) (fun g4 => ?_) (fun g4 => ?_)
          · exact absurd t0 g4
          · refine px_iconst (v := nI 0) dX5_model_38 (by decide) ?_
            refine px_istore dX5_model_39 (by decide) ?_
            exact px_sub (inner (s.1 1 + 1) 0 p _ t (by omega) (by omega) (by omega) t0 tn hs (fun t' z1 z2 => by
              refine px_iinc dX5_model_75 rfl (pn_i1 _) (by decide) ?_
              refine px_goto (tgt := 23) dX5_model_78 (by decide) ?_
              exact px_sub (ih (p + 1) t' (by omega) (by omega) z1 z2) rfl)) rfl
    refine px_iconst (v := nI 0) dX5_model_15 (by decide) ?_
    refine mm_put dX5_model_16 F_RX5_81 nf_5_0 (by decide) (by first | exact ⟨rfl, rfl⟩ | decide) ?_
    refine px_iconst (v := nI 0) dX5_model_19 (by decide) ?_
    refine px_istore_n dX5_model_20 (by decide) ?_
    refine px_iconst (v := nI 0) dX5_model_21 (by decide) ?_
    refine px_istore_n dX5_model_22 (by decide) ?_
    exact px_sub (outer (s.1 1 + 1) 0 (mm_I s 0 0) (by omega) (by omega) rfl ((mm_nq.rf s).I0 0)) rfl
  refine px_aload_n dX5_model_0 rfl trivial ?_
  refine px_iload_n dX5_model_1 rfl ?_
  refine pn_if_lt (tgt := 11) dX5_model_2 (by decide) (px_lt0 _) (fun h => ?_) (fun h => ?_)
  · exact px_sub (bad (fun z => by have := z.1; omega)) rfl
  · refine px_iload_n dX5_model_5 rfl ?_
    refine px_bipush (v := nI 8) dX5_model_6 (by decide) ?_
    refine pn_icmp_lt (tgt := 15) dX5_model_8 (by decide) (px_ltN _ (by decide)) (fun h2 => ?_) (fun h2 => ?_)
    · exact px_sub (good ⟨by omega, by omega⟩) rfl
    · exact px_sub (bad (fun z => by have := z.2; omega)) rfl
