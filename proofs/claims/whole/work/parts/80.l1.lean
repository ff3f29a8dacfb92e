/-! ===== the law's helper methods ===== -/
def h15 (X : px_M) : Prop := (∃ f, X (15, 0) = some (.inr (.inl (3, 1, .inr (.inl f))))) ∧ ∃ g, X (15, 1) = some (.inr (.inl (1, 1, .inr (.inr (.inl g)))))
def hl (X : px_M) (P : Nat → Int64 → cc_U → Prop) : px_Q := fun o M' => ∃ c u' f, M' = cc_M u' (px_up X (15, 0) (.inr (.inl (3, 1, .inr (.inl f))))) ∧ o = .inl (some (.inl (.int (nI c)))) ∧ P c (f 0) u'
def hd (X : px_M) (P : Nat → UInt64 → cc_U → Prop) : px_Q := fun o M' => ∃ c u' f, M' = cc_M u' (px_up X (15, 1) (.inr (.inl (1, 1, .inr (.inr (.inl f)))))) ∧ o = .inl (some (.inl (.int (nI c)))) ∧ P c (f 0) u'
theorem cc_15 {u : cc_U} {X : px_M} {i : Nat} {o : px_O} (h : X (15, i) = some o) : cc_M u X (15, i) = some o := by
  unfold cc_M
  rw [if_neg (show ¬ (2 ≤ 15 ∧ 15 ≤ 14) by decide)]
  exact h
theorem cc_up15 {u : cc_U} {X : px_M} {r : px_R} {o : px_O} (hr : ¬ (2 ≤ r.1 ∧ r.1 ≤ 14)) : px_up (cc_M u X) r o = cc_M u (px_up X r o) := by
  funext x
  by_cases h : x = r
  · subst h
    rw [px_up_s]
    unfold cc_M
    rw [if_neg hr, px_up_s]
  · rw [px_up_n _ _ h]
    unfold cc_M
    rw [px_up_n _ _ h]
theorem cc_id15 {u : cc_U} {X : px_M} {i : Nat} {o : px_O} (h : X (15, i) = some o) : cc_M u X = cc_M u (px_up X (15, i) o) := by
  congr 1
  funext x
  by_cases e : x = (15, i)
  · subst e; rw [px_up_s, h]
  · rw [px_up_n _ _ e]
set_option maxRecDepth 100000 in
set_option maxHeartbeats 4000000 in
theorem ch_pin {u : cc_U} {X : px_M} {Qc : px_Q} {P : Nat → Int64 → cc_U → Prop}  (h0 : cx u 14 0) (hX : h15 X) (hM : px_Met 9 70 8000 mX4_pin [.inr (14, 0)] (cc_M u X) Qc)
    (hN : ∀ v M', Qc (.inl v) M' → ∃ w u', v = some (.inl (.int w)) ∧ M' = cc_M u' X ∧ P 0 w.toInt64 u') (hE : ∀ E M', Qc (.inr E) M' → ∃ j u', M' = cc_M u' X ∧ ([cB] : List String)[j]? = some E ∧ ∀ z, P (j + 1) z u') :
    px_Met 10 70 8000 mL_pin [.inr (14, 0), .inr (15, 0)] (cc_M u X) (hl X P) := by
  refine px_ofW (by decide) W_mL_pin (Nat.le_of_ble_eq_true rfl) ?_
  obtain ⟨⟨f0, hf⟩, ⟨g0, hg⟩⟩ := hX
  refine px_aload_n dL_pin_0 rfl trivial ?_
  refine px_iconst (v := nI 0) dL_pin_1 (by decide) ?_
  refine px_aload_n dL_pin_2 rfl trivial ?_
  refine px_callV hM dL_pin_3 L_RL_7 (cc_rc4 h0) rfl rfl (by decide) (by omega) (by omega) (Nat.le_of_ble_eq_true rfl) (fun v M1 hq => ?_) (fun E M1 hq => ?_)
  · obtain ⟨w, u1, rfl, rfl, hP⟩ := hN _ _ hq
    refine px_i2l dL_pin_6 ?_
    refine px_ast_l (j := 0) dL_pin_7 (cc_15 hf) rfl (by decide) (by decide) ?_
    refine px_goto (tgt := 14) dL_pin_8 (by decide) ?_
    refine px_iconst (v := nI 0) dL_pin_14 (by decide) ?_
    refine px_iret (x := nI 0) dL_pin_15 rfl ?_ (by omega) (by omega)
    exact ⟨0, u1, _, cc_up15 (by decide), rfl, hP⟩
  · obtain ⟨j, u1, rfl, hj, hP⟩ := hE _ _ hq
    rcases j with _ | j
    · cases hj
      refine px_xcatch [] (0, 8, 11, 13) [] rfl (fun z hz => absurd hz List.not_mem_nil) (by decide) (by decide) K_RL_13 (by decide +kernel) (fun q => ?_)
      refine px_astore_n dL_pin_11 (by decide) trivial ?_
      refine px_iconst (v := nI 1) dL_pin_12 (by decide) ?_
      exact px_iret dL_pin_13 rfl ⟨1, u1, _, cc_id15 hf, rfl, hP _⟩ (by omega) (by omega)
    · cases hj
set_option maxRecDepth 100000 in
set_option maxHeartbeats 4000000 in
theorem ch_arc {u : cc_U} {X : px_M} {Qc : px_Q} {P : Nat → Int64 → cc_U → Prop} (x : Int32) (y : Int32) (w3 : UInt64) (h0 : cx u 14 0) (hX : h15 X) (hM : px_Met 9 70 8000 mX4_arc [.inr (14, 0), .inl (.int x), .inl (.int y), .inl (.double w3)] (cc_M u X) Qc)
    (hN : ∀ v M', Qc (.inl v) M' → ∃ w u', v = some (.inl (.int w)) ∧ M' = cc_M u' X ∧ P 0 w.toInt64 u') (hE : ∀ E M', Qc (.inr E) M' → ∃ j u', M' = cc_M u' X ∧ ([cI, cB, cA] : List String)[j]? = some E ∧ ∀ z, P (j + 1) z u') :
    px_Met 10 70 8000 mL_arc [.inr (14, 0), .inl (.int x), .inl (.int y), .inl (.double w3), .inr (15, 0)] (cc_M u X) (hl X P) := by
  refine px_ofW (by decide) W_mL_arc (Nat.le_of_ble_eq_true rfl) ?_
  obtain ⟨⟨f0, hf⟩, ⟨g0, hg⟩⟩ := hX
  refine px_aload dL_arc_0 rfl trivial ?_
  refine px_iconst (v := nI 0) dL_arc_2 (by decide) ?_
  refine px_aload_n dL_arc_3 rfl trivial ?_
  refine px_iload_n dL_arc_4 rfl ?_
  refine px_iload_n dL_arc_5 rfl ?_
  refine px_dload_n dL_arc_6 rfl ?_
  refine px_callV hM dL_arc_7 L_RL_15 (cc_rc4 h0) rfl rfl (by decide) (by omega) (by omega) (Nat.le_of_ble_eq_true rfl) (fun v M1 hq => ?_) (fun E M1 hq => ?_)
  · obtain ⟨w, u1, rfl, rfl, hP⟩ := hN _ _ hq
    refine px_i2l dL_arc_10 ?_
    refine px_ast_l (j := 0) dL_arc_11 (cc_15 hf) rfl (by decide) (by decide) ?_
    refine px_goto (tgt := 27) dL_arc_12 (by decide) ?_
    refine px_iconst (v := nI 0) dL_arc_27 (by decide) ?_
    refine px_iret (x := nI 0) dL_arc_28 rfl ?_ (by omega) (by omega)
    exact ⟨0, u1, _, cc_up15 (by decide), rfl, hP⟩
  · obtain ⟨j, u1, rfl, hj, hP⟩ := hE _ _ hq
    rcases j with _ | (_ | (_ | j))
    · cases hj
      refine px_xcatch [] (0, 12, 15, 19) [(0, 12, 19, 13), (0, 12, 23, 21)] rfl (fun z hz => absurd hz List.not_mem_nil) (by decide) (by decide) K_RL_19 (by decide +kernel) (fun q => ?_)
      refine px_astore dL_arc_15 (by decide) trivial ?_
      refine px_iconst (v := nI 1) dL_arc_17 (by decide) ?_
      exact px_iret dL_arc_18 rfl ⟨1, u1, _, cc_id15 hf, rfl, hP _⟩ (by omega) (by omega)
    · cases hj
      refine px_xcatch [(0, 12, 15, 19)] (0, 12, 19, 13) [(0, 12, 23, 21)] rfl (List.forall_mem_cons.mpr ⟨⟨by decide, cI, K_RL_19, by decide⟩, fun z hz => absurd hz List.not_mem_nil⟩) (by decide) (by decide) K_RL_13 (by decide +kernel) (fun q => ?_)
      refine px_astore dL_arc_19 (by decide) trivial ?_
      refine px_iconst (v := nI 2) dL_arc_21 (by decide) ?_
      exact px_iret dL_arc_22 rfl ⟨2, u1, _, cc_id15 hf, rfl, hP _⟩ (by omega) (by omega)
    · cases hj
      refine px_xcatch [(0, 12, 15, 19), (0, 12, 19, 13)] (0, 12, 23, 21) [] rfl (List.forall_mem_cons.mpr ⟨⟨by decide, cI, K_RL_19, by decide⟩, List.forall_mem_cons.mpr ⟨⟨by decide, cB, K_RL_13, by decide⟩, fun z hz => absurd hz List.not_mem_nil⟩⟩) (by decide) (by decide) K_RL_21 (by decide +kernel) (fun q => ?_)
      refine px_astore dL_arc_23 (by decide) trivial ?_
      refine px_iconst (v := nI 3) dL_arc_25 (by decide) ?_
      exact px_iret dL_arc_26 rfl ⟨3, u1, _, cc_id15 hf, rfl, hP _⟩ (by omega) (by omega)
    · cases hj
set_option maxRecDepth 100000 in
set_option maxHeartbeats 4000000 in
theorem ch_end {u : cc_U} {X : px_M} {Qc : px_Q} {P : Nat → Int64 → cc_U → Prop} (x : Int32) (y : UInt64) (h0 : cx u 14 0) (hX : h15 X) (hM : px_Met 9 70 8000 mX4_end [.inr (14, 0), .inl (.int x), .inl (.double y)] (cc_M u X) Qc)
    (hN : ∀ v M', Qc (.inl v) M' → ∃ w u', v = some (.inl (.int w)) ∧ M' = cc_M u' X ∧ P 0 w.toInt64 u') (hE : ∀ E M', Qc (.inr E) M' → ∃ j u', M' = cc_M u' X ∧ ([cI, cB, cA] : List String)[j]? = some E ∧ ∀ z, P (j + 1) z u') :
    px_Met 10 70 8000 mL_end [.inr (14, 0), .inl (.int x), .inl (.double y), .inr (15, 0)] (cc_M u X) (hl X P) := by
  refine px_ofW (by decide) W_mL_end (Nat.le_of_ble_eq_true rfl) ?_
  obtain ⟨⟨f0, hf⟩, ⟨g0, hg⟩⟩ := hX
  refine px_aload dL_end_0 rfl trivial ?_
  refine px_iconst (v := nI 0) dL_end_2 (by decide) ?_
  refine px_aload_n dL_end_3 rfl trivial ?_
  refine px_iload_n dL_end_4 rfl ?_
  refine px_dload_n dL_end_5 rfl ?_
  refine px_callV hM dL_end_6 L_RL_23 (cc_rc4 h0) rfl rfl (by decide) (by omega) (by omega) (Nat.le_of_ble_eq_true rfl) (fun v M1 hq => ?_) (fun E M1 hq => ?_)
  · obtain ⟨w, u1, rfl, rfl, hP⟩ := hN _ _ hq
    refine px_i2l dL_end_9 ?_
    refine px_ast_l (j := 0) dL_end_10 (cc_15 hf) rfl (by decide) (by decide) ?_
    refine px_goto (tgt := 26) dL_end_11 (by decide) ?_
    refine px_iconst (v := nI 0) dL_end_26 (by decide) ?_
    refine px_iret (x := nI 0) dL_end_27 rfl ?_ (by omega) (by omega)
    exact ⟨0, u1, _, cc_up15 (by decide), rfl, hP⟩
  · obtain ⟨j, u1, rfl, hj, hP⟩ := hE _ _ hq
    rcases j with _ | (_ | (_ | j))
    · cases hj
      refine px_xcatch [] (0, 11, 14, 19) [(0, 11, 18, 13), (0, 11, 22, 21)] rfl (fun z hz => absurd hz List.not_mem_nil) (by decide) (by decide) K_RL_19 (by decide +kernel) (fun q => ?_)
      refine px_astore dL_end_14 (by decide) trivial ?_
      refine px_iconst (v := nI 1) dL_end_16 (by decide) ?_
      exact px_iret dL_end_17 rfl ⟨1, u1, _, cc_id15 hf, rfl, hP _⟩ (by omega) (by omega)
    · cases hj
      refine px_xcatch [(0, 11, 14, 19)] (0, 11, 18, 13) [(0, 11, 22, 21)] rfl (List.forall_mem_cons.mpr ⟨⟨by decide, cI, K_RL_19, by decide⟩, fun z hz => absurd hz List.not_mem_nil⟩) (by decide) (by decide) K_RL_13 (by decide +kernel) (fun q => ?_)
      refine px_astore dL_end_18 (by decide) trivial ?_
      refine px_iconst (v := nI 2) dL_end_20 (by decide) ?_
      exact px_iret dL_end_21 rfl ⟨2, u1, _, cc_id15 hf, rfl, hP _⟩ (by omega) (by omega)
    · cases hj
      refine px_xcatch [(0, 11, 14, 19), (0, 11, 18, 13)] (0, 11, 22, 21) [] rfl (List.forall_mem_cons.mpr ⟨⟨by decide, cI, K_RL_19, by decide⟩, List.forall_mem_cons.mpr ⟨⟨by decide, cB, K_RL_13, by decide⟩, fun z hz => absurd hz List.not_mem_nil⟩⟩) (by decide) (by decide) K_RL_21 (by decide +kernel) (fun q => ?_)
      refine px_astore dL_end_22 (by decide) trivial ?_
      refine px_iconst (v := nI 3) dL_end_24 (by decide) ?_
      exact px_iret dL_end_25 rfl ⟨3, u1, _, cc_id15 hf, rfl, hP _⟩ (by omega) (by omega)
    · cases hj
set_option maxRecDepth 100000 in
set_option maxHeartbeats 4000000 in
theorem ch_start {u : cc_U} {X : px_M} {Qc : px_Q} {P : Nat → Int64 → cc_U → Prop} (x : Int32) (y : UInt64) (h0 : cx u 14 0) (hX : h15 X) (hM : px_Met 9 70 8000 mX4_start [.inr (14, 0), .inl (.int x), .inl (.double y)] (cc_M u X) Qc)
    (hN : ∀ v M', Qc (.inl v) M' → ∃ w u', v = some (.inl (.int w)) ∧ M' = cc_M u' X ∧ P 0 w.toInt64 u') (hE : ∀ E M', Qc (.inr E) M' → ∃ j u', M' = cc_M u' X ∧ ([cI, cB, cA] : List String)[j]? = some E ∧ ∀ z, P (j + 1) z u') :
    px_Met 10 70 8000 mL_start [.inr (14, 0), .inl (.int x), .inl (.double y), .inr (15, 0)] (cc_M u X) (hl X P) := by
  refine px_ofW (by decide) W_mL_start (Nat.le_of_ble_eq_true rfl) ?_
  obtain ⟨⟨f0, hf⟩, ⟨g0, hg⟩⟩ := hX
  refine px_aload dL_start_0 rfl trivial ?_
  refine px_iconst (v := nI 0) dL_start_2 (by decide) ?_
  refine px_aload_n dL_start_3 rfl trivial ?_
  refine px_iload_n dL_start_4 rfl ?_
  refine px_dload_n dL_start_5 rfl ?_
  refine px_callV hM dL_start_6 L_RL_27 (cc_rc4 h0) rfl rfl (by decide) (by omega) (by omega) (Nat.le_of_ble_eq_true rfl) (fun v M1 hq => ?_) (fun E M1 hq => ?_)
  · obtain ⟨w, u1, rfl, rfl, hP⟩ := hN _ _ hq
    refine px_i2l dL_start_9 ?_
    refine px_ast_l (j := 0) dL_start_10 (cc_15 hf) rfl (by decide) (by decide) ?_
    refine px_goto (tgt := 26) dL_start_11 (by decide) ?_
    refine px_iconst (v := nI 0) dL_start_26 (by decide) ?_
    refine px_iret (x := nI 0) dL_start_27 rfl ?_ (by omega) (by omega)
    exact ⟨0, u1, _, cc_up15 (by decide), rfl, hP⟩
  · obtain ⟨j, u1, rfl, hj, hP⟩ := hE _ _ hq
    rcases j with _ | (_ | (_ | j))
    · cases hj
      refine px_xcatch [] (0, 11, 14, 19) [(0, 11, 18, 13), (0, 11, 22, 21)] rfl (fun z hz => absurd hz List.not_mem_nil) (by decide) (by decide) K_RL_19 (by decide +kernel) (fun q => ?_)
      refine px_astore dL_start_14 (by decide) trivial ?_
      refine px_iconst (v := nI 1) dL_start_16 (by decide) ?_
      exact px_iret dL_start_17 rfl ⟨1, u1, _, cc_id15 hf, rfl, hP _⟩ (by omega) (by omega)
    · cases hj
      refine px_xcatch [(0, 11, 14, 19)] (0, 11, 18, 13) [(0, 11, 22, 21)] rfl (List.forall_mem_cons.mpr ⟨⟨by decide, cI, K_RL_19, by decide⟩, fun z hz => absurd hz List.not_mem_nil⟩) (by decide) (by decide) K_RL_13 (by decide +kernel) (fun q => ?_)
      refine px_astore dL_start_18 (by decide) trivial ?_
      refine px_iconst (v := nI 2) dL_start_20 (by decide) ?_
      exact px_iret dL_start_21 rfl ⟨2, u1, _, cc_id15 hf, rfl, hP _⟩ (by omega) (by omega)
    · cases hj
      refine px_xcatch [(0, 11, 14, 19), (0, 11, 18, 13)] (0, 11, 22, 21) [] rfl (List.forall_mem_cons.mpr ⟨⟨by decide, cI, K_RL_19, by decide⟩, List.forall_mem_cons.mpr ⟨⟨by decide, cB, K_RL_13, by decide⟩, fun z hz => absurd hz List.not_mem_nil⟩⟩) (by decide) (by decide) K_RL_21 (by decide +kernel) (fun q => ?_)
      refine px_astore dL_start_22 (by decide) trivial ?_
      refine px_iconst (v := nI 3) dL_start_24 (by decide) ?_
      exact px_iret dL_start_25 rfl ⟨3, u1, _, cc_id15 hf, rfl, hP _⟩ (by omega) (by omega)
    · cases hj
set_option maxRecDepth 100000 in
set_option maxHeartbeats 4000000 in
theorem ch_through {u : cc_U} {X : px_M} {Qc : px_Q} {P : Nat → Int64 → cc_U → Prop} (x : Int32) (y : Int32) (h0 : cx u 14 0) (hX : h15 X) (hM : px_Met 9 70 8000 mX4_through [.inr (14, 0), .inl (.int x), .inl (.int y)] (cc_M u X) Qc)
    (hN : ∀ v M', Qc (.inl v) M' → ∃ w u', v = some (.inl (.int w)) ∧ M' = cc_M u' X ∧ P 0 (if w = 0 then 0 else 1) u') (hE : ∀ E M', Qc (.inr E) M' → ∃ j u', M' = cc_M u' X ∧ ([cI, cA] : List String)[j]? = some E ∧ ∀ z, P (j + 1) z u') :
    px_Met 10 70 8000 mL_through [.inr (14, 0), .inl (.int x), .inl (.int y), .inr (15, 0)] (cc_M u X) (hl X P) := by
  refine px_ofW (by decide) W_mL_through (Nat.le_of_ble_eq_true rfl) ?_
  obtain ⟨⟨f0, hf⟩, ⟨g0, hg⟩⟩ := hX
  refine px_aload_n dL_through_0 rfl trivial ?_
  refine px_iconst (v := nI 0) dL_through_1 (by decide) ?_
  refine px_aload_n dL_through_2 rfl trivial ?_
  refine px_iload_n dL_through_3 rfl ?_
  refine px_iload_n dL_through_4 rfl ?_
  refine px_callV hM dL_through_5 L_RL_30 (cc_rc4 h0) rfl rfl (by decide) (by omega) (by omega) (Nat.le_of_ble_eq_true rfl) (fun v M1 hq => ?_) (fun E M1 hq => ?_)
  · obtain ⟨w, u1, rfl, rfl, hP⟩ := hN _ _ hq
    refine pn_if_eq (tgt := 15) dL_through_8 (by decide) (Iff.rfl) (fun g1 => ?_) (fun g1 => ?_)
    · rw [if_pos g1] at hP
      refine px_lconst (v := 0) dL_through_15 rfl ?_
      refine px_ast_l (j := 0) dL_through_16 (cc_15 hf) rfl (by decide) (by decide) ?_
      refine px_goto (tgt := 28) dL_through_17 (by decide) ?_
      refine px_iconst (v := nI 0) dL_through_28 (by decide) ?_
      refine px_iret (x := nI 0) dL_through_29 rfl ?_ (by omega) (by omega)
      exact ⟨0, u1, _, cc_up15 (by decide), rfl, hP⟩
    · rw [if_neg g1] at hP
      refine px_lconst (v := 1) dL_through_11 rfl ?_
      refine px_goto (tgt := 16) dL_through_12 (by decide) ?_
      refine px_ast_l (j := 0) dL_through_16 (cc_15 hf) rfl (by decide) (by decide) ?_
      refine px_goto (tgt := 28) dL_through_17 (by decide) ?_
      refine px_iconst (v := nI 0) dL_through_28 (by decide) ?_
      refine px_iret (x := nI 0) dL_through_29 rfl ?_ (by omega) (by omega)
      exact ⟨0, u1, _, cc_up15 (by decide), rfl, hP⟩
  · obtain ⟨j, u1, rfl, hj, hP⟩ := hE _ _ hq
    rcases j with _ | (_ | j)
    · cases hj
      refine px_xcatch [] (0, 17, 20, 19) [(0, 17, 24, 21)] rfl (fun z hz => absurd hz List.not_mem_nil) (by decide) (by decide) K_RL_19 (by decide +kernel) (fun q => ?_)
      refine px_astore dL_through_20 (by decide) trivial ?_
      refine px_iconst (v := nI 1) dL_through_22 (by decide) ?_
      exact px_iret dL_through_23 rfl ⟨1, u1, _, cc_id15 hf, rfl, hP _⟩ (by omega) (by omega)
    · cases hj
      refine px_xcatch [(0, 17, 20, 19)] (0, 17, 24, 21) [] rfl (List.forall_mem_cons.mpr ⟨⟨by decide, cI, K_RL_19, by decide⟩, fun z hz => absurd hz List.not_mem_nil⟩) (by decide) (by decide) K_RL_21 (by decide +kernel) (fun q => ?_)
      refine px_astore dL_through_24 (by decide) trivial ?_
      refine px_iconst (v := nI 2) dL_through_26 (by decide) ?_
      exact px_iret dL_through_27 rfl ⟨2, u1, _, cc_id15 hf, rfl, hP _⟩ (by omega) (by omega)
    · cases hj
set_option maxRecDepth 100000 in
set_option maxHeartbeats 4000000 in
theorem ch_run {u : cc_U} {X : px_M} {Qc : px_Q} {P : Nat → Int64 → cc_U → Prop} (x : Int32) (h0 : cx u 14 0) (hX : h15 X) (hM : px_Met 9 70 8000 mX4_run [.inr (14, 0), .inl (.int x)] (cc_M u X) Qc)
    (hN : ∀ v M', Qc (.inl v) M' → ∃ w u', v = some (.inl (.int w)) ∧ M' = cc_M u' X ∧ P 0 w.toInt64 u') (hE : ∀ E M', Qc (.inr E) M' → ∃ j u', M' = cc_M u' X ∧ ([cA] : List String)[j]? = some E ∧ ∀ z, P (j + 1) z u') :
    px_Met 10 70 8000 mL_run [.inr (14, 0), .inl (.int x), .inr (15, 0)] (cc_M u X) (hl X P) := by
  refine px_ofW (by decide) W_mL_run (Nat.le_of_ble_eq_true rfl) ?_
  obtain ⟨⟨f0, hf⟩, ⟨g0, hg⟩⟩ := hX
  refine px_aload_n dL_run_0 rfl trivial ?_
  refine px_iconst (v := nI 0) dL_run_1 (by decide) ?_
  refine px_aload_n dL_run_2 rfl trivial ?_
  refine px_iload_n dL_run_3 rfl ?_
  refine px_callV hM dL_run_4 L_RL_34 (cc_rc4 h0) rfl rfl (by decide) (by omega) (by omega) (Nat.le_of_ble_eq_true rfl) (fun v M1 hq => ?_) (fun E M1 hq => ?_)
  · obtain ⟨w, u1, rfl, rfl, hP⟩ := hN _ _ hq
    refine px_i2l dL_run_7 ?_
    refine px_ast_l (j := 0) dL_run_8 (cc_15 hf) rfl (by decide) (by decide) ?_
    refine px_goto (tgt := 15) dL_run_9 (by decide) ?_
    refine px_iconst (v := nI 0) dL_run_15 (by decide) ?_
    refine px_iret (x := nI 0) dL_run_16 rfl ?_ (by omega) (by omega)
    exact ⟨0, u1, _, cc_up15 (by decide), rfl, hP⟩
  · obtain ⟨j, u1, rfl, hj, hP⟩ := hE _ _ hq
    rcases j with _ | j
    · cases hj
      refine px_xcatch [] (0, 9, 12, 21) [] rfl (fun z hz => absurd hz List.not_mem_nil) (by decide) (by decide) K_RL_21 (by decide +kernel) (fun q => ?_)
      refine px_astore_n dL_run_12 (by decide) trivial ?_
      refine px_iconst (v := nI 1) dL_run_13 (by decide) ?_
      exact px_iret dL_run_14 rfl ⟨1, u1, _, cc_id15 hf, rfl, hP _⟩ (by omega) (by omega)
    · cases hj
set_option maxRecDepth 100000 in
set_option maxHeartbeats 4000000 in
theorem ch_slack {u : cc_U} {X : px_M} {Qc : px_Q} {P : Nat → UInt64 → cc_U → Prop} (x : Int32) (h0 : cx u 14 0) (hX : h15 X) (hM : px_Met 9 70 8000 mX4_slack [.inr (14, 0), .inl (.int x)] (cc_M u X) Qc)
    (hN : ∀ v M', Qc (.inl v) M' → ∃ w u', v = some (.inl (.double w)) ∧ M' = cc_M u' X ∧ P 0 w u') (hE : ∀ E M', Qc (.inr E) M' → ∃ j u', M' = cc_M u' X ∧ ([cB, cI] : List String)[j]? = some E ∧ ∀ z, P (j + 1) z u') :
    px_Met 10 70 8000 mL_slack [.inr (14, 0), .inl (.int x), .inr (15, 1)] (cc_M u X) (hd X P) := by
  refine px_ofW (by decide) W_mL_slack (Nat.le_of_ble_eq_true rfl) ?_
  obtain ⟨⟨f0, hf⟩, ⟨g0, hg⟩⟩ := hX
  refine px_aload_n dL_slack_0 rfl trivial ?_
  refine px_iconst (v := nI 0) dL_slack_1 (by decide) ?_
  refine px_aload_n dL_slack_2 rfl trivial ?_
  refine px_iload_n dL_slack_3 rfl ?_
  refine px_callV hM dL_slack_4 L_RL_38 (cc_rc4 h0) rfl rfl (by decide) (by omega) (by omega) (Nat.le_of_ble_eq_true rfl) (fun v M1 hq => ?_) (fun E M1 hq => ?_)
  · obtain ⟨w, u1, rfl, rfl, hP⟩ := hN _ _ hq
    refine px_ast_d (j := 0) dL_slack_7 (cc_15 hg) rfl (by decide) (by decide) ?_
    refine px_goto (tgt := 17) dL_slack_8 (by decide) ?_
    refine px_iconst (v := nI 0) dL_slack_17 (by decide) ?_
    refine px_iret (x := nI 0) dL_slack_18 rfl ?_ (by omega) (by omega)
    exact ⟨0, u1, _, cc_up15 (by decide), rfl, hP⟩
  · obtain ⟨j, u1, rfl, hj, hP⟩ := hE _ _ hq
    rcases j with _ | (_ | j)
    · cases hj
      refine px_xcatch [] (0, 8, 11, 13) [(0, 8, 14, 19)] rfl (fun z hz => absurd hz List.not_mem_nil) (by decide) (by decide) K_RL_13 (by decide +kernel) (fun q => ?_)
      refine px_astore_n dL_slack_11 (by decide) trivial ?_
      refine px_iconst (v := nI 1) dL_slack_12 (by decide) ?_
      exact px_iret dL_slack_13 rfl ⟨1, u1, _, cc_id15 hg, rfl, hP _⟩ (by omega) (by omega)
    · cases hj
      refine px_xcatch [(0, 8, 11, 13)] (0, 8, 14, 19) [] rfl (List.forall_mem_cons.mpr ⟨⟨by decide, cB, K_RL_13, by decide⟩, fun z hz => absurd hz List.not_mem_nil⟩) (by decide) (by decide) K_RL_19 (by decide +kernel) (fun q => ?_)
      refine px_astore_n dL_slack_14 (by decide) trivial ?_
      refine px_iconst (v := nI 2) dL_slack_15 (by decide) ?_
      exact px_iret dL_slack_16 rfl ⟨2, u1, _, cc_id15 hg, rfl, hP _⟩ (by omega) (by omega)
    · cases hj
set_option maxRecDepth 100000 in
set_option maxHeartbeats 4000000 in
theorem ch_at {u : cc_U} {X : px_M} {Qc : px_Q} {P : Nat → Int64 → cc_U → Prop} (x : Int32) (y : Int32) (h0 : cx u 14 0) (hX : h15 X) (hM : px_Met 9 70 8000 mX4_at [.inr (14, 0), .inl (.int x), .inl (.int y)] (cc_M u X) Qc)
    (hN : ∀ v M', Qc (.inl v) M' → ∃ w u', v = some (.inl (.int w)) ∧ M' = cc_M u' X ∧ P 0 w.toInt64 u') (hE : ∀ E M', Qc (.inr E) M' → ∃ j u', M' = cc_M u' X ∧ ([cB, cI] : List String)[j]? = some E ∧ ∀ z, P (j + 1) z u') :
    px_Met 10 70 8000 mL_at [.inr (14, 0), .inl (.int x), .inl (.int y), .inr (15, 0)] (cc_M u X) (hl X P) := by
  refine px_ofW (by decide) W_mL_at (Nat.le_of_ble_eq_true rfl) ?_
  obtain ⟨⟨f0, hf⟩, ⟨g0, hg⟩⟩ := hX
  refine px_aload_n dL_at_0 rfl trivial ?_
  refine px_iconst (v := nI 0) dL_at_1 (by decide) ?_
  refine px_aload_n dL_at_2 rfl trivial ?_
  refine px_iload_n dL_at_3 rfl ?_
  refine px_iload_n dL_at_4 rfl ?_
  refine px_callV hM dL_at_5 L_RL_42 (cc_rc4 h0) rfl rfl (by decide) (by omega) (by omega) (Nat.le_of_ble_eq_true rfl) (fun v M1 hq => ?_) (fun E M1 hq => ?_)
  · obtain ⟨w, u1, rfl, rfl, hP⟩ := hN _ _ hq
    refine px_i2l dL_at_8 ?_
    refine px_ast_l (j := 0) dL_at_9 (cc_15 hf) rfl (by decide) (by decide) ?_
    refine px_goto (tgt := 21) dL_at_10 (by decide) ?_
    refine px_iconst (v := nI 0) dL_at_21 (by decide) ?_
    refine px_iret (x := nI 0) dL_at_22 rfl ?_ (by omega) (by omega)
    exact ⟨0, u1, _, cc_up15 (by decide), rfl, hP⟩
  · obtain ⟨j, u1, rfl, hj, hP⟩ := hE _ _ hq
    rcases j with _ | (_ | j)
    · cases hj
      refine px_xcatch [] (0, 10, 13, 13) [(0, 10, 17, 19)] rfl (fun z hz => absurd hz List.not_mem_nil) (by decide) (by decide) K_RL_13 (by decide +kernel) (fun q => ?_)
      refine px_astore dL_at_13 (by decide) trivial ?_
      refine px_iconst (v := nI 1) dL_at_15 (by decide) ?_
      exact px_iret dL_at_16 rfl ⟨1, u1, _, cc_id15 hf, rfl, hP _⟩ (by omega) (by omega)
    · cases hj
      refine px_xcatch [(0, 10, 13, 13)] (0, 10, 17, 19) [] rfl (List.forall_mem_cons.mpr ⟨⟨by decide, cB, K_RL_13, by decide⟩, fun z hz => absurd hz List.not_mem_nil⟩) (by decide) (by decide) K_RL_19 (by decide +kernel) (fun q => ?_)
      refine px_astore dL_at_17 (by decide) trivial ?_
      refine px_iconst (v := nI 2) dL_at_19 (by decide) ?_
      exact px_iret dL_at_20 rfl ⟨2, u1, _, cc_id15 hf, rfl, hP _⟩ (by omega) (by omega)
    · cases hj
set_option maxRecDepth 100000 in
set_option maxHeartbeats 4000000 in
theorem ch_group {u : cc_U} {X : px_M} {Qc : px_Q} {P : Nat → Int64 → cc_U → Prop} (x : Int32) (y : Int32) (h0 : cx u 14 0) (hX : h15 X) (hM : px_Met 9 70 8000 mX4_group [.inr (14, 0), .inl (.int x), .inl (.int y)] (cc_M u X) Qc)
    (hN : ∀ v M', Qc (.inl v) M' → ∃ w u', v = some (.inl (.int w)) ∧ M' = cc_M u' X ∧ P 0 w.toInt64 u') (hE : ∀ E M', Qc (.inr E) M' → ∃ j u', M' = cc_M u' X ∧ ([cI, cA] : List String)[j]? = some E ∧ ∀ z, P (j + 1) z u') :
    px_Met 10 70 8000 mL_group [.inr (14, 0), .inl (.int x), .inl (.int y), .inr (15, 0)] (cc_M u X) (hl X P) := by
  refine px_ofW (by decide) W_mL_group (Nat.le_of_ble_eq_true rfl) ?_
  obtain ⟨⟨f0, hf⟩, ⟨g0, hg⟩⟩ := hX
  refine px_aload_n dL_group_0 rfl trivial ?_
  refine px_iconst (v := nI 0) dL_group_1 (by decide) ?_
  refine px_aload_n dL_group_2 rfl trivial ?_
  refine px_iload_n dL_group_3 rfl ?_
  refine px_iload_n dL_group_4 rfl ?_
  refine px_callV hM dL_group_5 L_RL_46 (cc_rc4 h0) rfl rfl (by decide) (by omega) (by omega) (Nat.le_of_ble_eq_true rfl) (fun v M1 hq => ?_) (fun E M1 hq => ?_)
  · obtain ⟨w, u1, rfl, rfl, hP⟩ := hN _ _ hq
    refine px_i2l dL_group_8 ?_
    refine px_ast_l (j := 0) dL_group_9 (cc_15 hf) rfl (by decide) (by decide) ?_
    refine px_goto (tgt := 21) dL_group_10 (by decide) ?_
    refine px_iconst (v := nI 0) dL_group_21 (by decide) ?_
    refine px_iret (x := nI 0) dL_group_22 rfl ?_ (by omega) (by omega)
    exact ⟨0, u1, _, cc_up15 (by decide), rfl, hP⟩
  · obtain ⟨j, u1, rfl, hj, hP⟩ := hE _ _ hq
    rcases j with _ | (_ | j)
    · cases hj
      refine px_xcatch [] (0, 10, 13, 19) [(0, 10, 17, 21)] rfl (fun z hz => absurd hz List.not_mem_nil) (by decide) (by decide) K_RL_19 (by decide +kernel) (fun q => ?_)
      refine px_astore dL_group_13 (by decide) trivial ?_
      refine px_iconst (v := nI 1) dL_group_15 (by decide) ?_
      exact px_iret dL_group_16 rfl ⟨1, u1, _, cc_id15 hf, rfl, hP _⟩ (by omega) (by omega)
    · cases hj
      refine px_xcatch [(0, 10, 13, 19)] (0, 10, 17, 21) [] rfl (List.forall_mem_cons.mpr ⟨⟨by decide, cI, K_RL_19, by decide⟩, fun z hz => absurd hz List.not_mem_nil⟩) (by decide) (by decide) K_RL_21 (by decide +kernel) (fun q => ?_)
      refine px_astore dL_group_17 (by decide) trivial ?_
      refine px_iconst (v := nI 2) dL_group_19 (by decide) ?_
      exact px_iret dL_group_20 rfl ⟨2, u1, _, cc_id15 hf, rfl, hP _⟩ (by omega) (by omega)
    · cases hj
set_option maxRecDepth 100000 in
set_option maxHeartbeats 4000000 in
theorem ch_model {u : cc_U} {X : px_M} {Qc : px_Q} {P : Nat → Int64 → cc_U → Prop} (x : Int32) (h0 : cx u 14 0) (hX : h15 X) (hM : px_Met 9 70 8000 mX4_model [.inr (14, 0), .inl (.int x)] (cc_M u X) Qc)
    (hN : ∀ v M', Qc (.inl v) M' → ∃ w u', v = some (.inl (.int w)) ∧ M' = cc_M u' X ∧ P 0 w.toInt64 u') (hE : ∀ E M', Qc (.inr E) M' → ∃ j u', M' = cc_M u' X ∧ ([cI] : List String)[j]? = some E ∧ ∀ z, P (j + 1) z u') :
    px_Met 10 70 8000 mL_model [.inr (14, 0), .inl (.int x), .inr (15, 0)] (cc_M u X) (hl X P) := by
  refine px_ofW (by decide) W_mL_model (Nat.le_of_ble_eq_true rfl) ?_
  obtain ⟨⟨f0, hf⟩, ⟨g0, hg⟩⟩ := hX
  refine px_aload_n dL_model_0 rfl trivial ?_
  refine px_iconst (v := nI 0) dL_model_1 (by decide) ?_
  refine px_aload_n dL_model_2 rfl trivial ?_
  refine px_iload_n dL_model_3 rfl ?_
  refine px_callV hM dL_model_4 L_RL_49 (cc_rc4 h0) rfl rfl (by decide) (by omega) (by omega) (Nat.le_of_ble_eq_true rfl) (fun v M1 hq => ?_) (fun E M1 hq => ?_)
  · obtain ⟨w, u1, rfl, rfl, hP⟩ := hN _ _ hq
    refine px_i2l dL_model_7 ?_
    refine px_ast_l (j := 0) dL_model_8 (cc_15 hf) rfl (by decide) (by decide) ?_
    refine px_goto (tgt := 15) dL_model_9 (by decide) ?_
    refine px_iconst (v := nI 0) dL_model_15 (by decide) ?_
    refine px_iret (x := nI 0) dL_model_16 rfl ?_ (by omega) (by omega)
    exact ⟨0, u1, _, cc_up15 (by decide), rfl, hP⟩
  · obtain ⟨j, u1, rfl, hj, hP⟩ := hE _ _ hq
    rcases j with _ | j
    · cases hj
      refine px_xcatch [] (0, 9, 12, 19) [] rfl (fun z hz => absurd hz List.not_mem_nil) (by decide) (by decide) K_RL_19 (by decide +kernel) (fun q => ?_)
      refine px_astore_n dL_model_12 (by decide) trivial ?_
      refine px_iconst (v := nI 1) dL_model_13 (by decide) ?_
      exact px_iret dL_model_14 rfl ⟨1, u1, _, cc_id15 hf, rfl, hP _⟩ (by omega) (by omega)
    · cases hj
set_option maxRecDepth 100000 in
set_option maxHeartbeats 4000000 in
theorem ch_into {u : cc_U} {X : px_M} {Qc : px_Q} {P : Nat → Int64 → cc_U → Prop} (x : Int32) (y : Int32) (h0 : cx u 14 0) (hX : h15 X) (hM : px_Met 9 70 8000 mX4_into [.inr (14, 0), .inl (.int x), .inl (.int y)] (cc_M u X) Qc)
    (hN : ∀ v M', Qc (.inl v) M' → ∃ w u', v = some (.inl (.int w)) ∧ M' = cc_M u' X ∧ P 0 (if w = 0 then 0 else 1) u') (hE : ∀ E M', Qc (.inr E) M' → ∃ j u', M' = cc_M u' X ∧ ([cI] : List String)[j]? = some E ∧ ∀ z, P (j + 1) z u') :
    px_Met 10 70 8000 mL_into [.inr (14, 0), .inl (.int x), .inl (.int y), .inr (15, 0)] (cc_M u X) (hl X P) := by
  refine px_ofW (by decide) W_mL_into (Nat.le_of_ble_eq_true rfl) ?_
  obtain ⟨⟨f0, hf⟩, ⟨g0, hg⟩⟩ := hX
  refine px_aload_n dL_into_0 rfl trivial ?_
  refine px_iconst (v := nI 0) dL_into_1 (by decide) ?_
  refine px_aload_n dL_into_2 rfl trivial ?_
  refine px_iload_n dL_into_3 rfl ?_
  refine px_iload_n dL_into_4 rfl ?_
  refine px_callV hM dL_into_5 L_RL_52 (cc_rc4 h0) rfl rfl (by decide) (by omega) (by omega) (Nat.le_of_ble_eq_true rfl) (fun v M1 hq => ?_) (fun E M1 hq => ?_)
  · obtain ⟨w, u1, rfl, rfl, hP⟩ := hN _ _ hq
    refine pn_if_eq (tgt := 15) dL_into_8 (by decide) (Iff.rfl) (fun g1 => ?_) (fun g1 => ?_)
    · rw [if_pos g1] at hP
      refine px_lconst (v := 0) dL_into_15 rfl ?_
      refine px_ast_l (j := 0) dL_into_16 (cc_15 hf) rfl (by decide) (by decide) ?_
      refine px_goto (tgt := 24) dL_into_17 (by decide) ?_
      refine px_iconst (v := nI 0) dL_into_24 (by decide) ?_
      refine px_iret (x := nI 0) dL_into_25 rfl ?_ (by omega) (by omega)
      exact ⟨0, u1, _, cc_up15 (by decide), rfl, hP⟩
    · rw [if_neg g1] at hP
      refine px_lconst (v := 1) dL_into_11 rfl ?_
      refine px_goto (tgt := 16) dL_into_12 (by decide) ?_
      refine px_ast_l (j := 0) dL_into_16 (cc_15 hf) rfl (by decide) (by decide) ?_
      refine px_goto (tgt := 24) dL_into_17 (by decide) ?_
      refine px_iconst (v := nI 0) dL_into_24 (by decide) ?_
      refine px_iret (x := nI 0) dL_into_25 rfl ?_ (by omega) (by omega)
      exact ⟨0, u1, _, cc_up15 (by decide), rfl, hP⟩
  · obtain ⟨j, u1, rfl, hj, hP⟩ := hE _ _ hq
    rcases j with _ | j
    · cases hj
      refine px_xcatch [] (0, 17, 20, 19) [] rfl (fun z hz => absurd hz List.not_mem_nil) (by decide) (by decide) K_RL_19 (by decide +kernel) (fun q => ?_)
      refine px_astore dL_into_20 (by decide) trivial ?_
      refine px_iconst (v := nI 1) dL_into_22 (by decide) ?_
      exact px_iret dL_into_23 rfl ⟨1, u1, _, cc_id15 hf, rfl, hP _⟩ (by omega) (by omega)
    · cases hj
set_option maxRecDepth 100000 in
set_option maxHeartbeats 4000000 in
theorem ch_reduced {u : cc_U} {X : px_M} {Qc : px_Q} {P : Nat → UInt64 → cc_U → Prop} (x : Int32) (y : Int32) (w3 : Int32) (h0 : cx u 14 0) (hX : h15 X) (hM : px_Met 9 70 8000 mX4_reduced [.inr (14, 0), .inl (.int x), .inl (.int y), .inl (.int w3)] (cc_M u X) Qc)
    (hN : ∀ v M', Qc (.inl v) M' → ∃ w u', v = some (.inl (.double w)) ∧ M' = cc_M u' X ∧ P 0 w u') (hE : ∀ E M', Qc (.inr E) M' → ∃ j u', M' = cc_M u' X ∧ ([cI] : List String)[j]? = some E ∧ ∀ z, P (j + 1) z u') :
    px_Met 10 70 8000 mL_reduced [.inr (14, 0), .inl (.int x), .inl (.int y), .inl (.int w3), .inr (15, 1)] (cc_M u X) (hd X P) := by
  refine px_ofW (by decide) W_mL_reduced (Nat.le_of_ble_eq_true rfl) ?_
  obtain ⟨⟨f0, hf⟩, ⟨g0, hg⟩⟩ := hX
  refine px_aload dL_reduced_0 rfl trivial ?_
  refine px_iconst (v := nI 0) dL_reduced_2 (by decide) ?_
  refine px_aload_n dL_reduced_3 rfl trivial ?_
  refine px_iload_n dL_reduced_4 rfl ?_
  refine px_iload_n dL_reduced_5 rfl ?_
  refine px_iload_n dL_reduced_6 rfl ?_
  refine px_callV hM dL_reduced_7 L_RL_55 (cc_rc4 h0) rfl rfl (by decide) (by omega) (by omega) (Nat.le_of_ble_eq_true rfl) (fun v M1 hq => ?_) (fun E M1 hq => ?_)
  · obtain ⟨w, u1, rfl, rfl, hP⟩ := hN _ _ hq
    refine px_ast_d (j := 0) dL_reduced_10 (cc_15 hg) rfl (by decide) (by decide) ?_
    refine px_goto (tgt := 18) dL_reduced_11 (by decide) ?_
    refine px_iconst (v := nI 0) dL_reduced_18 (by decide) ?_
    refine px_iret (x := nI 0) dL_reduced_19 rfl ?_ (by omega) (by omega)
    exact ⟨0, u1, _, cc_up15 (by decide), rfl, hP⟩
  · obtain ⟨j, u1, rfl, hj, hP⟩ := hE _ _ hq
    rcases j with _ | j
    · cases hj
      refine px_xcatch [] (0, 11, 14, 19) [] rfl (fun z hz => absurd hz List.not_mem_nil) (by decide) (by decide) K_RL_19 (by decide +kernel) (fun q => ?_)
      refine px_astore dL_reduced_14 (by decide) trivial ?_
      refine px_iconst (v := nI 1) dL_reduced_16 (by decide) ?_
      exact px_iret dL_reduced_17 rfl ⟨1, u1, _, cc_id15 hg, rfl, hP _⟩ (by omega) (by omega)
    · cases hj
set_option maxRecDepth 100000 in
set_option maxHeartbeats 4000000 in
theorem ch_budget {u : cc_U} {X : px_M} {Qc : px_Q} {P : Nat → UInt64 → cc_U → Prop} (x : Int32) (y : Int32) (h0 : cx u 14 0) (hX : h15 X) (hM : px_Met 9 70 8000 mX4_budget [.inr (14, 0), .inl (.int x), .inl (.int y)] (cc_M u X) Qc)
    (hN : ∀ v M', Qc (.inl v) M' → ∃ w u', v = some (.inl (.double w)) ∧ M' = cc_M u' X ∧ P 0 w u') (hE : ∀ E M', Qc (.inr E) M' → ∃ j u', M' = cc_M u' X ∧ ([cB, cI] : List String)[j]? = some E ∧ ∀ z, P (j + 1) z u') :
    px_Met 10 70 8000 mL_budget [.inr (14, 0), .inl (.int x), .inl (.int y), .inr (15, 1)] (cc_M u X) (hd X P) := by
  refine px_ofW (by decide) W_mL_budget (Nat.le_of_ble_eq_true rfl) ?_
  obtain ⟨⟨f0, hf⟩, ⟨g0, hg⟩⟩ := hX
  refine px_aload_n dL_budget_0 rfl trivial ?_
  refine px_iconst (v := nI 0) dL_budget_1 (by decide) ?_
  refine px_aload_n dL_budget_2 rfl trivial ?_
  refine px_iload_n dL_budget_3 rfl ?_
  refine px_iload_n dL_budget_4 rfl ?_
  refine px_callV hM dL_budget_5 L_RL_59 (cc_rc4 h0) rfl rfl (by decide) (by omega) (by omega) (Nat.le_of_ble_eq_true rfl) (fun v M1 hq => ?_) (fun E M1 hq => ?_)
  · obtain ⟨w, u1, rfl, rfl, hP⟩ := hN _ _ hq
    refine px_ast_d (j := 0) dL_budget_8 (cc_15 hg) rfl (by decide) (by decide) ?_
    refine px_goto (tgt := 20) dL_budget_9 (by decide) ?_
    refine px_iconst (v := nI 0) dL_budget_20 (by decide) ?_
    refine px_iret (x := nI 0) dL_budget_21 rfl ?_ (by omega) (by omega)
    exact ⟨0, u1, _, cc_up15 (by decide), rfl, hP⟩
  · obtain ⟨j, u1, rfl, hj, hP⟩ := hE _ _ hq
    rcases j with _ | (_ | j)
    · cases hj
      refine px_xcatch [] (0, 9, 12, 13) [(0, 9, 16, 19)] rfl (fun z hz => absurd hz List.not_mem_nil) (by decide) (by decide) K_RL_13 (by decide +kernel) (fun q => ?_)
      refine px_astore dL_budget_12 (by decide) trivial ?_
      refine px_iconst (v := nI 1) dL_budget_14 (by decide) ?_
      exact px_iret dL_budget_15 rfl ⟨1, u1, _, cc_id15 hg, rfl, hP _⟩ (by omega) (by omega)
    · cases hj
      refine px_xcatch [(0, 9, 12, 13)] (0, 9, 16, 19) [] rfl (List.forall_mem_cons.mpr ⟨⟨by decide, cB, K_RL_13, by decide⟩, fun z hz => absurd hz List.not_mem_nil⟩) (by decide) (by decide) K_RL_19 (by decide +kernel) (fun q => ?_)
      refine px_astore dL_budget_16 (by decide) trivial ?_
      refine px_iconst (v := nI 2) dL_budget_18 (by decide) ?_
      exact px_iret dL_budget_19 rfl ⟨2, u1, _, cc_id15 hg, rfl, hP _⟩ (by omega) (by omega)
    · cases hj
set_option maxRecDepth 100000 in
set_option maxHeartbeats 4000000 in
theorem ch_whatIf {u : cc_U} {X : px_M} {Qc : px_Q} {P : Nat → Int64 → cc_U → Prop} (x : Int32) (y : UInt64) (h0 : cx u 14 0) (hX : h15 X) (hM : px_Met 9 70 8000 mX4_whatIf [.inr (14, 0), .inl (.int x), .inl (.double y)] (cc_M u X) Qc)
    (hN : ∀ v M', Qc (.inl v) M' → ∃ w u', v = some (.inl (.int w)) ∧ M' = cc_M u' X ∧ P 0 (if w = 0 then 0 else 1) u') (hE : ∀ E M', Qc (.inr E) M' → ∃ j u', M' = cc_M u' X ∧ ([cI, cB, cA] : List String)[j]? = some E ∧ ∀ z, P (j + 1) z u') :
    px_Met 10 70 8000 mL_whatIf [.inr (14, 0), .inl (.int x), .inl (.double y), .inr (15, 0)] (cc_M u X) (hl X P) := by
  refine px_ofW (by decide) W_mL_whatIf (Nat.le_of_ble_eq_true rfl) ?_
  obtain ⟨⟨f0, hf⟩, ⟨g0, hg⟩⟩ := hX
  refine px_aload dL_whatIf_0 rfl trivial ?_
  refine px_iconst (v := nI 0) dL_whatIf_2 (by decide) ?_
  refine px_aload_n dL_whatIf_3 rfl trivial ?_
  refine px_iload_n dL_whatIf_4 rfl ?_
  refine px_dload_n dL_whatIf_5 rfl ?_
  refine px_callV hM dL_whatIf_6 L_RL_63 (cc_rc4 h0) rfl rfl (by decide) (by omega) (by omega) (Nat.le_of_ble_eq_true rfl) (fun v M1 hq => ?_) (fun E M1 hq => ?_)
  · obtain ⟨w, u1, rfl, rfl, hP⟩ := hN _ _ hq
    refine pn_if_eq (tgt := 16) dL_whatIf_9 (by decide) (Iff.rfl) (fun g1 => ?_) (fun g1 => ?_)
    · rw [if_pos g1] at hP
      refine px_lconst (v := 0) dL_whatIf_16 rfl ?_
      refine px_ast_l (j := 0) dL_whatIf_17 (cc_15 hf) rfl (by decide) (by decide) ?_
      refine px_goto (tgt := 33) dL_whatIf_18 (by decide) ?_
      refine px_iconst (v := nI 0) dL_whatIf_33 (by decide) ?_
      refine px_iret (x := nI 0) dL_whatIf_34 rfl ?_ (by omega) (by omega)
      exact ⟨0, u1, _, cc_up15 (by decide), rfl, hP⟩
    · rw [if_neg g1] at hP
      refine px_lconst (v := 1) dL_whatIf_12 rfl ?_
      refine px_goto (tgt := 17) dL_whatIf_13 (by decide) ?_
      refine px_ast_l (j := 0) dL_whatIf_17 (cc_15 hf) rfl (by decide) (by decide) ?_
      refine px_goto (tgt := 33) dL_whatIf_18 (by decide) ?_
      refine px_iconst (v := nI 0) dL_whatIf_33 (by decide) ?_
      refine px_iret (x := nI 0) dL_whatIf_34 rfl ?_ (by omega) (by omega)
      exact ⟨0, u1, _, cc_up15 (by decide), rfl, hP⟩
  · obtain ⟨j, u1, rfl, hj, hP⟩ := hE _ _ hq
    rcases j with _ | (_ | (_ | j))
    · cases hj
      refine px_xcatch [] (0, 18, 21, 19) [(0, 18, 25, 13), (0, 18, 29, 21)] rfl (fun z hz => absurd hz List.not_mem_nil) (by decide) (by decide) K_RL_19 (by decide +kernel) (fun q => ?_)
      refine px_astore dL_whatIf_21 (by decide) trivial ?_
      refine px_iconst (v := nI 1) dL_whatIf_23 (by decide) ?_
      exact px_iret dL_whatIf_24 rfl ⟨1, u1, _, cc_id15 hf, rfl, hP _⟩ (by omega) (by omega)
    · cases hj
      refine px_xcatch [(0, 18, 21, 19)] (0, 18, 25, 13) [(0, 18, 29, 21)] rfl (List.forall_mem_cons.mpr ⟨⟨by decide, cI, K_RL_19, by decide⟩, fun z hz => absurd hz List.not_mem_nil⟩) (by decide) (by decide) K_RL_13 (by decide +kernel) (fun q => ?_)
      refine px_astore dL_whatIf_25 (by decide) trivial ?_
      refine px_iconst (v := nI 2) dL_whatIf_27 (by decide) ?_
      exact px_iret dL_whatIf_28 rfl ⟨2, u1, _, cc_id15 hf, rfl, hP _⟩ (by omega) (by omega)
    · cases hj
      refine px_xcatch [(0, 18, 21, 19), (0, 18, 25, 13)] (0, 18, 29, 21) [] rfl (List.forall_mem_cons.mpr ⟨⟨by decide, cI, K_RL_19, by decide⟩, List.forall_mem_cons.mpr ⟨⟨by decide, cB, K_RL_13, by decide⟩, fun z hz => absurd hz List.not_mem_nil⟩⟩) (by decide) (by decide) K_RL_21 (by decide +kernel) (fun q => ?_)
      refine px_astore dL_whatIf_29 (by decide) trivial ?_
      refine px_iconst (v := nI 3) dL_whatIf_31 (by decide) ?_
      exact px_iret dL_whatIf_32 rfl ⟨3, u1, _, cc_id15 hf, rfl, hP _⟩ (by omega) (by omega)
    · cases hj
