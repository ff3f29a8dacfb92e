/-! ===== the reference's small methods ===== -/
set_option maxRecDepth 100000 in
set_option maxHeartbeats 4000000 in
/-- met: from 'before', past what is NONE or this pin -/
def mm_met (t : Nat → Nat) (p : Nat) : Nat → Nat → Nat
  | 0, k => k
  | f + 1, k => if k < 10 ∧ (t k = 0 ∨ t k = p + 1) then mm_met t p f (k + 1) else k
set_option maxRecDepth 100000 in
set_option maxHeartbeats 4000000 in
theorem me_thrown (s : mm_S) (X : px_M) : px_Met 0 0 0 mX5_thrown [.inr (1, 0)] (mm_M s X) (px_rt (some (.inl (.int (nI (s.1 0))))) (mm_M s X)) := by
  refine px_ofW (by decide) W_mX5_thrown (Nat.le_of_ble_eq_true rfl) ?_
  refine px_aload_n dX5_thrown_0 rfl trivial ?_
  refine mm_gets dX5_thrown_1 F_RX5_81 (by decide) (by (try simp only [mr_In, mr_Ie, mr_A1, mr_D1, mr_R1, mr_T1, ne_eq, Nat.reduceEqDiff, not_false_eq_true]); rfl) ?_
  refine px_iret dX5_thrown_4 rfl ?_ (by omega) (by omega)
  exact ⟨rfl, rfl⟩
set_option maxRecDepth 100000 in
set_option maxHeartbeats 4000000 in
theorem me_met (s : mm_S) (X : px_M) (p b : Nat) (hp : p < 60) (hb : b ≤ 10) (hT : ∀ j, j < 10 → s.2.1 14 j ≤ 60) : px_Met 0 0 0 mX5_met [.inr (1, 0), .inl (.int (nI p)), .inl (.int (nI b))] (mm_M s X) (px_rt (some (.inl (.int (nI (mm_met (s.2.1 14) p 11 b))))) (mm_M s X)) := by
  refine px_ofW (by decide) W_mX5_met (Nat.le_of_ble_eq_true rfl) ?_
  have loop : ∀ (f k : Nat), k ≤ 10 → 10 < k + f → px_W 0 0 0 mX5_met (px_rt (some (.inl (.int (nI (mm_met (s.2.1 14) p f k))))) (mm_M s X)) 2 [(0, .inr (1, 0)), (1, .inl (.int (nI p))), (3, .inl (.int (nI k)))] [] (mm_M s X) 0 0 := by
    intro f
    induction f with
    | zero => intro k h1 h2; omega
    | succ f ih =>
      intro k h1 h2
      refine px_iload_n dX5_met_2 rfl ?_
      refine px_bipush (v := nI 10) dX5_met_3 (by decide) ?_
      refine pn_icmp_ge (tgt := 34) dX5_met_5 (by decide) (nI_leI (by omega) (by omega)) (fun h => ?_) (fun h => ?_)
      · refine px_iload_n dX5_met_34 rfl ?_
        refine px_iret dX5_met_35 rfl ?_ (by omega) (by omega)
        refine ⟨?_, rfl⟩
        rw [mm_met, if_neg (by omega)]
      · have hk := hT k (by omega)
        refine px_aload_n dX5_met_8 rfl trivial ?_
        refine mm_get dX5_met_9 F_RX5_38 rfl ?_
        refine px_iload_n dX5_met_12 rfl ?_
        refine mm_ald_o dX5_met_13 rfl (by first | rfl | assumption) (by (try simp only [mr_I2, mr_An, mr_Ae, mr_D2, mr_Rn, mr_Re, mr_T2, ne_eq, Nat.reduceEqDiff, not_false_eq_true]); rfl) (by first | assumption | omega) ?_
        refine px_iconst (v := -1) dX5_met_14 (by decide) ?_
        refine pn_icmp_eq (tgt := 28) dX5_met_15 (by decide) (px_o_no (by omega)) (fun h3 => ?_) (fun h3 => ?_)
        · refine px_iinc dX5_met_28 rfl (pn_i1 _) (by decide) ?_
          refine px_goto (tgt := 2) dX5_met_31 (by decide) ?_
          rw [show mm_met (s.2.1 14) p (f + 1) k = mm_met (s.2.1 14) p f (k + 1) by rw [mm_met, if_pos ⟨by omega, Or.inl h3⟩]]
          exact px_sub (ih (k + 1) (by omega) (by omega)) rfl
        · refine px_aload_n dX5_met_18 rfl trivial ?_
          refine mm_get dX5_met_19 F_RX5_38 rfl ?_
          refine px_iload_n dX5_met_22 rfl ?_
          refine mm_ald_o dX5_met_23 rfl (by first | rfl | assumption) (by (try simp only [mr_I2, mr_An, mr_Ae, mr_D2, mr_Rn, mr_Re, mr_T2, ne_eq, Nat.reduceEqDiff, not_false_eq_true]); rfl) (by first | assumption | omega) ?_
          refine px_iload_n dX5_met_24 rfl ?_
          refine pn_icmp_ne (tgt := 34) dX5_met_25 (by decide) (px_o_nI (by omega) (by omega)) (fun h4 => ?_) (fun h4 => ?_)
          · refine px_iload_n dX5_met_34 rfl ?_
            refine px_iret dX5_met_35 rfl ?_ (by omega) (by omega)
            refine ⟨?_, rfl⟩
            rw [mm_met, if_neg (fun z => z.2.elim h3 h4)]
          · refine px_iinc dX5_met_28 rfl (pn_i1 _) (by decide) ?_
            refine px_goto (tgt := 2) dX5_met_31 (by decide) ?_
            rw [show mm_met (s.2.1 14) p (f + 1) k = mm_met (s.2.1 14) p f (k + 1) by rw [mm_met, if_pos ⟨by omega, Or.inr h4⟩]]
            exact px_sub (ih (k + 1) (by omega) (by omega)) rfl
  refine px_iload_n dX5_met_0 rfl ?_
  refine px_istore_n dX5_met_1 (by decide) ?_
  exact px_sub (loop 11 b hb (by omega)) rfl
