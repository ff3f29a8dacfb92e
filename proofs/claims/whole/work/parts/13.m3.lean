/-! ===== the reference's net: what holds of it all along; what a call of it answers, and where it leads ===== -/
/-- the same but for the code and the scratch rows -/
def mm_nq (s s' : mm_S) : Prop := (∀ k, k ≠ 0 → s'.1 k = s.1 k) ∧ ∀ k, k < 26 → s'.2.1 k = s.2.1 k ∧ s'.2.2 k = s.2.2 k
theorem mm_nq.rf (s : mm_S) : mm_nq s s := ⟨fun _ _ => rfl, fun _ _ => ⟨rfl, rfl⟩⟩
theorem mm_nq.tr {a b c : mm_S} (h : mm_nq a b) (g : mm_nq b c) : mm_nq a c := ⟨fun k hk => (g.1 k hk).trans (h.1 k hk), fun k hk => ⟨(g.2 k hk).1.trans (h.2 k hk).1, (g.2 k hk).2.trans (h.2 k hk).2⟩⟩
theorem mm_nq.I0 {s s' : mm_S} (h : mm_nq s s') (x : Nat) : mm_nq s (mm_I s' 0 x) := ⟨fun k hk => (if_neg hk).trans (h.1 k hk), h.2⟩
theorem mm_nq.AS {s s' : mm_S} (h : mm_nq s s') {k : Nat} (hk : 26 ≤ k) (j x : Nat) : mm_nq s (mm_A s' k j x) := ⟨h.1, fun i hi => ⟨(if_neg (by omega)).trans (h.2 i hi).1, (h.2 i hi).2⟩⟩
theorem mm_nq.DS {s s' : mm_S} (h : mm_nq s s') {k : Nat} (hk : 26 ≤ k) (j : Nat) (x : Int) : mm_nq s (mm_D s' k j x) := ⟨h.1, fun i hi => ⟨(h.2 i hi).1, (if_neg (by omega)).trans (h.2 i hi).2⟩⟩
theorem mm_nq.I {s s' : mm_S} (h : mm_nq s s') (k x : Nat) : mm_nq (mm_I s k x) (mm_I s' k x) := ⟨fun i hi => by
  show px_upN s'.1 k x i = px_upN s.1 k x i
  unfold px_upN
  split
  · rfl
  · exact h.1 i hi, h.2⟩
theorem mm_nq.A {s s' : mm_S} (h : mm_nq s s') {k : Nat} (hk : k < 26) (j x : Nat) : mm_nq (mm_A s k j x) (mm_A s' k j x) := ⟨h.1, fun i hi => ⟨by
  show px_upN s'.2.1 k (px_upN (s'.2.1 k) j x) i = px_upN s.2.1 k (px_upN (s.2.1 k) j x) i
  rw [(h.2 k hk).1]
  unfold px_upN
  split
  · rfl
  · exact (h.2 i hi).1, (h.2 i hi).2⟩⟩
theorem mm_nq.D {s s' : mm_S} (h : mm_nq s s') {k : Nat} (hk : k < 26) (j : Nat) (x : Int) : mm_nq (mm_D s k j x) (mm_D s' k j x) := ⟨h.1, fun i hi => ⟨(h.2 i hi).1, by
  show px_upN s'.2.2 k (px_upN (s'.2.2 k) j x) i = px_upN s.2.2 k (px_upN (s.2.2 k) j x) i
  rw [(h.2 k hk).2]
  unfold px_upN
  split
  · rfl
  · exact (h.2 i hi).2⟩⟩
def mm_ok (s : mm_S) : Prop := (s.1 1 ≤ 60 ∧ s.1 6 ≤ 150 ∧ s.1 9 ≤ 30 ∧ s.1 13 ≤ 30 ∧ s.1 17 ≤ 50 ∧ s.1 25 ≤ 1 ∧ s.1 24 ≤ 320) ∧
  (∀ a, a < s.1 6 → s.2.1 3 a < s.1 1 ∧ s.2.1 4 a < s.1 1 ∧ 0 ≤ s.2.2 5 a ∧ s.2.2 5 a ≤ 8388608) ∧
  (∀ i, i < s.1 9 → s.2.1 7 i < s.1 1 ∧ -8388608 ≤ s.2.2 8 i ∧ s.2.2 8 i ≤ 8388608) ∧
  (∀ i, i < s.1 13 → s.2.1 10 i < s.1 1 ∧ s.2.1 12 i < 8 ∧ -8388608 ≤ s.2.2 11 i ∧ s.2.2 11 i ≤ 8388608) ∧
  (∀ j, j < 10 → s.2.1 14 j ≤ s.1 1) ∧ (∀ p, p < s.1 1 → s.2.1 2 p ≤ 8) ∧
  (∀ i, i < s.1 17 → s.2.1 15 i < s.1 6 ∧ 0 ≤ s.2.2 16 i ∧ s.2.2 16 i ≤ 8388608) ∧
  ∃ rk : Nat → Nat, ∀ a, a < s.1 6 → rk (s.2.1 3 a) < rk (s.2.1 4 a)
theorem mm_ok.nq {s s' : mm_S} (h : mm_ok s) (q : mm_nq s s') : mm_ok s' := by
  have e1 := q.1 1 (by decide)
  have e6 := q.1 6 (by decide)
  have e9 := q.1 9 (by decide)
  have e13 := q.1 13 (by decide)
  have e17 := q.1 17 (by decide)
  have e25 := q.1 25 (by decide)
  have e24 := q.1 24 (by decide)
  obtain ⟨a3, -⟩ := q.2 3 (by decide)
  obtain ⟨a4, -⟩ := q.2 4 (by decide)
  obtain ⟨-, d5⟩ := q.2 5 (by decide)
  obtain ⟨a7, -⟩ := q.2 7 (by decide)
  obtain ⟨-, d8⟩ := q.2 8 (by decide)
  obtain ⟨a10, -⟩ := q.2 10 (by decide)
  obtain ⟨-, d11⟩ := q.2 11 (by decide)
  obtain ⟨a12, -⟩ := q.2 12 (by decide)
  obtain ⟨a14, -⟩ := q.2 14 (by decide)
  obtain ⟨a2, -⟩ := q.2 2 (by decide)
  obtain ⟨a15, -⟩ := q.2 15 (by decide)
  obtain ⟨-, d16⟩ := q.2 16 (by decide)
  unfold mm_ok
  rw [e1, e6, e9, e13, e17, e25, e24, a3, a4, d5, a7, d8, a10, d11, a12, a14, a2, a15, d16]
  exact h
/-- a call's end: code c, and if that is 0 the answer v; the net is s1 -/
def mq (X : px_M) (c : Nat) (v : Int32) (s1 : mm_S) : px_Q := fun o M' => ∃ (w : Int32) (s' : mm_S), o = .inl (some (.inl (.int w))) ∧ M' = mm_M s' X ∧ s'.1 0 = c ∧ mm_nq s1 s' ∧ (c = 0 → w = v)
def mqd (X : px_M) (c : Nat) (v : UInt64) (s1 : mm_S) : px_Q := fun o M' => ∃ (w : UInt64) (s' : mm_S), o = .inl (some (.inl (.double w))) ∧ M' = mm_M s' X ∧ s'.1 0 = c ∧ mm_nq s1 s' ∧ (c = 0 → w = v)
def kc_pin (s : mm_S) : Nat := if s.1 1 = 60 then 1 else 0
def nx_pin (s : mm_S) : mm_S := if kc_pin s = 0 then mm_I (mm_I (mm_A s 2 (s.1 1) 0) 1 (s.1 1 + 1)) 25 0 else s
set_option maxRecDepth 100000 in
set_option maxHeartbeats 4000000 in
theorem me_pin (s : mm_S) (X : px_M) (ok : mm_ok s) : px_Met 0 0 0 mX5_pin [.inr (1, 0)] (mm_M s X) (mq X (kc_pin s) (nI (s.1 1)) (nx_pin s)) := by
  have hp := ok.1.1
  refine px_ofW (by decide) W_mX5_pin (Nat.le_of_ble_eq_true rfl) ?_
  refine px_aload_n dX5_pin_0 rfl trivial ?_
  refine px_aload_n dX5_pin_1 rfl trivial ?_
  refine mm_gets dX5_pin_2 F_RX5_85 (by decide) (by (try simp only [mr_In, mr_Ie, mr_A1, mr_D1, mr_R1, mr_T1, ne_eq, Nat.reduceEqDiff, not_false_eq_true]); rfl) ?_
  refine px_bipush (v := nI 60) dX5_pin_5 (by decide) ?_
  refine pn_icmp_ne (tgt := 14) dX5_pin_7 (by decide) (nI_eq (by omega) (by omega)) (fun h => ?_) (fun h => ?_)
  · refine px_iconst (v := nI 0) dX5_pin_14 (by decide) ?_
    have hc : kc_pin s = 0 := if_neg h
    have tail : ∀ t : mm_S, t.1 0 = 0 → t.1 1 = s.1 1 → mm_nq s t → px_W 0 0 0 mX5_pin (mq X (kc_pin s) (nI (s.1 1)) (nx_pin s)) 18 [(0, .inr (1, 0))] [] (mm_M t X) 0 0 := by
      intro t t0 t1 tn
      refine px_aload_n dX5_pin_18 rfl trivial ?_
      refine mm_gets dX5_pin_19 F_RX5_81 (by decide) (by (try simp only [mr_In, mr_Ie, mr_A1, mr_D1, mr_R1, mr_T1, ne_eq, Nat.reduceEqDiff, not_false_eq_true]); rfl) ?_
      refine pn_if_le (tgt := 27) dX5_pin_22 (by decide) (pn_lez (by omega)) (fun h2 => ?_) (fun h2 => ?_)
      · refine px_aload_n dX5_pin_27 rfl trivial ?_
        refine mm_get dX5_pin_28 F_RX5_7 rfl ?_
        refine px_aload_n dX5_pin_31 rfl trivial ?_
        refine mm_gets dX5_pin_32 F_RX5_85 (by decide) (by (try simp only [mr_In, mr_Ie, mr_A1, mr_D1, mr_R1, mr_T1, ne_eq, Nat.reduceEqDiff, not_false_eq_true]); rfl) ?_
        refine px_iconst (v := -1) dX5_pin_35 (by decide) ?_
        refine mm_ast_o dX5_pin_36 rfl (by first | rfl | assumption) (by first | exact px_o_n | exact px_o_s _ | rfl | assumption) (by first | assumption | omega) ?_
        refine px_aload_n dX5_pin_37 rfl trivial ?_
        refine px_dup dX5_pin_38 rfl ?_
        refine mm_gets dX5_pin_39 F_RX5_85 (by decide) (by (try simp only [mr_In, mr_Ie, mr_A1, mr_D1, mr_R1, mr_T1, ne_eq, Nat.reduceEqDiff, not_false_eq_true]); rfl) ?_
        refine px_iconst (v := nI 1) dX5_pin_42 (by decide) ?_
        refine pn_iadd dX5_pin_43 (by first | exact nI_add _ _ | rfl) ?_
        refine mm_put dX5_pin_44 F_RX5_85 nf_5_1 (by decide) (by first | exact ⟨rfl, rfl⟩ | decide) ?_
        refine px_aload_n dX5_pin_47 rfl trivial ?_
        refine px_iconst (v := nI 0) dX5_pin_48 (by decide) ?_
        refine mm_put dX5_pin_49 F_RX5_92 nf_5_25 (by decide) (by first | exact ⟨rfl, rfl⟩ | decide) ?_
        refine px_aload_n dX5_pin_52 rfl trivial ?_
        refine mm_gets dX5_pin_53 F_RX5_85 (by decide) (by (try simp only [mr_In, mr_Ie, mr_A1, mr_D1, mr_R1, mr_T1, ne_eq, Nat.reduceEqDiff, not_false_eq_true]); rfl) ?_
        refine px_iconst (v := nI 1) dX5_pin_56 (by decide) ?_
        refine pn_isub dX5_pin_57 (by first | exact pk_sub (by omega) | rfl) ?_
        refine px_iret dX5_pin_58 rfl ?_ (by omega) (by omega)
        refine ⟨_, _, rfl, rfl, ?_, ?_, fun _ => ?_⟩
        · rw [hc]; exact t0
        · unfold nx_pin
          rw [if_pos hc, ← t1]
          exact mm_nq.I (mm_nq.I (mm_nq.A tn (by decide) _ _) _ _) _ _
        · rw [t1, Nat.add_sub_cancel]
      · omega
    refine mm_put dX5_pin_15 F_RX5_81 nf_5_0 (by decide) (by first | exact ⟨rfl, rfl⟩ | decide) ?_
    exact px_sub (tail (mm_I s 0 0) rfl rfl ((mm_nq.rf s).I0 0)) rfl
  · refine px_iconst (v := nI 1) dX5_pin_10 (by decide) ?_
    refine px_goto (tgt := 15) dX5_pin_11 (by decide) ?_
    have hc : kc_pin s = 1 := if_pos h
    refine mm_put dX5_pin_15 F_RX5_81 nf_5_0 (by decide) (by first | exact ⟨rfl, rfl⟩ | decide) ?_
    refine px_aload_n dX5_pin_18 rfl trivial ?_
    refine mm_gets dX5_pin_19 F_RX5_81 (by decide) (by (try simp only [mr_In, mr_Ie, mr_A1, mr_D1, mr_R1, mr_T1, ne_eq, Nat.reduceEqDiff, not_false_eq_true]); rfl) ?_
    refine pn_if_le (tgt := 27) dX5_pin_22 (by decide) (pn_lez (by omega)) (fun h2 => ?_) (fun h2 => ?_)
    · exact absurd h2 (by show ¬ (1 = 0); decide)
    · refine px_iconst (v := nI 0) dX5_pin_25 (by decide) ?_
      refine px_iret dX5_pin_26 rfl ?_ (by omega) (by omega)
      exact ⟨_, _, rfl, rfl, hc.symm ▸ rfl, by unfold nx_pin; rw [if_neg (by omega)]; exact (mm_nq.rf s).I0 1, fun z => by omega⟩
