/-! ===== what is reduced; how many pairs a block has ===== -/
theorem mm_nq.R {s s' : mm_S} (h : mm_nq s s') {k : Nat} (hk : 26 ≤ k) (f : Nat → Nat) : mm_nq s (mm_R s' k f) := ⟨h.1, fun i hi => ⟨(if_neg (by omega)).trans (h.2 i hi).1, (h.2 i hi).2⟩⟩
theorem mm_nq.T {s s' : mm_S} (h : mm_nq s s') {k : Nat} (hk : 26 ≤ k) (f : Nat → Int) : mm_nq s (mm_T s' k f) := ⟨h.1, fun i hi => ⟨(h.2 i hi).1, (if_neg (by omega)).trans (h.2 i hi).2⟩⟩
theorem mm_in.nq {s s' : mm_S} (h : mm_nq s s') (b a : Nat) : mm_in s' b a ↔ mm_in s b a := by
  unfold mm_in
  rw [(h.2 2 (by decide)).1, (h.2 3 (by decide)).1, (h.2 4 (by decide)).1]
theorem mm_wk.nq {s s' : mm_S} (h : mm_nq s s') (b : Nat) : ∀ (as : List Nat) (p q : Nat), mm_wk s' b p as q ↔ mm_wk s b p as q := by
  intro as
  induction as with
  | nil => intro p q; exact Iff.rfl
  | cons a as ih =>
    intro p q
    show (a < s'.1 6 ∧ mm_in s' b a ∧ s'.2.1 3 a = p ∧ mm_wk s' b (s'.2.1 4 a) as q) ↔ (a < s.1 6 ∧ mm_in s b a ∧ s.2.1 3 a = p ∧ mm_wk s b (s.2.1 4 a) as q)
    rw [ih, mm_in.nq h, h.1 6 (by decide), (h.2 3 (by decide)).1, (h.2 4 (by decide)).1]
theorem mm_rch.nq {s s' : mm_S} (h : mm_nq s s') (b p q : Nat) : mm_rch s' b p q ↔ mm_rch s b p q := exists_congr fun as => mm_wk.nq h b as p q
theorem mm_inp.nq {s s' : mm_S} (h : mm_nq s s') (p : Nat) : mm_inp s' p ↔ mm_inp s p := by
  unfold mm_inp
  rw [h.1 9 (by decide), h.1 6 (by decide), (h.2 2 (by decide)).1, (h.2 3 (by decide)).1, (h.2 4 (by decide)).1, (h.2 7 (by decide)).1]
theorem mm_out.nq {s s' : mm_S} (h : mm_nq s s') (p : Nat) : mm_out s' p ↔ mm_out s p := by
  unfold mm_out
  rw [h.1 13 (by decide), h.1 6 (by decide), (h.2 2 (by decide)).1, (h.2 3 (by decide)).1, (h.2 4 (by decide)).1, (h.2 10 (by decide)).1]
def mm_red (s : mm_S) (b p q : Nat) : Prop := s.2.1 2 p = b ∧ s.2.1 2 q = b ∧ mm_inp s p ∧ mm_out s q ∧ mm_rch s b p q
theorem mm_red.nq {s s' : mm_S} (h : mm_nq s s') (b p q : Nat) : mm_red s' b p q ↔ mm_red s b p q := by
  unfold mm_red
  rw [mm_inp.nq h, mm_out.nq h, mm_rch.nq h, (h.2 2 (by decide)).1]
theorem mr_RR (s : mm_S) (k : Nat) (f g : Nat → Nat) : mm_R (mm_R s k f) k g = mm_R s k g := by
  refine Prod.ext rfl (Prod.ext (funext fun i => ?_) rfl)
  show px_upN (px_upN s.2.1 k f) k g i = px_upN s.2.1 k g i
  unfold px_upN
  split <;> rfl
def mm_rdq (s : mm_S) (X : px_M) (b p q : Nat) : px_Q := fun o M' => o = .inl (some (.inl (.int (nI (px_ch (mm_red s b p q)))))) ∧ ∃ f : Nat → Nat, M' = mm_M (mm_R s 26 f) X
set_option maxRecDepth 100000 in
set_option maxHeartbeats 4000000 in
theorem me_isReduced (s : mm_S) (X : px_M) (ok : mm_ok s) (b p q : Nat) (hb : b ≤ 60) (hp : p < s.1 1) (hq : q < s.1 1) : px_Met 1 0 0 mX5_isReduced [.inr (1, 0), .inl (.int (px_o b)), .inl (.int (nI p)), .inl (.int (nI q))] (mm_M s X) (mm_rdq s X b p q) := by
  have h1 := ok.1.1
  have bp := ok.2.2.2.2.2.1 p hp
  have bq := ok.2.2.2.2.2.1 q hq
  refine px_ofW (by decide) W_mX5_isReduced (Nat.le_of_ble_eq_true rfl) ?_
  have no : ¬ mm_red s b p q → px_W 1 0 0 mX5_isReduced (mm_rdq s X b p q) 38 [] [] (mm_M s X) 0 0 := by
    intro h
    refine px_iconst (v := nI 0) dX5_isReduced_38 (by decide) ?_
    refine px_zret dX5_isReduced_39 rfl (by decide) ⟨by rw [px_ch_0 h], s.2.1 26, by rw [mr_R0]⟩ (by omega) (by omega)
  refine px_aload_n dX5_isReduced_0 rfl trivial ?_
  refine mm_get dX5_isReduced_1 F_RX5_7 rfl ?_
  refine px_iload_n dX5_isReduced_4 rfl ?_
  refine mm_ald_o dX5_isReduced_5 rfl (by first | rfl | assumption) (by (try simp only [mr_I2, mr_An, mr_Ae, mr_D2, mr_Rn, mr_Re, mr_T2, ne_eq, Nat.reduceEqDiff, not_false_eq_true]); rfl) (by first | assumption | omega) ?_
  refine px_iload_n dX5_isReduced_6 rfl ?_
  refine pn_icmp_ne (tgt := 38) dX5_isReduced_7 (by decide) (px_o_eq (by omega) (by omega)) (fun h => ?_) (fun h => ?_)
  · exact px_sub (no (fun z => h z.1)) rfl
  · refine px_aload_n dX5_isReduced_10 rfl trivial ?_
    refine mm_get dX5_isReduced_11 F_RX5_7 rfl ?_
    refine px_iload_n dX5_isReduced_14 rfl ?_
    refine mm_ald_o dX5_isReduced_15 rfl (by first | rfl | assumption) (by (try simp only [mr_I2, mr_An, mr_Ae, mr_D2, mr_Rn, mr_Re, mr_T2, ne_eq, Nat.reduceEqDiff, not_false_eq_true]); rfl) (by first | assumption | omega) ?_
    refine px_iload_n dX5_isReduced_16 rfl ?_
    refine pn_icmp_ne (tgt := 38) dX5_isReduced_17 (by decide) (px_o_eq (by omega) (by omega)) (fun h2 => ?_) (fun h2 => ?_)
    · exact px_sub (no (fun z => h2 z.2.1)) rfl
    · refine px_aload_n dX5_isReduced_20 rfl trivial ?_
      refine px_iload_n dX5_isReduced_21 rfl ?_
      refine px_iconst (v := nI 1) dX5_isReduced_22 (by decide) ?_
      refine px_callVr ((me_isEdge1 s X ok p hp)) dX5_isReduced_23 L_RX5_163 (mm_rcv _ _) rfl rfl (by decide) (by omega) (by omega) (Nat.le_of_ble_eq_true rfl) ?_
      refine pn_if_eq (tgt := 38) dX5_isReduced_26 (by decide) (px_ch_z _) (fun h3 => ?_) (fun h3 => ?_)
      · exact px_sub (no (fun z => h3 z.2.2.1)) rfl
      · refine px_aload_n dX5_isReduced_29 rfl trivial ?_
        refine px_iload_n dX5_isReduced_30 rfl ?_
        refine px_iconst (v := nI 0) dX5_isReduced_31 (by decide) ?_
        refine px_callVr ((me_isEdge0 s X ok q hq)) dX5_isReduced_32 L_RX5_163 (mm_rcv _ _) rfl rfl (by decide) (by omega) (by omega) (Nat.le_of_ble_eq_true rfl) ?_
        refine pn_if_ne (tgt := 40) dX5_isReduced_35 (by decide) (px_ch_z _) (fun h4 => ?_) (fun h4 => ?_)
        · refine px_aload_n dX5_isReduced_40 rfl trivial ?_
          refine px_iload_n dX5_isReduced_41 rfl ?_
          refine px_iload_n dX5_isReduced_42 rfl ?_
          refine px_callV ((me_spread s X ok p b (by omega) hb)) dX5_isReduced_43 L_RX5_107 (mm_rcv _ _) rfl rfl (by decide) (by omega) (by omega) (Nat.le_of_ble_eq_true rfl) (fun v9 M9 hq => ?_) (fun E9 M9 hq => ?_)
          · obtain ⟨h0, f, rfl, hf⟩ := hq
            cases h0
            have hfq := hf q (by omega)
            have hh : f q = px_ch (mm_red s b p q) := px_ch_of hfq.1 (hfq.2.trans ⟨fun z => ⟨h, h2, Classical.not_not.mp h3, Classical.not_not.mp h4, z⟩, fun z => z.2.2.2.2⟩)
            refine px_aload_n dX5_isReduced_46 rfl trivial ?_
            refine mm_get dX5_isReduced_47 F_RX5_65 rfl ?_
            refine px_iload_n dX5_isReduced_50 rfl ?_
            refine mm_ald_z dX5_isReduced_51 rfl (by first | rfl | assumption) (by (try simp only [mr_I2, mr_An, mr_Ae, mr_D2, mr_Rn, mr_Re, mr_T2, ne_eq, Nat.reduceEqDiff, not_false_eq_true]); rfl) (by first | assumption | omega) ?_
            refine px_zret dX5_isReduced_52 rfl ?_ ⟨by rw [← hh], f, rfl⟩ (by omega) (by omega)
            have := hfq.1
            rcases (show f q = 0 ∨ f q = 1 by omega) with e | e <;> rw [e] <;> rfl
          · exact absurd hq.1 (fun z => by cases z)
        · exact px_sub (no (fun z => h4 z.2.2.2.1)) rfl
