/-! ===== spread whole; edges of blocks; what is reduced ===== -/
set_option maxRecDepth 100000 in
set_option maxHeartbeats 4000000 in
theorem me_spread (s : mm_S) (X : px_M) (ok : mm_ok s) (p b : Nat) (hp : p < 60) (hb : b ≤ 60) : px_Met 0 0 0 mX5_spread [.inr (1, 0), .inl (.int (nI p)), .inl (.int (px_o b))] (mm_M s X) (mm_spr s X p b) := by
  refine px_ofW (by decide) W_mX5_spread (Nat.le_of_ble_eq_true rfl) ?_
  have loop : ∀ (u j : Nat) (f : Nat → Nat), j ≤ 60 → 60 < j + u → (∀ q, q < j → f q = if q = p then 1 else 0) → px_W 0 0 0 mX5_spread (mm_spr s X p b) 2 [(0, .inr (1, 0)), (1, .inl (.int (nI p))), (2, .inl (.int (px_o b))), (3, .inl (.int (nI j)))] [] (mm_M (mm_R s 26 f) X) 0 0 := by
    intro u
    induction u with
    | zero => intro j f h1 h2; omega
    | succ u ih =>
      intro j f h1 h2 hf
      refine px_iload_n dX5_spread_2 rfl ?_
      refine px_bipush (v := nI 60) dX5_spread_3 (by decide) ?_
      refine pn_icmp_ge (tgt := 30) dX5_spread_5 (by decide) (nI_leI (by omega) (by omega)) (fun h3 => ?_) (fun h3 => ?_)
      · refine px_iconst (v := nI 1) dX5_spread_30 (by decide) ?_
        refine px_istore_n dX5_spread_31 (by decide) ?_
        refine px_iload_n dX5_spread_32 rfl ?_
        refine pn_if_eq (tgt := 153) dX5_spread_33 (by decide) (pn_z (by omega)) (fun h4 => ?_) (fun h4 => ?_)
        · omega
        · refine px_sub (me_spread_l s X ok p b hp hb 61 f ?_ ?_ ?_) rfl
          · have := px_cnt_le f 0 60; omega
          · rw [hf p (by omega), if_pos rfl]
          · intro q hq
            rw [hf q (by omega)]
            by_cases e : q = p
            · rw [if_pos e]; exact ⟨Nat.le_refl _, fun _ => ⟨[], e.symm⟩⟩
            · rw [if_neg e]; exact ⟨Nat.zero_le _, fun z => by omega⟩
      · have st : ∀ x, px_W 0 0 0 mX5_spread (mm_spr s X p b) 24 [(0, .inr (1, 0)), (1, .inl (.int (nI p))), (2, .inl (.int (px_o b))), (3, .inl (.int (nI j)))] [] (mm_M (mm_R s 26 (px_upN f j x)) X) 0 0 ∨ ¬ x = (if j = p then 1 else 0) := by
          intro x
          by_cases e : x = (if j = p then 1 else 0)
          · refine Or.inl ?_
            refine px_iinc dX5_spread_24 rfl (pn_i1 _) (by decide) ?_
            refine px_goto (tgt := 2) dX5_spread_27 (by decide) ?_
            refine px_sub (ih (j + 1) (px_upN f j x) (by omega) (by omega) fun q hq => ?_) rfl
            unfold px_upN
            by_cases e' : q = j
            · rw [if_pos e', e, e']
            · rw [if_neg e']; exact hf q (by omega)
          · exact Or.inr e
        refine px_aload_n dX5_spread_8 rfl trivial ?_
        refine mm_get dX5_spread_9 F_RX5_65 rfl ?_
        refine px_iload_n dX5_spread_12 rfl ?_
        refine px_iload_n dX5_spread_13 rfl ?_
        refine px_iload_n dX5_spread_14 rfl ?_
        refine pn_icmp_ne (tgt := 22) dX5_spread_15 (by decide) (nI_eq (by omega) (by omega)) (fun h4 => ?_) (fun h4 => ?_)
        · refine px_iconst (v := nI 0) dX5_spread_22 (by decide) ?_
          refine mm_ast_z dX5_spread_23 rfl (by first | rfl | assumption) (by first | rfl | assumption) (by first | assumption | omega) (by omega) ?_
          rw [mr_RA]
          exact px_sub ((st 0).resolve_right (fun z => z (if_neg h4).symm)) rfl
        · refine px_iconst (v := nI 1) dX5_spread_18 (by decide) ?_
          refine px_goto (tgt := 23) dX5_spread_19 (by decide) ?_
          refine mm_ast_z dX5_spread_23 rfl (by first | rfl | assumption) (by first | rfl | assumption) (by first | assumption | omega) (by omega) ?_
          rw [mr_RA]
          exact px_sub ((st 1).resolve_right (fun z => z (if_pos h4).symm)) rfl
  refine px_iconst (v := nI 0) dX5_spread_0 (by decide) ?_
  refine px_istore_n dX5_spread_1 (by decide) ?_
  have := loop 61 0 (s.2.1 26) (by omega) (by omega) (fun q h => by omega)
  rw [mr_R0] at this
  exact px_sub this rfl
noncomputable def px_ch (P : Prop) : Nat := @ite Nat P (Classical.propDecidable P) 1 0
theorem px_ch_1 {P : Prop} (h : P) : px_ch P = 1 := @if_pos P (Classical.propDecidable P) h Nat 1 0
theorem px_ch_0 {P : Prop} (h : ¬ P) : px_ch P = 0 := @if_neg P (Classical.propDecidable P) h Nat 1 0
theorem px_ch_le (P : Prop) : px_ch P ≤ 1 := by
  rcases Classical.em P with h | h
  · rw [px_ch_1 h]; exact Nat.le_refl _
  · rw [px_ch_0 h]; exact Nat.zero_le _
theorem px_ch_i (P : Prop) : px_ch P = 1 ↔ P := by
  rcases Classical.em P with h | h
  · rw [px_ch_1 h]; exact ⟨fun _ => h, fun _ => rfl⟩
  · rw [px_ch_0 h]; exact ⟨fun z => by omega, fun z => (h z).elim⟩
theorem px_ch_of {P : Prop} {w : Nat} (h1 : w ≤ 1) (h : w = 1 ↔ P) : w = px_ch P := by
  rcases Classical.em P with g | g
  · rw [px_ch_1 g, h.mpr g]
  · rw [px_ch_0 g]
    have : ¬ w = 1 := fun z => g (h.mp z)
    omega
theorem px_ch_z (P : Prop) : nI (px_ch P) = 0 ↔ ¬ P := by
  have := px_ch_le P
  rw [pn_z (by omega)]
  exact ⟨fun z h => by have := px_ch_1 h; omega, fun h => px_ch_0 h⟩
/-- a pin is an edge of its block: of its inputs, or of its outputs -/
def mm_inp (s : mm_S) (p : Nat) : Prop := (∃ k, k < s.1 9 ∧ s.2.1 7 k = p) ∨ ∃ a, a < s.1 6 ∧ s.2.1 4 a = p ∧ s.2.1 2 (s.2.1 3 a) ≠ s.2.1 2 p
def mm_out (s : mm_S) (p : Nat) : Prop := (∃ k, k < s.1 13 ∧ s.2.1 10 k = p) ∨ ∃ a, a < s.1 6 ∧ s.2.1 3 a = p ∧ s.2.1 2 (s.2.1 4 a) ≠ s.2.1 2 p
set_option maxRecDepth 100000 in
set_option maxHeartbeats 4000000 in
theorem me_isEdge1 (s : mm_S) (X : px_M) (ok : mm_ok s) (p : Nat) (hp : p < s.1 1) : px_Met 0 0 0 mX5_isEdge [.inr (1, 0), .inl (.int (nI p)), .inl (.int (nI 1))] (mm_M s X) (px_rt (some (.inl (.int (nI (px_ch (mm_inp s p)))))) (mm_M s X)) := by
  have h1 := ok.1.1
  have h6 := ok.1.2.1
  have h9 := ok.1.2.2.1
  have h13 := ok.1.2.2.2.1
  have bp := ok.2.2.2.2.2.1 p hp
  refine px_ofW (by decide) W_mX5_isEdge (Nat.le_of_ble_eq_true rfl) ?_
  have loop2 : ∀ (u a w : Nat), a ≤ s.1 6 → s.1 6 < a + u → w ≤ 1 → (w = 1 ↔ (∃ k, k < s.1 9 ∧ s.2.1 7 k = p) ∨ ∃ a', a' < a ∧ s.2.1 4 a' = p ∧ s.2.1 2 (s.2.1 3 a') ≠ s.2.1 2 p) → px_W 0 0 0 mX5_isEdge (px_rt (some (.inl (.int (nI (px_ch (mm_inp s p)))))) (mm_M s X)) 69 [(0, .inr (1, 0)), (1, .inl (.int (nI p))), (2, .inl (.int (nI 1))), (3, .inl (.int (nI w))), (4, .inl (.int (nI a)))] [] (mm_M s X) 0 0 := by
    intro u
    induction u with
    | zero => intro a w g1 g2; omega
    | succ u ih =>
      intro a w g1 g2 w1 hw
      refine px_iload dX5_isEdge_69 rfl ?_
      refine px_aload_n dX5_isEdge_71 rfl trivial ?_
      refine mm_gets dX5_isEdge_72 F_RX5_96 (by decide) (by (try simp only [mr_In, mr_Ie, mr_A1, mr_D1, mr_R1, mr_T1, ne_eq, Nat.reduceEqDiff, not_false_eq_true]); rfl) ?_
      refine pn_icmp_ge (tgt := 166) dX5_isEdge_75 (by decide) (nI_leI (by omega) (by omega)) (fun g3 => ?_) (fun g3 => ?_)
      · refine px_iload_n dX5_isEdge_166 rfl ?_
        refine px_zret dX5_isEdge_167 rfl (by rcases (show w = 0 ∨ w = 1 by omega) with rfl | rfl <;> rfl) ⟨?_, rfl⟩ (by omega) (by omega)
        rw [px_ch_of w1 (show w = 1 ↔ mm_inp s p from hw.trans (by rw [show a = s.1 6 by omega]; exact Iff.rfl))]
      · obtain ⟨b1, b2, -, -⟩ := ok.2.1 a (by omega)
        have b3 := ok.2.2.2.2.2.1 (s.2.1 3 a) b1
        have b4 := ok.2.2.2.2.2.1 (s.2.1 4 a) b2
        have go : ∀ w', w' ≤ 1 → (w' = 1 ↔ w = 1 ∨ (s.2.1 4 a = p ∧ s.2.1 2 (s.2.1 3 a) ≠ s.2.1 2 p)) → px_W 0 0 0 mX5_isEdge (px_rt (some (.inl (.int (nI (px_ch (mm_inp s p)))))) (mm_M s X)) 159 [(0, .inr (1, 0)), (1, .inl (.int (nI p))), (2, .inl (.int (nI 1))), (4, .inl (.int (nI a)))] [.inl (.int (nI w'))] (mm_M s X) 0 0 := by
          intro w' w1' hw'
          refine px_istore_n dX5_isEdge_159 (by decide) ?_
          refine px_iinc dX5_isEdge_160 rfl (pn_i1 _) (by decide) ?_
          refine px_goto (tgt := 69) dX5_isEdge_163 (by decide) ?_
          refine px_sub (ih (a + 1) w' (by omega) (by omega) w1' ?_) rfl
          rw [hw', hw]
          constructor
          · rintro ((h | ⟨a', h, h'⟩) | h)
            · exact Or.inl h
            · exact Or.inr ⟨a', by omega, h'⟩
            · exact Or.inr ⟨a, by omega, h⟩
          · rintro (h | ⟨a', h, h'⟩)
            · exact Or.inl (Or.inl h)
            · by_cases e : a' = a
              · exact Or.inr (e ▸ h')
              · exact Or.inl (Or.inr ⟨a', by omega, h'⟩)
        have yes : (w = 1 ∨ (s.2.1 4 a = p ∧ s.2.1 2 (s.2.1 3 a) ≠ s.2.1 2 p)) → px_W 0 0 0 mX5_isEdge (px_rt (some (.inl (.int (nI (px_ch (mm_inp s p)))))) (mm_M s X)) 154 [(0, .inr (1, 0)), (1, .inl (.int (nI p))), (2, .inl (.int (nI 1))), (4, .inl (.int (nI a)))] [] (mm_M s X) 0 0 := by
          intro h
          refine px_iconst (v := nI 1) dX5_isEdge_154 (by decide) ?_
          refine px_goto (tgt := 159) dX5_isEdge_155 (by decide) ?_
          exact px_sub (go 1 (by decide) ⟨fun _ => h, fun _ => rfl⟩) rfl
        have no : ¬ (w = 1 ∨ (s.2.1 4 a = p ∧ s.2.1 2 (s.2.1 3 a) ≠ s.2.1 2 p)) → px_W 0 0 0 mX5_isEdge (px_rt (some (.inl (.int (nI (px_ch (mm_inp s p)))))) (mm_M s X)) 158 [(0, .inr (1, 0)), (1, .inl (.int (nI p))), (2, .inl (.int (nI 1))), (4, .inl (.int (nI a)))] [] (mm_M s X) 0 0 := by
          intro h
          refine px_iconst (v := nI 0) dX5_isEdge_158 (by decide) ?_
          exact px_sub (go 0 (by decide) ⟨fun z => by omega, fun z => (h z).elim⟩) rfl
        refine px_iload_n dX5_isEdge_78 rfl ?_
        refine pn_if_ne (tgt := 154) dX5_isEdge_79 (by decide) (pn_z (by omega)) (fun k1 => ?_) (fun k1 => ?_)
        · exact px_sub (yes (Or.inl (by omega))) rfl
        · refine px_iload_n dX5_isEdge_82 rfl ?_
          refine pn_if_eq (tgt := 118) dX5_isEdge_83 (by decide) (pn_z (by omega)) (fun k2 => ?_) (fun k2 => ?_)
          · exact absurd k2 (by decide)
          · refine px_aload_n dX5_isEdge_86 rfl trivial ?_
            refine mm_get dX5_isEdge_87 F_RX5_16 rfl ?_
            refine px_iload dX5_isEdge_90 rfl ?_
            refine mm_ald dX5_isEdge_92 rfl (by first | rfl | assumption) (by (try simp only [mr_I2, mr_An, mr_Ae, mr_D2, mr_Rn, mr_Re, mr_T2, ne_eq, Nat.reduceEqDiff, not_false_eq_true]); rfl) (by first | assumption | omega) ?_
            refine px_iload_n dX5_isEdge_93 rfl ?_
            refine pn_icmp_ne (tgt := 118) dX5_isEdge_94 (by decide) (nI_eq (by omega) (by omega)) (fun k3 => ?_) (fun k3 => ?_)
            · refine px_iload_n dX5_isEdge_118 rfl ?_
              refine pn_if_ne (tgt := 158) dX5_isEdge_119 (by decide) (pn_z (by omega)) (fun k4 => ?_) (fun k4 => ?_)
              · exact px_sub (no (fun z => z.elim (fun z => by omega) fun z => k3 z.1)) rfl
              · exact absurd k4 (by decide)
            · refine px_aload_n dX5_isEdge_97 rfl trivial ?_
              refine mm_get dX5_isEdge_98 F_RX5_7 rfl ?_
              refine px_aload_n dX5_isEdge_101 rfl trivial ?_
              refine mm_get dX5_isEdge_102 F_RX5_13 rfl ?_
              refine px_iload dX5_isEdge_105 rfl ?_
              refine mm_ald dX5_isEdge_107 rfl (by first | rfl | assumption) (by (try simp only [mr_I2, mr_An, mr_Ae, mr_D2, mr_Rn, mr_Re, mr_T2, ne_eq, Nat.reduceEqDiff, not_false_eq_true]); rfl) (by first | assumption | omega) ?_
              refine mm_ald_o dX5_isEdge_108 rfl (by first | rfl | assumption) (by (try simp only [mr_I2, mr_An, mr_Ae, mr_D2, mr_Rn, mr_Re, mr_T2, ne_eq, Nat.reduceEqDiff, not_false_eq_true]); rfl) (by first | assumption | omega) ?_
              refine px_aload_n dX5_isEdge_109 rfl trivial ?_
              refine mm_get dX5_isEdge_110 F_RX5_7 rfl ?_
              refine px_iload_n dX5_isEdge_113 rfl ?_
              refine mm_ald_o dX5_isEdge_114 rfl (by first | rfl | assumption) (by (try simp only [mr_I2, mr_An, mr_Ae, mr_D2, mr_Rn, mr_Re, mr_T2, ne_eq, Nat.reduceEqDiff, not_false_eq_true]); rfl) (by first | assumption | omega) ?_
              refine pn_icmp_ne (tgt := 154) dX5_isEdge_115 (by decide) (px_o_eq (by omega) (by omega)) (fun k4 => ?_) (fun k4 => ?_)
              · exact px_sub (yes (Or.inr ⟨k3, k4⟩)) rfl
              · refine px_iload_n dX5_isEdge_118 rfl ?_
                refine pn_if_ne (tgt := 158) dX5_isEdge_119 (by decide) (pn_z (by omega)) (fun k5 => ?_) (fun k5 => ?_)
                · exact px_sub (no (fun z => z.elim (fun z => by omega) fun z => z.2 k4)) rfl
                · exact absurd k5 (by decide)
  have loop1 : ∀ (u k w : Nat), k ≤ s.1 9 → s.1 9 < k + u → w ≤ 1 → (w = 1 ↔ ∃ k', k' < k ∧ s.2.1 7 k' = p) → px_W 0 0 0 mX5_isEdge (px_rt (some (.inl (.int (nI (px_ch (mm_inp s p)))))) (mm_M s X)) 5 [(0, .inr (1, 0)), (1, .inl (.int (nI p))), (2, .inl (.int (nI 1))), (3, .inl (.int (nI w))), (4, .inl (.int (nI k)))] [] (mm_M s X) 0 0 := by
    intro u
    induction u with
    | zero => intro k w g1 g2; omega
    | succ u ih =>
      intro k w g1 g2 w1 hw
      have cont : px_W 0 0 0 mX5_isEdge (px_rt (some (.inl (.int (nI (px_ch (mm_inp s p)))))) (mm_M s X)) 22 [(0, .inr (1, 0)), (1, .inl (.int (nI p))), (2, .inl (.int (nI 1))), (3, .inl (.int (nI w))), (4, .inl (.int (nI k)))] [.inl (.int (nI (s.1 9))), .inl (.int (nI k))] (mm_M s X) 0 0 := by
        refine pn_icmp_ge (tgt := 66) dX5_isEdge_22 (by decide) (nI_leI (by omega) (by omega)) (fun g3 => ?_) (fun g3 => ?_)
        · refine px_iconst (v := nI 0) dX5_isEdge_66 (by decide) ?_
          refine px_istore dX5_isEdge_67 (by decide) ?_
          refine px_sub (loop2 (s.1 6 + 1) 0 w (by omega) (by omega) w1 ?_) rfl
          rw [hw, show k = s.1 9 by omega]
          exact ⟨fun h => Or.inl h, fun h => h.elim id fun ⟨a', z, _⟩ => by omega⟩
        · have go : ∀ w', w' ≤ 1 → (w' = 1 ↔ w = 1 ∨ s.2.1 7 k = p) → px_W 0 0 0 mX5_isEdge (px_rt (some (.inl (.int (nI (px_ch (mm_inp s p)))))) (mm_M s X)) 59 [(0, .inr (1, 0)), (1, .inl (.int (nI p))), (2, .inl (.int (nI 1))), (4, .inl (.int (nI k)))] [.inl (.int (nI w'))] (mm_M s X) 0 0 := by
            intro w' w1' hw'
            refine px_istore_n dX5_isEdge_59 (by decide) ?_
            refine px_iinc dX5_isEdge_60 rfl (pn_i1 _) (by decide) ?_
            refine px_goto (tgt := 5) dX5_isEdge_63 (by decide) ?_
            refine px_sub (ih (k + 1) w' (by omega) (by omega) w1' ?_) rfl
            rw [hw', hw]
            constructor
            · rintro (⟨k', h, h'⟩ | h)
              · exact ⟨k', by omega, h'⟩
              · exact ⟨k, by omega, h⟩
            · rintro ⟨k', h, h'⟩
              by_cases e : k' = k
              · exact Or.inr (e ▸ h')
              · exact Or.inl ⟨k', by omega, h'⟩
          refine px_iload_n dX5_isEdge_25 rfl ?_
          refine pn_if_ne (tgt := 54) dX5_isEdge_26 (by decide) (pn_z (by omega)) (fun k1 => ?_) (fun k1 => ?_)
          · refine px_iconst (v := nI 1) dX5_isEdge_54 (by decide) ?_
            refine px_goto (tgt := 59) dX5_isEdge_55 (by decide) ?_
            exact px_sub (go 1 (by decide) ⟨fun _ => Or.inl (by omega), fun _ => rfl⟩) rfl
          · have b1 := (ok.2.2.1 k (by omega)).1
            have cmp : px_W 0 0 0 mX5_isEdge (px_rt (some (.inl (.int (nI (px_ch (mm_inp s p)))))) (mm_M s X)) 50 [(0, .inr (1, 0)), (1, .inl (.int (nI p))), (2, .inl (.int (nI 1))), (4, .inl (.int (nI k)))] [.inl (.int (nI (s.2.1 7 k)))] (mm_M s X) 0 0 := by
              refine px_iload_n dX5_isEdge_50 rfl ?_
              refine pn_icmp_ne (tgt := 58) dX5_isEdge_51 (by decide) (nI_eq (by omega) (by omega)) (fun k2 => ?_) (fun k2 => ?_)
              · refine px_iconst (v := nI 0) dX5_isEdge_58 (by decide) ?_
                exact px_sub (go 0 (by decide) ⟨fun z => by omega, fun z => z.elim (fun z => by omega) fun z => (k2 z).elim⟩) rfl
              · refine px_iconst (v := nI 1) dX5_isEdge_54 (by decide) ?_
                refine px_goto (tgt := 59) dX5_isEdge_55 (by decide) ?_
                exact px_sub (go 1 (by decide) ⟨fun _ => Or.inr k2, fun _ => rfl⟩) rfl
            refine px_iload_n dX5_isEdge_29 rfl ?_
            refine pn_if_eq (tgt := 43) dX5_isEdge_30 (by decide) (pn_z (by omega)) (fun k2 => ?_) (fun k2 => ?_)
            · exact absurd k2 (by decide)
            · refine px_aload_n dX5_isEdge_33 rfl trivial ?_
              refine mm_get dX5_isEdge_34 F_RX5_23 rfl ?_
              refine px_iload dX5_isEdge_37 rfl ?_
              refine mm_ald dX5_isEdge_39 rfl (by first | rfl | assumption) (by (try simp only [mr_I2, mr_An, mr_Ae, mr_D2, mr_Rn, mr_Re, mr_T2, ne_eq, Nat.reduceEqDiff, not_false_eq_true]); rfl) (by first | assumption | omega) ?_
              refine px_goto (tgt := 50) dX5_isEdge_40 (by decide) ?_
              exact px_sub cmp rfl
      refine px_iload dX5_isEdge_5 rfl ?_
      refine px_iload_n dX5_isEdge_7 rfl ?_
      refine pn_if_eq (tgt := 18) dX5_isEdge_8 (by decide) (pn_z (by omega)) (fun g3 => ?_) (fun g3 => ?_)
      · exact absurd g3 (by decide)
      · refine px_aload_n dX5_isEdge_11 rfl trivial ?_
        refine mm_gets dX5_isEdge_12 F_RX5_116 (by decide) (by (try simp only [mr_In, mr_Ie, mr_A1, mr_D1, mr_R1, mr_T1, ne_eq, Nat.reduceEqDiff, not_false_eq_true]); rfl) ?_
        refine px_goto (tgt := 22) dX5_isEdge_15 (by decide) ?_
        exact px_sub cont rfl
  refine px_iconst (v := nI 0) dX5_isEdge_0 (by decide) ?_
  refine px_istore_n dX5_isEdge_1 (by decide) ?_
  refine px_iconst (v := nI 0) dX5_isEdge_2 (by decide) ?_
  refine px_istore dX5_isEdge_3 (by decide) ?_
  exact px_sub (loop1 (s.1 9 + 1) 0 0 (by omega) (by omega) (by omega) ⟨fun z => by omega, fun ⟨k, z, _⟩ => by omega⟩) rfl
set_option maxRecDepth 100000 in
set_option maxHeartbeats 4000000 in
theorem me_isEdge0 (s : mm_S) (X : px_M) (ok : mm_ok s) (p : Nat) (hp : p < s.1 1) : px_Met 0 0 0 mX5_isEdge [.inr (1, 0), .inl (.int (nI p)), .inl (.int (nI 0))] (mm_M s X) (px_rt (some (.inl (.int (nI (px_ch (mm_out s p)))))) (mm_M s X)) := by
  have h1 := ok.1.1
  have h6 := ok.1.2.1
  have h9 := ok.1.2.2.1
  have h13 := ok.1.2.2.2.1
  have bp := ok.2.2.2.2.2.1 p hp
  refine px_ofW (by decide) W_mX5_isEdge (Nat.le_of_ble_eq_true rfl) ?_
  have loop2 : ∀ (u a w : Nat), a ≤ s.1 6 → s.1 6 < a + u → w ≤ 1 → (w = 1 ↔ (∃ k, k < s.1 13 ∧ s.2.1 10 k = p) ∨ ∃ a', a' < a ∧ s.2.1 3 a' = p ∧ s.2.1 2 (s.2.1 4 a') ≠ s.2.1 2 p) → px_W 0 0 0 mX5_isEdge (px_rt (some (.inl (.int (nI (px_ch (mm_out s p)))))) (mm_M s X)) 69 [(0, .inr (1, 0)), (1, .inl (.int (nI p))), (2, .inl (.int (nI 0))), (3, .inl (.int (nI w))), (4, .inl (.int (nI a)))] [] (mm_M s X) 0 0 := by
    intro u
    induction u with
    | zero => intro a w g1 g2; omega
    | succ u ih =>
      intro a w g1 g2 w1 hw
      refine px_iload dX5_isEdge_69 rfl ?_
      refine px_aload_n dX5_isEdge_71 rfl trivial ?_
      refine mm_gets dX5_isEdge_72 F_RX5_96 (by decide) (by (try simp only [mr_In, mr_Ie, mr_A1, mr_D1, mr_R1, mr_T1, ne_eq, Nat.reduceEqDiff, not_false_eq_true]); rfl) ?_
      refine pn_icmp_ge (tgt := 166) dX5_isEdge_75 (by decide) (nI_leI (by omega) (by omega)) (fun g3 => ?_) (fun g3 => ?_)
      · refine px_iload_n dX5_isEdge_166 rfl ?_
        refine px_zret dX5_isEdge_167 rfl (by rcases (show w = 0 ∨ w = 1 by omega) with rfl | rfl <;> rfl) ⟨?_, rfl⟩ (by omega) (by omega)
        rw [px_ch_of w1 (show w = 1 ↔ mm_out s p from hw.trans (by rw [show a = s.1 6 by omega]; exact Iff.rfl))]
      · obtain ⟨b1, b2, -, -⟩ := ok.2.1 a (by omega)
        have b3 := ok.2.2.2.2.2.1 (s.2.1 3 a) b1
        have b4 := ok.2.2.2.2.2.1 (s.2.1 4 a) b2
        have go : ∀ w', w' ≤ 1 → (w' = 1 ↔ w = 1 ∨ (s.2.1 3 a = p ∧ s.2.1 2 (s.2.1 4 a) ≠ s.2.1 2 p)) → px_W 0 0 0 mX5_isEdge (px_rt (some (.inl (.int (nI (px_ch (mm_out s p)))))) (mm_M s X)) 159 [(0, .inr (1, 0)), (1, .inl (.int (nI p))), (2, .inl (.int (nI 0))), (4, .inl (.int (nI a)))] [.inl (.int (nI w'))] (mm_M s X) 0 0 := by
          intro w' w1' hw'
          refine px_istore_n dX5_isEdge_159 (by decide) ?_
          refine px_iinc dX5_isEdge_160 rfl (pn_i1 _) (by decide) ?_
          refine px_goto (tgt := 69) dX5_isEdge_163 (by decide) ?_
          refine px_sub (ih (a + 1) w' (by omega) (by omega) w1' ?_) rfl
          rw [hw', hw]
          constructor
          · rintro ((h | ⟨a', h, h'⟩) | h)
            · exact Or.inl h
            · exact Or.inr ⟨a', by omega, h'⟩
            · exact Or.inr ⟨a, by omega, h⟩
          · rintro (h | ⟨a', h, h'⟩)
            · exact Or.inl (Or.inl h)
            · by_cases e : a' = a
              · exact Or.inr (e ▸ h')
              · exact Or.inl (Or.inr ⟨a', by omega, h'⟩)
        have yes : (w = 1 ∨ (s.2.1 3 a = p ∧ s.2.1 2 (s.2.1 4 a) ≠ s.2.1 2 p)) → px_W 0 0 0 mX5_isEdge (px_rt (some (.inl (.int (nI (px_ch (mm_out s p)))))) (mm_M s X)) 154 [(0, .inr (1, 0)), (1, .inl (.int (nI p))), (2, .inl (.int (nI 0))), (4, .inl (.int (nI a)))] [] (mm_M s X) 0 0 := by
          intro h
          refine px_iconst (v := nI 1) dX5_isEdge_154 (by decide) ?_
          refine px_goto (tgt := 159) dX5_isEdge_155 (by decide) ?_
          exact px_sub (go 1 (by decide) ⟨fun _ => h, fun _ => rfl⟩) rfl
        have no : ¬ (w = 1 ∨ (s.2.1 3 a = p ∧ s.2.1 2 (s.2.1 4 a) ≠ s.2.1 2 p)) → px_W 0 0 0 mX5_isEdge (px_rt (some (.inl (.int (nI (px_ch (mm_out s p)))))) (mm_M s X)) 158 [(0, .inr (1, 0)), (1, .inl (.int (nI p))), (2, .inl (.int (nI 0))), (4, .inl (.int (nI a)))] [] (mm_M s X) 0 0 := by
          intro h
          refine px_iconst (v := nI 0) dX5_isEdge_158 (by decide) ?_
          exact px_sub (go 0 (by decide) ⟨fun z => by omega, fun z => (h z).elim⟩) rfl
        refine px_iload_n dX5_isEdge_78 rfl ?_
        refine pn_if_ne (tgt := 154) dX5_isEdge_79 (by decide) (pn_z (by omega)) (fun k1 => ?_) (fun k1 => ?_)
        · exact px_sub (yes (Or.inl (by omega))) rfl
        · refine px_iload_n dX5_isEdge_82 rfl ?_
          refine pn_if_eq (tgt := 118) dX5_isEdge_83 (by decide) (pn_z (by omega)) (fun k2 => ?_) (fun k2 => ?_)
          · refine px_iload_n dX5_isEdge_118 rfl ?_
            refine pn_if_ne (tgt := 158) dX5_isEdge_119 (by decide) (pn_z (by omega)) (fun k4 => ?_) (fun k4 => ?_)
            · exact absurd rfl k4
            · refine px_aload_n dX5_isEdge_122 rfl trivial ?_
              refine mm_get dX5_isEdge_123 F_RX5_13 rfl ?_
              refine px_iload dX5_isEdge_126 rfl ?_
              refine mm_ald dX5_isEdge_128 rfl (by first | rfl | assumption) (by (try simp only [mr_I2, mr_An, mr_Ae, mr_D2, mr_Rn, mr_Re, mr_T2, ne_eq, Nat.reduceEqDiff, not_false_eq_true]); rfl) (by first | assumption | omega) ?_
              refine px_iload_n dX5_isEdge_129 rfl ?_
              refine pn_icmp_ne (tgt := 158) dX5_isEdge_130 (by decide) (nI_eq (by omega) (by omega)) (fun k3 => ?_) (fun k3 => ?_)
              · exact px_sub (no (fun z => z.elim (fun z => by omega) fun z => k3 z.1)) rfl
              · refine px_aload_n dX5_isEdge_133 rfl trivial ?_
                refine mm_get dX5_isEdge_134 F_RX5_7 rfl ?_
                refine px_aload_n dX5_isEdge_137 rfl trivial ?_
                refine mm_get dX5_isEdge_138 F_RX5_16 rfl ?_
                refine px_iload dX5_isEdge_141 rfl ?_
                refine mm_ald dX5_isEdge_143 rfl (by first | rfl | assumption) (by (try simp only [mr_I2, mr_An, mr_Ae, mr_D2, mr_Rn, mr_Re, mr_T2, ne_eq, Nat.reduceEqDiff, not_false_eq_true]); rfl) (by first | assumption | omega) ?_
                refine mm_ald_o dX5_isEdge_144 rfl (by first | rfl | assumption) (by (try simp only [mr_I2, mr_An, mr_Ae, mr_D2, mr_Rn, mr_Re, mr_T2, ne_eq, Nat.reduceEqDiff, not_false_eq_true]); rfl) (by first | assumption | omega) ?_
                refine px_aload_n dX5_isEdge_145 rfl trivial ?_
                refine mm_get dX5_isEdge_146 F_RX5_7 rfl ?_
                refine px_iload_n dX5_isEdge_149 rfl ?_
                refine mm_ald_o dX5_isEdge_150 rfl (by first | rfl | assumption) (by (try simp only [mr_I2, mr_An, mr_Ae, mr_D2, mr_Rn, mr_Re, mr_T2, ne_eq, Nat.reduceEqDiff, not_false_eq_true]); rfl) (by first | assumption | omega) ?_
                refine pn_icmp_eq (tgt := 158) dX5_isEdge_151 (by decide) (px_o_eq (by omega) (by omega)) (fun k4 => ?_) (fun k4 => ?_)
                · exact px_sub (no (fun z => z.elim (fun z => by omega) fun z => z.2 k4)) rfl
                · exact px_sub (yes (Or.inr ⟨k3, k4⟩)) rfl
          · exact absurd rfl k2
  have loop1 : ∀ (u k w : Nat), k ≤ s.1 13 → s.1 13 < k + u → w ≤ 1 → (w = 1 ↔ ∃ k', k' < k ∧ s.2.1 10 k' = p) → px_W 0 0 0 mX5_isEdge (px_rt (some (.inl (.int (nI (px_ch (mm_out s p)))))) (mm_M s X)) 5 [(0, .inr (1, 0)), (1, .inl (.int (nI p))), (2, .inl (.int (nI 0))), (3, .inl (.int (nI w))), (4, .inl (.int (nI k)))] [] (mm_M s X) 0 0 := by
    intro u
    induction u with
    | zero => intro k w g1 g2; omega
    | succ u ih =>
      intro k w g1 g2 w1 hw
      have cont : px_W 0 0 0 mX5_isEdge (px_rt (some (.inl (.int (nI (px_ch (mm_out s p)))))) (mm_M s X)) 22 [(0, .inr (1, 0)), (1, .inl (.int (nI p))), (2, .inl (.int (nI 0))), (3, .inl (.int (nI w))), (4, .inl (.int (nI k)))] [.inl (.int (nI (s.1 13))), .inl (.int (nI k))] (mm_M s X) 0 0 := by
        refine pn_icmp_ge (tgt := 66) dX5_isEdge_22 (by decide) (nI_leI (by omega) (by omega)) (fun g3 => ?_) (fun g3 => ?_)
        · refine px_iconst (v := nI 0) dX5_isEdge_66 (by decide) ?_
          refine px_istore dX5_isEdge_67 (by decide) ?_
          refine px_sub (loop2 (s.1 6 + 1) 0 w (by omega) (by omega) w1 ?_) rfl
          rw [hw, show k = s.1 13 by omega]
          exact ⟨fun h => Or.inl h, fun h => h.elim id fun ⟨a', z, _⟩ => by omega⟩
        · have go : ∀ w', w' ≤ 1 → (w' = 1 ↔ w = 1 ∨ s.2.1 10 k = p) → px_W 0 0 0 mX5_isEdge (px_rt (some (.inl (.int (nI (px_ch (mm_out s p)))))) (mm_M s X)) 59 [(0, .inr (1, 0)), (1, .inl (.int (nI p))), (2, .inl (.int (nI 0))), (4, .inl (.int (nI k)))] [.inl (.int (nI w'))] (mm_M s X) 0 0 := by
            intro w' w1' hw'
            refine px_istore_n dX5_isEdge_59 (by decide) ?_
            refine px_iinc dX5_isEdge_60 rfl (pn_i1 _) (by decide) ?_
            refine px_goto (tgt := 5) dX5_isEdge_63 (by decide) ?_
            refine px_sub (ih (k + 1) w' (by omega) (by omega) w1' ?_) rfl
            rw [hw', hw]
            constructor
            · rintro (⟨k', h, h'⟩ | h)
              · exact ⟨k', by omega, h'⟩
              · exact ⟨k, by omega, h⟩
            · rintro ⟨k', h, h'⟩
              by_cases e : k' = k
              · exact Or.inr (e ▸ h')
              · exact Or.inl ⟨k', by omega, h'⟩
          refine px_iload_n dX5_isEdge_25 rfl ?_
          refine pn_if_ne (tgt := 54) dX5_isEdge_26 (by decide) (pn_z (by omega)) (fun k1 => ?_) (fun k1 => ?_)
          · refine px_iconst (v := nI 1) dX5_isEdge_54 (by decide) ?_
            refine px_goto (tgt := 59) dX5_isEdge_55 (by decide) ?_
            exact px_sub (go 1 (by decide) ⟨fun _ => Or.inl (by omega), fun _ => rfl⟩) rfl
          · have b1 := (ok.2.2.2.1 k (by omega)).1
            have cmp : px_W 0 0 0 mX5_isEdge (px_rt (some (.inl (.int (nI (px_ch (mm_out s p)))))) (mm_M s X)) 50 [(0, .inr (1, 0)), (1, .inl (.int (nI p))), (2, .inl (.int (nI 0))), (4, .inl (.int (nI k)))] [.inl (.int (nI (s.2.1 10 k)))] (mm_M s X) 0 0 := by
              refine px_iload_n dX5_isEdge_50 rfl ?_
              refine pn_icmp_ne (tgt := 58) dX5_isEdge_51 (by decide) (nI_eq (by omega) (by omega)) (fun k2 => ?_) (fun k2 => ?_)
              · refine px_iconst (v := nI 0) dX5_isEdge_58 (by decide) ?_
                exact px_sub (go 0 (by decide) ⟨fun z => by omega, fun z => z.elim (fun z => by omega) fun z => (k2 z).elim⟩) rfl
              · refine px_iconst (v := nI 1) dX5_isEdge_54 (by decide) ?_
                refine px_goto (tgt := 59) dX5_isEdge_55 (by decide) ?_
                exact px_sub (go 1 (by decide) ⟨fun _ => Or.inr k2, fun _ => rfl⟩) rfl
            refine px_iload_n dX5_isEdge_29 rfl ?_
            refine pn_if_eq (tgt := 43) dX5_isEdge_30 (by decide) (pn_z (by omega)) (fun k2 => ?_) (fun k2 => ?_)
            · refine px_aload_n dX5_isEdge_43 rfl trivial ?_
              refine mm_get dX5_isEdge_44 F_RX5_29 rfl ?_
              refine px_iload dX5_isEdge_47 rfl ?_
              refine mm_ald dX5_isEdge_49 rfl (by first | rfl | assumption) (by (try simp only [mr_I2, mr_An, mr_Ae, mr_D2, mr_Rn, mr_Re, mr_T2, ne_eq, Nat.reduceEqDiff, not_false_eq_true]); rfl) (by first | assumption | omega) ?_
              exact px_sub cmp rfl
            · exact absurd rfl k2
      refine px_iload dX5_isEdge_5 rfl ?_
      refine px_iload_n dX5_isEdge_7 rfl ?_
      refine pn_if_eq (tgt := 18) dX5_isEdge_8 (by decide) (pn_z (by omega)) (fun g3 => ?_) (fun g3 => ?_)
      · refine px_aload_n dX5_isEdge_18 rfl trivial ?_
        refine mm_gets dX5_isEdge_19 F_RX5_111 (by decide) (by (try simp only [mr_In, mr_Ie, mr_A1, mr_D1, mr_R1, mr_T1, ne_eq, Nat.reduceEqDiff, not_false_eq_true]); rfl) ?_
        exact px_sub cont rfl
      · exact absurd rfl g3
  refine px_iconst (v := nI 0) dX5_isEdge_0 (by decide) ?_
  refine px_istore_n dX5_isEdge_1 (by decide) ?_
  refine px_iconst (v := nI 0) dX5_isEdge_2 (by decide) ?_
  refine px_istore dX5_isEdge_3 (by decide) ?_
  exact px_sub (loop1 (s.1 13 + 1) 0 0 (by omega) (by omega) (by omega) ⟨fun z => by omega, fun ⟨k, z, _⟩ => by omega⟩) rfl
