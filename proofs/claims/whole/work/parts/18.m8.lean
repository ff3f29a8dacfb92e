/-! ===== walks of arcs, all or inside a block; what spread marks ===== -/
def mm_in (s : mm_S) (b a : Nat) : Prop := b = 0 ∨ s.2.1 2 (s.2.1 3 a) = b ∧ s.2.1 2 (s.2.1 4 a) = b
def mm_wk (s : mm_S) (b : Nat) : Nat → List Nat → Nat → Prop
  | p, [], q => p = q
  | p, a :: as, q => a < s.1 6 ∧ mm_in s b a ∧ s.2.1 3 a = p ∧ mm_wk s b (s.2.1 4 a) as q
def mm_rch (s : mm_S) (b p q : Nat) : Prop := ∃ as, mm_wk s b p as q
theorem mm_wk_ap {s : mm_S} {b : Nat} : ∀ {as bs : List Nat} {p q r : Nat}, mm_wk s b p as q → mm_wk s b q bs r → mm_wk s b p (as ++ bs) r := by
  intro as
  induction as with
  | nil => intro bs p q r h g; cases h; exact g
  | cons a as ih => intro bs p q r h g; exact ⟨h.1, h.2.1, h.2.2.1, ih h.2.2.2 g⟩
theorem mm_rch.ext {s : mm_S} {b p a : Nat} (h : mm_rch s b p (s.2.1 3 a)) (ha : a < s.1 6) (hi : mm_in s b a) : mm_rch s b p (s.2.1 4 a) := by
  obtain ⟨as, h⟩ := h
  exact ⟨as ++ [a], mm_wk_ap h ⟨ha, hi, rfl, rfl⟩⟩
theorem mm_closed {s : mm_S} {b : Nat} {P : Nat → Prop} (hc : ∀ a, a < s.1 6 → mm_in s b a → P (s.2.1 3 a) → P (s.2.1 4 a)) : ∀ {as : List Nat} {p q : Nat}, P p → mm_wk s b p as q → P q := by
  intro as
  induction as with
  | nil => intro p q h g; cases g; exact h
  | cons a as ih => intro p q h g; exact ih (hc a g.1 g.2.1 (g.2.2.1 ▸ h)) g.2.2.2
theorem px_cnt_same {f f' : Nat → Nat} {g : Nat} : ∀ {k : Nat}, (∀ i, i < k → f i = f' i) → px_cnt f g k = px_cnt f' g k := by
  intro k
  induction k with
  | zero => intro _; rfl
  | succ k ih =>
    intro h
    show px_cnt f g k + _ = px_cnt f' g k + _
    rw [ih fun i hi => h i (by omega), h k (by omega)]
theorem px_cnt_up {f : Nat → Nat} {q : Nat} (hq : f q = 0) : ∀ {k : Nat}, q < k → px_cnt (px_upN f q 1) 0 k + 1 = px_cnt f 0 k := by
  intro k
  induction k with
  | zero => intro h; omega
  | succ k ih =>
    intro h
    show px_cnt (px_upN f q 1) 0 k + (if px_upN f q 1 k = 0 then 1 else 0) + 1 = px_cnt f 0 k + (if f k = 0 then 1 else 0)
    by_cases e : k = q
    · subst e
      rw [if_neg (show ¬ px_upN f k 1 k = 0 by unfold px_upN; rw [if_pos rfl]; decide), if_pos hq, px_cnt_same (f := px_upN f k 1) (f' := f) (fun i hi => if_neg (show ¬ i = k by omega))]
    · rw [show px_upN f q 1 k = f k from if_neg e]
      have := ih (by omega)
      omega
def mm_spr (s : mm_S) (X : px_M) (p b : Nat) : px_Q := fun o M' => o = .inl none ∧ ∃ f : Nat → Nat, M' = mm_M (mm_R s 26 f) X ∧ ∀ q, q < 60 → f q ≤ 1 ∧ (f q = 1 ↔ mm_rch s b p q)
set_option maxRecDepth 100000 in
set_option maxHeartbeats 4000000 in
theorem me_spread_l (s : mm_S) (X : px_M) (ok : mm_ok s) (p b : Nat) (hp : p < 60) (hb : b ≤ 60) : ∀ (N : Nat) (f : Nat → Nat), px_cnt f 0 60 < N → f p = 1 → (∀ q, q < 60 → f q ≤ 1 ∧ (f q = 1 → mm_rch s b p q)) →
    px_W 0 0 0 mX5_spread (mm_spr s X p b) 36 [(0, .inr (1, 0)), (2, .inl (.int (px_o b)))] [] (mm_M (mm_R s 26 f) X) 0 0 := by
  have h6 := ok.1.2.1
  have h1 := ok.1.1
  intro N
  induction N with
  | zero => intro f h; omega
  | succ N ihN =>
    intro f hN fp hf
    have loop : ∀ (u a y : Nat) (f' : Nat → Nat), a ≤ s.1 6 → s.1 6 < a + u → f' p = 1 → (∀ q, q < 60 → f' q ≤ 1 ∧ (f' q = 1 → mm_rch s b p q)) →
        ((y = 0 ∧ px_cnt f' 0 60 = px_cnt f 0 60 ∧ ∀ a', a' < a → mm_in s b a' → f' (s.2.1 3 a') = 1 → f' (s.2.1 4 a') = 1) ∨ (y = 1 ∧ px_cnt f' 0 60 < px_cnt f 0 60)) →
        px_W 0 0 0 mX5_spread (mm_spr s X p b) 41 [(0, .inr (1, 0)), (2, .inl (.int (px_o b))), (3, .inl (.int (nI y))), (4, .inl (.int (nI a)))] [] (mm_M (mm_R s 26 f') X) 0 0 := by
      intro u
      induction u with
      | zero => intro a y f' g1 g2; omega
      | succ u ihu =>
        intro a y f' g1 g2 fp' hf' hy
        refine px_iload dX5_spread_41 rfl ?_
        refine px_aload_n dX5_spread_43 rfl trivial ?_
        refine mm_gets dX5_spread_44 F_RX5_96 (by decide) (by (try simp only [mr_In, mr_Ie, mr_A1, mr_D1, mr_R1, mr_T1, ne_eq, Nat.reduceEqDiff, not_false_eq_true]); rfl) ?_
        refine pn_icmp_ge (tgt := 150) dX5_spread_47 (by decide) (nI_leI (by omega) (by omega)) (fun g3 => ?_) (fun g3 => ?_)
        · have y1 : y ≤ 1 := by rcases hy with ⟨z, -⟩ | ⟨z, -⟩ <;> omega
          refine px_goto (tgt := 32) dX5_spread_150 (by decide) ?_
          refine px_iload_n dX5_spread_32 rfl ?_
          refine pn_if_eq (tgt := 153) dX5_spread_33 (by decide) (pn_z (by omega)) (fun g4 => ?_) (fun g4 => ?_)
          · refine px_vret dX5_spread_153 rfl ⟨rfl, f', rfl, fun q hq => ⟨(hf' q hq).1, (hf' q hq).2, ?_⟩⟩ (by omega) (by omega)
            rcases hy with ⟨-, -, hc⟩ | ⟨hy, -⟩
            · rintro ⟨as, hw⟩
              exact mm_closed (P := fun q => f' q = 1) (fun a' ha hi h => hc a' (by have : s.1 6 ≤ a := g3; omega) hi h) fp' hw
            · omega
          · refine px_sub (ihN f' ?_ fp' hf') rfl
            rcases hy with ⟨hy, -⟩ | ⟨-, hy⟩
            · exact absurd hy g4
            · omega
        · have g3' : a < s.1 6 := by have : ¬ s.1 6 ≤ a := g3; omega
          obtain ⟨b1, b2, -, -⟩ := ok.2.1 a g3'
          have go : ∀ y' f'', f'' p = 1 → (∀ q, q < 60 → f'' q ≤ 1 ∧ (f'' q = 1 → mm_rch s b p q)) → ((y' = 0 ∧ px_cnt f'' 0 60 = px_cnt f 0 60 ∧ ∀ a', a' < a + 1 → mm_in s b a' → f'' (s.2.1 3 a') = 1 → f'' (s.2.1 4 a') = 1) ∨ (y' = 1 ∧ px_cnt f'' 0 60 < px_cnt f 0 60)) → ∀ z, px_W 0 0 0 mX5_spread (mm_spr s X p b) 144 [(0, .inr (1, 0)), (2, .inl (.int (px_o b))), (3, .inl (.int (nI y'))), (4, .inl (.int (nI a))), (5, z)] [] (mm_M (mm_R s 26 f'') X) 0 0 := by
            intro y' f'' k1 k2 k3 z
            refine px_iinc dX5_spread_144 rfl (pn_i1 _) (by decide) ?_
            refine px_goto (tgt := 41) dX5_spread_147 (by decide) ?_
            exact px_sub (ihu (a + 1) y' f'' (by omega) (by omega) k1 k2 k3) rfl
          have skip : ¬ (mm_in s b a ∧ f' (s.2.1 3 a) = 1 ∧ f' (s.2.1 4 a) = 0) → ((y = 0 ∧ px_cnt f' 0 60 = px_cnt f 0 60 ∧ ∀ a', a' < a + 1 → mm_in s b a' → f' (s.2.1 3 a') = 1 → f' (s.2.1 4 a') = 1) ∨ (y = 1 ∧ px_cnt f' 0 60 < px_cnt f 0 60)) := by
            intro k
            rcases hy with ⟨hy, hn, hc⟩ | hy
            · refine Or.inl ⟨hy, hn, fun a' ha hi h => ?_⟩
              by_cases e : a' = a
              · subst e
                have := (hf' (s.2.1 4 a') (by omega)).1
                have k' : ¬ f' (s.2.1 4 a') = 0 := fun z => k ⟨hi, h, z⟩
                omega
              · exact hc a' (by omega) hi h
            · exact Or.inr hy
          have body : ∀ w, w ≤ 1 → (w = 1 ↔ mm_in s b a) → px_W 0 0 0 mX5_spread (mm_spr s X p b) 92 [(0, .inr (1, 0)), (2, .inl (.int (px_o b))), (3, .inl (.int (nI y))), (4, .inl (.int (nI a)))] [.inl (.int (nI w))] (mm_M (mm_R s 26 f') X) 0 0 := by
            intro w w1 hw
            refine px_istore dX5_spread_92 (by decide) ?_
            refine px_iload dX5_spread_94 rfl ?_
            refine pn_if_eq (tgt := 144) dX5_spread_96 (by decide) (pn_z (by omega)) (fun k1 => ?_) (fun k1 => ?_)
            · exact px_sub (go y f' fp' hf' (skip (fun z => by have := hw.mpr z.1; omega)) _) rfl
            · have hi : mm_in s b a := hw.mp (by omega)
              have k5 := (hf' (s.2.1 3 a) (by omega)).1
              have k6 := (hf' (s.2.1 4 a) (by omega)).1
              refine px_aload_n dX5_spread_99 rfl trivial ?_
              refine mm_get dX5_spread_100 F_RX5_65 rfl ?_
              refine px_aload_n dX5_spread_103 rfl trivial ?_
              refine mm_get dX5_spread_104 F_RX5_13 rfl ?_
              refine px_iload dX5_spread_107 rfl ?_
              refine mm_ald dX5_spread_109 rfl (by first | rfl | assumption) (by (try simp only [mr_I2, mr_An, mr_Ae, mr_D2, mr_Rn, mr_Re, mr_T2, ne_eq, Nat.reduceEqDiff, not_false_eq_true]); rfl) (by first | assumption | omega) ?_
              refine mm_ald_z dX5_spread_110 rfl (by first | rfl | assumption) (by (try simp only [mr_I2, mr_An, mr_Ae, mr_D2, mr_Rn, mr_Re, mr_T2, ne_eq, Nat.reduceEqDiff, not_false_eq_true]); rfl) (by first | assumption | omega) ?_
              refine pn_if_eq (tgt := 144) dX5_spread_111 (by decide) (pn_z (by omega)) (fun k2 => ?_) (fun k2 => ?_)
              · exact px_sub (go y f' fp' hf' (skip (fun z => by omega)) _) rfl
              · refine px_aload_n dX5_spread_114 rfl trivial ?_
                refine mm_get dX5_spread_115 F_RX5_65 rfl ?_
                refine px_aload_n dX5_spread_118 rfl trivial ?_
                refine mm_get dX5_spread_119 F_RX5_16 rfl ?_
                refine px_iload dX5_spread_122 rfl ?_
                refine mm_ald dX5_spread_124 rfl (by first | rfl | assumption) (by (try simp only [mr_I2, mr_An, mr_Ae, mr_D2, mr_Rn, mr_Re, mr_T2, ne_eq, Nat.reduceEqDiff, not_false_eq_true]); rfl) (by first | assumption | omega) ?_
                refine mm_ald_z dX5_spread_125 rfl (by first | rfl | assumption) (by (try simp only [mr_I2, mr_An, mr_Ae, mr_D2, mr_Rn, mr_Re, mr_T2, ne_eq, Nat.reduceEqDiff, not_false_eq_true]); rfl) (by first | assumption | omega) ?_
                refine pn_if_ne (tgt := 144) dX5_spread_126 (by decide) (pn_z (by omega)) (fun k3 => ?_) (fun k3 => ?_)
                · exact px_sub (go y f' fp' hf' (skip (fun z => k3 z.2.2)) _) rfl
                · have k2' : f' (s.2.1 3 a) = 1 := by omega
                  refine px_aload_n dX5_spread_129 rfl trivial ?_
                  refine mm_get dX5_spread_130 F_RX5_65 rfl ?_
                  refine px_aload_n dX5_spread_133 rfl trivial ?_
                  refine mm_get dX5_spread_134 F_RX5_16 rfl ?_
                  refine px_iload dX5_spread_137 rfl ?_
                  refine mm_ald dX5_spread_139 rfl (by first | rfl | assumption) (by (try simp only [mr_I2, mr_An, mr_Ae, mr_D2, mr_Rn, mr_Re, mr_T2, ne_eq, Nat.reduceEqDiff, not_false_eq_true]); rfl) (by first | assumption | omega) ?_
                  refine px_iconst (v := nI 1) dX5_spread_140 (by decide) ?_
                  refine mm_ast_z dX5_spread_141 rfl (by first | rfl | assumption) (by first | rfl | assumption) (by first | assumption | omega) (by omega) ?_
                  refine px_iconst (v := nI 1) dX5_spread_142 (by decide) ?_
                  refine px_istore_n dX5_spread_143 (by decide) ?_
                  rw [mr_RA]
                  refine px_sub (go 1 (px_upN f' (s.2.1 4 a) 1) ?_ ?_ (Or.inr ⟨rfl, ?_⟩) _) rfl
                  · unfold px_upN; split
                    · rfl
                    · exact fp'
                  · intro q hq
                    unfold px_upN
                    by_cases e : q = s.2.1 4 a
                    · rw [if_pos e]
                      exact ⟨Nat.le_refl _, fun _ => e ▸ ((hf' _ (by omega)).2 k2').ext g3' hi⟩
                    · rw [if_neg e]; exact hf' q hq
                  · have := px_cnt_up (f := f') (q := s.2.1 4 a) k3 (k := 60) (by omega)
                    rcases hy with ⟨-, hy, -⟩ | ⟨-, hy⟩ <;> omega
          have b3 := ok.2.2.2.2.2.1 (s.2.1 3 a) b1
          have b4 := ok.2.2.2.2.2.1 (s.2.1 4 a) b2
          refine px_iload_n dX5_spread_50 rfl ?_
          refine px_iconst (v := -1) dX5_spread_51 (by decide) ?_
          refine pn_icmp_eq (tgt := 87) dX5_spread_52 (by decide) (px_o_no (by omega)) (fun k1 => ?_) (fun k1 => ?_)
          · refine px_iconst (v := nI 1) dX5_spread_87 (by decide) ?_
            refine px_goto (tgt := 92) dX5_spread_88 (by decide) ?_
            exact px_sub (body 1 (by decide) ⟨fun _ => Or.inl k1, fun _ => rfl⟩) rfl
          · refine px_aload_n dX5_spread_55 rfl trivial ?_
            refine mm_get dX5_spread_56 F_RX5_7 rfl ?_
            refine px_aload_n dX5_spread_59 rfl trivial ?_
            refine mm_get dX5_spread_60 F_RX5_13 rfl ?_
            refine px_iload dX5_spread_63 rfl ?_
            refine mm_ald dX5_spread_65 rfl (by first | rfl | assumption) (by (try simp only [mr_I2, mr_An, mr_Ae, mr_D2, mr_Rn, mr_Re, mr_T2, ne_eq, Nat.reduceEqDiff, not_false_eq_true]); rfl) (by first | assumption | omega) ?_
            refine mm_ald_o dX5_spread_66 rfl (by first | rfl | assumption) (by (try simp only [mr_I2, mr_An, mr_Ae, mr_D2, mr_Rn, mr_Re, mr_T2, ne_eq, Nat.reduceEqDiff, not_false_eq_true]); rfl) (by first | assumption | omega) ?_
            refine px_iload_n dX5_spread_67 rfl ?_
            refine pn_icmp_ne (tgt := 91) dX5_spread_68 (by decide) (px_o_eq (by omega) (by omega)) (fun k2 => ?_) (fun k2 => ?_)
            · refine px_iconst (v := nI 0) dX5_spread_91 (by decide) ?_
              exact px_sub (body 0 (by decide) ⟨fun z => by omega, fun z => (z.elim k1 (fun z => k2 z.1)).elim⟩) rfl
            · refine px_aload_n dX5_spread_71 rfl trivial ?_
              refine mm_get dX5_spread_72 F_RX5_7 rfl ?_
              refine px_aload_n dX5_spread_75 rfl trivial ?_
              refine mm_get dX5_spread_76 F_RX5_16 rfl ?_
              refine px_iload dX5_spread_79 rfl ?_
              refine mm_ald dX5_spread_81 rfl (by first | rfl | assumption) (by (try simp only [mr_I2, mr_An, mr_Ae, mr_D2, mr_Rn, mr_Re, mr_T2, ne_eq, Nat.reduceEqDiff, not_false_eq_true]); rfl) (by first | assumption | omega) ?_
              refine mm_ald_o dX5_spread_82 rfl (by first | rfl | assumption) (by (try simp only [mr_I2, mr_An, mr_Ae, mr_D2, mr_Rn, mr_Re, mr_T2, ne_eq, Nat.reduceEqDiff, not_false_eq_true]); rfl) (by first | assumption | omega) ?_
              refine px_iload_n dX5_spread_83 rfl ?_
              refine pn_icmp_ne (tgt := 91) dX5_spread_84 (by decide) (px_o_eq (by omega) (by omega)) (fun k3 => ?_) (fun k3 => ?_)
              · refine px_iconst (v := nI 0) dX5_spread_91 (by decide) ?_
                exact px_sub (body 0 (by decide) ⟨fun z => by omega, fun z => (z.elim k1 (fun z => k3 z.2)).elim⟩) rfl
              · refine px_iconst (v := nI 1) dX5_spread_87 (by decide) ?_
                refine px_goto (tgt := 92) dX5_spread_88 (by decide) ?_
                exact px_sub (body 1 (by decide) ⟨fun _ => Or.inr ⟨k2, k3⟩, fun _ => rfl⟩) rfl
    refine px_iconst (v := nI 0) dX5_spread_36 (by decide) ?_
    refine px_istore_n dX5_spread_37 (by decide) ?_
    refine px_iconst (v := nI 0) dX5_spread_38 (by decide) ?_
    refine px_istore dX5_spread_39 (by decide) ?_
    exact px_sub (loop (s.1 6 + 1) 0 0 f (by omega) (by omega) fp hf (Or.inl ⟨rfl, rfl, fun a' ha => by omega⟩)) rfl
