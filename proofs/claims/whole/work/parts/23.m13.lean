/-! ===== reduced ===== -/
def mm_mu (g : Nat → Int) : Nat := px_sum (fun i => (1258291200 - g i).toNat) 60
theorem mm_in_b {s : mm_S} {b a : Nat} (hb : b ≠ 0) : mm_in s b a ↔ s.2.1 2 (s.2.1 3 a) = b ∧ s.2.1 2 (s.2.1 4 a) = b := ⟨fun h => h.resolve_left hb, Or.inr⟩
set_option maxRecDepth 100000 in
set_option maxHeartbeats 4000000 in
theorem me_reduced_l (s : mm_S) (X : px_M) (ok : mm_ok s) (x : Int32) (hx : px_ix x 8) (p q : Nat) (hp : p < s.1 1) (hq : q < s.1 1) (Q : px_Q) (hr : mm_rch s (px_oc x) p q) (hQ : ∀ g : Nat → Int, mm_gr s (px_oc x) p q (g q) → Q (.inl (some (.inl (.double (dz (g q)))))) (mm_M (mm_T s 30 g) X)) :
    ∀ (N : Nat) (g : Nat → Int), mm_mu g < N → mm_gi s (px_oc x) p g → px_W 2 0 0 mX5_reduced Q 102 [(0, .inr (1, 0)), (1, .inl (.int x)), (3, .inl (.int (nI q)))] [] (mm_M (mm_T s 30 g) X) 0 0 := by
  have h6 := ok.1.2.1
  have h1 := ok.1.1
  have b0 : px_oc x ≠ 0 := by
    have e : x ≠ -1 := fun e => by rw [e] at hx; exact absurd hx.1 (by decide)
    unfold px_oc
    rw [if_neg e]
    omega
  intro N
  induction N with
  | zero => intro g h; omega
  | succ N ihN =>
    intro g hN hg
    have loop : ∀ (u a y : Nat) (g' : Nat → Int), a ≤ s.1 6 → s.1 6 < a + u → mm_gi s (px_oc x) p g' →
        ((y = 0 ∧ mm_mu g' = mm_mu g ∧ ∀ a', a' < a → mm_in s (px_oc x) a' → 0 ≤ g' (s.2.1 3 a') → g' (s.2.1 3 a') + s.2.2 5 a' ≤ g' (s.2.1 4 a')) ∨ (y = 1 ∧ mm_mu g' < mm_mu g)) →
        px_W 2 0 0 mX5_reduced Q 108 [(0, .inr (1, 0)), (1, .inl (.int x)), (3, .inl (.int (nI q))), (4, .inl (.int (nI y))), (5, .inl (.int (nI a)))] [] (mm_M (mm_T s 30 g') X) 0 0 := by
      intro u
      induction u with
      | zero => intro a y g' g1 g2; omega
      | succ u ihu =>
        intro a y g' g1 g2 hg' hy
        refine px_iload dX5_reduced_108 rfl ?_
        refine px_aload_n dX5_reduced_110 rfl trivial ?_
        refine mm_gets dX5_reduced_111 F_RX5_96 (by decide) (by (try simp only [mr_In, mr_Ie, mr_A1, mr_D1, mr_R1, mr_T1, ne_eq, Nat.reduceEqDiff, not_false_eq_true]); rfl) ?_
        refine pn_icmp_ge (tgt := 255) dX5_reduced_114 (by decide) (nI_leI (by omega) (by omega)) (fun g3 => ?_) (fun g3 => ?_)
        · have y1 : y ≤ 1 := by rcases hy with ⟨z, -⟩ | ⟨z, -⟩ <;> omega
          refine px_goto (tgt := 97) dX5_reduced_255 (by decide) ?_
          refine px_iload dX5_reduced_97 rfl ?_
          refine pn_if_eq (tgt := 258) dX5_reduced_99 (by decide) (pn_z (by omega)) (fun g4 => ?_) (fun g4 => ?_)
          · refine px_aload_n dX5_reduced_258 rfl trivial ?_
            refine mm_get dX5_reduced_259 F_RX5_78 rfl ?_
            refine px_iload_n dX5_reduced_262 rfl ?_
            refine mm_ald_d dX5_reduced_263 rfl (by first | rfl | assumption) (by (try simp only [mr_I3, mr_A3, mr_Dn, mr_De, mr_R3, mr_Tn, mr_Te, ne_eq, Nat.reduceEqDiff, not_false_eq_true]); rfl) (by first | assumption | omega) ?_
            refine px_dret dX5_reduced_264 rfl (hQ g' ?_) (by omega) (by omega)
            rcases hy with ⟨-, -, hc⟩ | ⟨hy, -⟩
            · exact hg'.fin (fun a' ha hi h => hc a' (by have : s.1 6 ≤ a := g3; omega) hi h) ok (by omega) hr
            · omega
          · refine px_sub (ihN g' ?_ hg') rfl
            rcases hy with ⟨hy, -⟩ | ⟨-, hy⟩
            · exact absurd hy g4
            · omega
        · have g3' : a < s.1 6 := by have : ¬ s.1 6 ≤ a := g3; omega
          obtain ⟨b1, b2, b3, b4⟩ := ok.2.1 a g3'
          have k5 := hg'.bd ok (q := s.2.1 3 a) (by omega)
          have k6 := hg'.bd ok (q := s.2.1 4 a) (by omega)
          have c3 := ok.2.2.2.2.2.1 (s.2.1 3 a) b1
          have c4 := ok.2.2.2.2.2.1 (s.2.1 4 a) b2
          have go : ∀ y' g'', mm_gi s (px_oc x) p g'' → ((y' = 0 ∧ mm_mu g'' = mm_mu g ∧ ∀ a', a' < a + 1 → mm_in s (px_oc x) a' → 0 ≤ g'' (s.2.1 3 a') → g'' (s.2.1 3 a') + s.2.2 5 a' ≤ g'' (s.2.1 4 a')) ∨ (y' = 1 ∧ mm_mu g'' < mm_mu g)) → px_W 2 0 0 mX5_reduced Q 249 [(0, .inr (1, 0)), (1, .inl (.int x)), (3, .inl (.int (nI q))), (4, .inl (.int (nI y'))), (5, .inl (.int (nI a)))] [] (mm_M (mm_T s 30 g'') X) 0 0 := by
            intro y' g'' k2 k3
            refine px_iinc dX5_reduced_249 rfl (pn_i1 _) (by decide) ?_
            refine px_goto (tgt := 108) dX5_reduced_252 (by decide) ?_
            exact px_sub (ihu (a + 1) y' g'' (by omega) (by omega) k2 k3) rfl
          have skip : ¬ (mm_in s (px_oc x) a ∧ 0 ≤ g' (s.2.1 3 a) ∧ g' (s.2.1 4 a) < g' (s.2.1 3 a) + s.2.2 5 a) → ((y = 0 ∧ mm_mu g' = mm_mu g ∧ ∀ a', a' < a + 1 → mm_in s (px_oc x) a' → 0 ≤ g' (s.2.1 3 a') → g' (s.2.1 3 a') + s.2.2 5 a' ≤ g' (s.2.1 4 a')) ∨ (y = 1 ∧ mm_mu g' < mm_mu g)) := by
            intro k
            rcases hy with ⟨hy, hn, hc⟩ | hy
            · refine Or.inl ⟨hy, hn, fun a' ha hi h => ?_⟩
              by_cases e : a' = a
              · subst e
                have k' : ¬ g' (s.2.1 4 a') < g' (s.2.1 3 a') + s.2.2 5 a' := fun z => k ⟨hi, h, z⟩
                omega
              · exact hc a' (by omega) hi h
            · exact Or.inr hy
          have body : ∀ w, w ≤ 1 → (w = 1 ↔ mm_in s (px_oc x) a) → px_W 2 0 0 mX5_reduced Q 154 [(0, .inr (1, 0)), (1, .inl (.int x)), (3, .inl (.int (nI q))), (4, .inl (.int (nI y))), (5, .inl (.int (nI a)))] [.inl (.int (nI w))] (mm_M (mm_T s 30 g') X) 0 0 := by
            intro w w1 hw
            refine px_istore dX5_reduced_154 (by decide) ?_
            refine px_iload dX5_reduced_156 rfl ?_
            refine pn_if_eq (tgt := 249) dX5_reduced_158 (by decide) (pn_z (by omega)) (fun k1 => ?_) (fun k1 => ?_)
            · exact px_sub (go y g' hg' (skip (fun z => by have := hw.mpr z.1; omega))) rfl
            · have hi : mm_in s (px_oc x) a := hw.mp (by omega)
              refine px_aload_n dX5_reduced_161 rfl trivial ?_
              refine mm_get dX5_reduced_162 F_RX5_78 rfl ?_
              refine px_aload_n dX5_reduced_165 rfl trivial ?_
              refine mm_get dX5_reduced_166 F_RX5_13 rfl ?_
              refine px_iload dX5_reduced_169 rfl ?_
              refine mm_ald dX5_reduced_171 rfl (by first | rfl | assumption) (by (try simp only [mr_I2, mr_An, mr_Ae, mr_D2, mr_Rn, mr_Re, mr_T2, ne_eq, Nat.reduceEqDiff, not_false_eq_true]); rfl) (by first | assumption | omega) ?_
              refine mm_ald_d dX5_reduced_172 rfl (by first | rfl | assumption) (by (try simp only [mr_I3, mr_A3, mr_Dn, mr_De, mr_R3, mr_Tn, mr_Te, ne_eq, Nat.reduceEqDiff, not_false_eq_true]); rfl) (by first | assumption | omega) ?_
              refine pn_dconst0 dX5_reduced_173 ?_
              refine pn_dcmp dX5_reduced_174 rfl rfl (by omega) (by omega) ?_
              refine pn_if_lt (tgt := 249) dX5_reduced_175 (by decide) (dz_c_lt _ _) (fun k2 => ?_) (fun k2 => ?_)
              · exact px_sub (go y g' hg' (skip (fun z => by omega))) rfl
              · refine px_aload_n dX5_reduced_178 rfl trivial ?_
                refine mm_get dX5_reduced_179 F_RX5_78 rfl ?_
                refine px_aload_n dX5_reduced_182 rfl trivial ?_
                refine mm_get dX5_reduced_183 F_RX5_13 rfl ?_
                refine px_iload dX5_reduced_186 rfl ?_
                refine mm_ald dX5_reduced_188 rfl (by first | rfl | assumption) (by (try simp only [mr_I2, mr_An, mr_Ae, mr_D2, mr_Rn, mr_Re, mr_T2, ne_eq, Nat.reduceEqDiff, not_false_eq_true]); rfl) (by first | assumption | omega) ?_
                refine mm_ald_d dX5_reduced_189 rfl (by first | rfl | assumption) (by (try simp only [mr_I3, mr_A3, mr_Dn, mr_De, mr_R3, mr_Tn, mr_Te, ne_eq, Nat.reduceEqDiff, not_false_eq_true]); rfl) (by first | assumption | omega) ?_
                refine px_aload_n dX5_reduced_190 rfl trivial ?_
                refine mm_get dX5_reduced_191 F_RX5_19 rfl ?_
                refine px_iload dX5_reduced_194 rfl ?_
                refine mm_ald_d dX5_reduced_196 rfl (by first | rfl | assumption) (by (try simp only [mr_I3, mr_A3, mr_Dn, mr_De, mr_R3, mr_Tn, mr_Te, ne_eq, Nat.reduceEqDiff, not_false_eq_true]); rfl) (by first | assumption | omega) ?_
                refine pn_dadd dX5_reduced_197 (by omega) (by omega) (by first | exact Int.add_zero _ | rfl) ?_
                refine px_aload_n dX5_reduced_198 rfl trivial ?_
                refine mm_get dX5_reduced_199 F_RX5_78 rfl ?_
                refine px_aload_n dX5_reduced_202 rfl trivial ?_
                refine mm_get dX5_reduced_203 F_RX5_16 rfl ?_
                refine px_iload dX5_reduced_206 rfl ?_
                refine mm_ald dX5_reduced_208 rfl (by first | rfl | assumption) (by (try simp only [mr_I2, mr_An, mr_Ae, mr_D2, mr_Rn, mr_Re, mr_T2, ne_eq, Nat.reduceEqDiff, not_false_eq_true]); rfl) (by first | assumption | omega) ?_
                refine mm_ald_d dX5_reduced_209 rfl (by first | rfl | assumption) (by (try simp only [mr_I3, mr_A3, mr_Dn, mr_De, mr_R3, mr_Tn, mr_Te, ne_eq, Nat.reduceEqDiff, not_false_eq_true]); rfl) (by first | assumption | omega) ?_
                refine pn_dcmp dX5_reduced_210 rfl rfl (by omega) (by omega) ?_
                refine pn_if_le (tgt := 249) dX5_reduced_211 (by decide) (dz_c_le _ _) (fun k3 => ?_) (fun k3 => ?_)
                · exact px_sub (go y g' hg' (skip (fun z => by omega))) rfl
                · refine px_aload_n dX5_reduced_214 rfl trivial ?_
                  refine mm_get dX5_reduced_215 F_RX5_78 rfl ?_
                  refine px_aload_n dX5_reduced_218 rfl trivial ?_
                  refine mm_get dX5_reduced_219 F_RX5_16 rfl ?_
                  refine px_iload dX5_reduced_222 rfl ?_
                  refine mm_ald dX5_reduced_224 rfl (by first | rfl | assumption) (by (try simp only [mr_I2, mr_An, mr_Ae, mr_D2, mr_Rn, mr_Re, mr_T2, ne_eq, Nat.reduceEqDiff, not_false_eq_true]); rfl) (by first | assumption | omega) ?_
                  refine px_aload_n dX5_reduced_225 rfl trivial ?_
                  refine mm_get dX5_reduced_226 F_RX5_78 rfl ?_
                  refine px_aload_n dX5_reduced_229 rfl trivial ?_
                  refine mm_get dX5_reduced_230 F_RX5_13 rfl ?_
                  refine px_iload dX5_reduced_233 rfl ?_
                  refine mm_ald dX5_reduced_235 rfl (by first | rfl | assumption) (by (try simp only [mr_I2, mr_An, mr_Ae, mr_D2, mr_Rn, mr_Re, mr_T2, ne_eq, Nat.reduceEqDiff, not_false_eq_true]); rfl) (by first | assumption | omega) ?_
                  refine mm_ald_d dX5_reduced_236 rfl (by first | rfl | assumption) (by (try simp only [mr_I3, mr_A3, mr_Dn, mr_De, mr_R3, mr_Tn, mr_Te, ne_eq, Nat.reduceEqDiff, not_false_eq_true]); rfl) (by first | assumption | omega) ?_
                  refine px_aload_n dX5_reduced_237 rfl trivial ?_
                  refine mm_get dX5_reduced_238 F_RX5_19 rfl ?_
                  refine px_iload dX5_reduced_241 rfl ?_
                  refine mm_ald_d dX5_reduced_243 rfl (by first | rfl | assumption) (by (try simp only [mr_I3, mr_A3, mr_Dn, mr_De, mr_R3, mr_Tn, mr_Te, ne_eq, Nat.reduceEqDiff, not_false_eq_true]); rfl) (by first | assumption | omega) ?_
                  refine pn_dadd dX5_reduced_244 (by omega) (by omega) (by first | exact Int.add_zero _ | rfl) ?_
                  refine mm_ast_d dX5_reduced_245 rfl (by first | rfl | assumption) (by first | rfl | assumption) (by first | assumption | omega) ?_
                  refine px_iconst (v := nI 1) dX5_reduced_246 (by decide) ?_
                  refine px_istore dX5_reduced_247 (by decide) ?_
                  rw [mr_TD]
                  have hd : ∀ i, i ≠ s.2.1 4 a → px_upN g' (s.2.1 4 a) (g' (s.2.1 3 a) + s.2.2 5 a) i = g' i := fun i hi => if_neg hi
                  have he : px_upN g' (s.2.1 4 a) (g' (s.2.1 3 a) + s.2.2 5 a) (s.2.1 4 a) = g' (s.2.1 3 a) + s.2.2 5 a := if_pos rfl
                  have hgn : mm_gi s (px_oc x) p (px_upN g' (s.2.1 4 a) (g' (s.2.1 3 a) + s.2.2 5 a)) := by
                    refine ⟨?_, fun r hr' => ?_⟩
                    · by_cases e : p = s.2.1 4 a
                      · rw [e, he]; omega
                      · rw [hd p e]; exact hg'.1
                    · by_cases e : r = s.2.1 4 a
                      · rw [e, he]
                        rcases hg'.2 (s.2.1 3 a) (by omega) with z | ⟨as, z1, z2⟩
                        · omega
                        · exact Or.inr ⟨as ++ [a], mm_wk_ap z1 ⟨g3', hi, rfl, rfl⟩, by rw [mm_ln_ap, z2]; show _ + (s.2.2 5 a + 0) = _; omega⟩
                      · rw [hd r e]; exact hg'.2 r hr'
                  refine px_sub (go 1 _ hgn (Or.inr ⟨rfl, ?_⟩)) rfl
                  have hb := hgn.bd ok (q := s.2.1 4 a) (by omega)
                  rw [he] at hb
                  have lt : mm_mu (px_upN g' (s.2.1 4 a) (g' (s.2.1 3 a) + s.2.2 5 a)) < mm_mu g' := by
                    refine px_sum_lt (q := s.2.1 4 a) (by omega) (fun i hi => by rw [hd i hi]) ?_
                    show (1258291200 - px_upN g' (s.2.1 4 a) (g' (s.2.1 3 a) + s.2.2 5 a) (s.2.1 4 a)).toNat < (1258291200 - g' (s.2.1 4 a)).toNat
                    rw [he]; omega
                  rcases hy with ⟨-, hy, -⟩ | ⟨-, hy⟩ <;> omega
          refine px_aload_n dX5_reduced_117 rfl trivial ?_
          refine mm_get dX5_reduced_118 F_RX5_7 rfl ?_
          refine px_aload_n dX5_reduced_121 rfl trivial ?_
          refine mm_get dX5_reduced_122 F_RX5_13 rfl ?_
          refine px_iload dX5_reduced_125 rfl ?_
          refine mm_ald dX5_reduced_127 rfl (by first | rfl | assumption) (by (try simp only [mr_I2, mr_An, mr_Ae, mr_D2, mr_Rn, mr_Re, mr_T2, ne_eq, Nat.reduceEqDiff, not_false_eq_true]); rfl) (by first | assumption | omega) ?_
          refine mm_ald_o dX5_reduced_128 rfl (by first | rfl | assumption) (by (try simp only [mr_I2, mr_An, mr_Ae, mr_D2, mr_Rn, mr_Re, mr_T2, ne_eq, Nat.reduceEqDiff, not_false_eq_true]); rfl) (by first | assumption | omega) ?_
          refine px_iload_n dX5_reduced_129 rfl ?_
          refine pn_icmp_ne (tgt := 153) dX5_reduced_130 (by decide) (px_eqo (n:=8) (by omega) (by omega) (fun _ => hx)) (fun k1 => ?_) (fun k1 => ?_)
          · refine px_iconst (v := nI 0) dX5_reduced_153 (by decide) ?_
            exact px_sub (body 0 (by decide) ⟨fun z => by omega, fun z => (k1 ((mm_in_b b0).mp z).1).elim⟩) rfl
          · refine px_aload_n dX5_reduced_133 rfl trivial ?_
            refine mm_get dX5_reduced_134 F_RX5_7 rfl ?_
            refine px_aload_n dX5_reduced_137 rfl trivial ?_
            refine mm_get dX5_reduced_138 F_RX5_16 rfl ?_
            refine px_iload dX5_reduced_141 rfl ?_
            refine mm_ald dX5_reduced_143 rfl (by first | rfl | assumption) (by (try simp only [mr_I2, mr_An, mr_Ae, mr_D2, mr_Rn, mr_Re, mr_T2, ne_eq, Nat.reduceEqDiff, not_false_eq_true]); rfl) (by first | assumption | omega) ?_
            refine mm_ald_o dX5_reduced_144 rfl (by first | rfl | assumption) (by (try simp only [mr_I2, mr_An, mr_Ae, mr_D2, mr_Rn, mr_Re, mr_T2, ne_eq, Nat.reduceEqDiff, not_false_eq_true]); rfl) (by first | assumption | omega) ?_
            refine px_iload_n dX5_reduced_145 rfl ?_
            refine pn_icmp_ne (tgt := 153) dX5_reduced_146 (by decide) (px_eqo (n:=8) (by omega) (by omega) (fun _ => hx)) (fun k2 => ?_) (fun k2 => ?_)
            · refine px_iconst (v := nI 0) dX5_reduced_153 (by decide) ?_
              exact px_sub (body 0 (by decide) ⟨fun z => by omega, fun z => (k2 ((mm_in_b b0).mp z).2).elim⟩) rfl
            · refine px_iconst (v := nI 1) dX5_reduced_149 (by decide) ?_
              refine px_goto (tgt := 154) dX5_reduced_150 (by decide) ?_
              exact px_sub (body 1 (by decide) ⟨fun _ => (mm_in_b b0).mpr ⟨k1, k2⟩, fun _ => rfl⟩) rfl
    refine px_iconst (v := nI 0) dX5_reduced_102 (by decide) ?_
    refine px_istore dX5_reduced_103 (by decide) ?_
    refine px_iconst (v := nI 0) dX5_reduced_105 (by decide) ?_
    refine px_istore dX5_reduced_106 (by decide) ?_
    exact px_sub (loop (s.1 6 + 1) 0 0 g (by omega) (by omega) hg (Or.inl ⟨rfl, rfl, fun a' ha => by omega⟩)) rfl
set_option maxRecDepth 100000 in
set_option maxHeartbeats 4000000 in
theorem me_reduced_i (s : mm_S) (X : px_M) (ok : mm_ok s) (x : Int32) (hx : px_ix x 8) (p q : Nat) (hp : p < s.1 1) (hq : q < s.1 1) (Q : px_Q) (hr : mm_rch s (px_oc x) p q) (hQ : ∀ g : Nat → Int, mm_gr s (px_oc x) p q (g q) → Q (.inl (some (.inl (.double (dz (g q)))))) (mm_M (mm_T s 30 g) X)) :
    px_W 2 0 0 mX5_reduced Q 58 [(0, .inr (1, 0)), (1, .inl (.int x)), (2, .inl (.int (nI p))), (3, .inl (.int (nI q)))] [] (mm_M s X) 0 0 := by
  have h1 := ok.1.1
  have loop : ∀ (u j : Nat) (g : Nat → Int), j ≤ 60 → 60 < j + u → (∀ i, i < j → g i = if i = p then 0 else -8) → px_W 2 0 0 mX5_reduced Q 61 [(0, .inr (1, 0)), (1, .inl (.int x)), (2, .inl (.int (nI p))), (3, .inl (.int (nI q))), (4, .inl (.int (nI j)))] [] (mm_M (mm_T s 30 g) X) 0 0 := by
    intro u
    induction u with
    | zero => intro j f h1 h2; omega
    | succ u ih =>
      intro j g h1 h2 hg
      refine px_iload dX5_reduced_61 rfl ?_
      refine px_bipush (v := nI 60) dX5_reduced_63 (by decide) ?_
      refine pn_icmp_ge (tgt := 94) dX5_reduced_65 (by decide) (nI_leI (by omega) (by omega)) (fun h3 => ?_) (fun h3 => ?_)
      · refine px_iconst (v := nI 1) dX5_reduced_94 (by decide) ?_
        refine px_istore dX5_reduced_95 (by decide) ?_
        refine px_iload dX5_reduced_97 rfl ?_
        refine pn_if_eq (tgt := 258) dX5_reduced_99 (by decide) (pn_z (by omega)) (fun h4 => ?_) (fun h4 => ?_)
        · omega
        · refine px_sub (me_reduced_l s X ok x hx p q hp hq Q hr hQ (mm_mu g + 1) g (by omega) ⟨?_, fun i hi => ?_⟩) rfl
          · rw [hg p (by omega), if_pos rfl]; exact Int.le_refl _
          · rw [hg i (by omega)]
            by_cases e : i = p
            · rw [if_pos e]; exact Or.inr ⟨[], e.symm, rfl⟩
            · rw [if_neg e]; exact Or.inl rfl
      · have st : ∀ x', x' = (if j = p then 0 else -8) → px_W 2 0 0 mX5_reduced Q 88 [(0, .inr (1, 0)), (1, .inl (.int x)), (2, .inl (.int (nI p))), (3, .inl (.int (nI q))), (4, .inl (.int (nI j)))] [] (mm_M (mm_T s 30 (px_upN g j x')) X) 0 0 := by
          intro x' e
          refine px_iinc dX5_reduced_88 rfl (pn_i1 _) (by decide) ?_
          refine px_goto (tgt := 61) dX5_reduced_91 (by decide) ?_
          refine px_sub (ih (j + 1) (px_upN g j x') (by omega) (by omega) fun i hi => ?_) rfl
          unfold px_upN
          by_cases e' : i = j
          · rw [if_pos e', e, e']
          · rw [if_neg e']; exact hg i (by omega)
        refine px_aload_n dX5_reduced_68 rfl trivial ?_
        refine mm_get dX5_reduced_69 F_RX5_78 rfl ?_
        refine px_iload dX5_reduced_72 rfl ?_
        refine px_iload dX5_reduced_74 rfl ?_
        refine px_iload_n dX5_reduced_76 rfl ?_
        refine pn_icmp_ne (tgt := 84) dX5_reduced_77 (by decide) (nI_eq (by omega) (by omega)) (fun h4 => ?_) (fun h4 => ?_)
        · refine pn_ldc2d dX5_reduced_84 D_RX5_171 dz_m1 ?_
          refine mm_ast_d dX5_reduced_87 rfl (by first | rfl | assumption) (by first | rfl | assumption) (by first | assumption | omega) ?_
          rw [mr_TD]
          exact px_sub (st (-8) (if_neg h4).symm) rfl
        · refine pn_dconst0 dX5_reduced_80 ?_
          refine px_goto (tgt := 87) dX5_reduced_81 (by decide) ?_
          refine mm_ast_d dX5_reduced_87 rfl (by first | rfl | assumption) (by first | rfl | assumption) (by first | assumption | omega) ?_
          rw [mr_TD]
          exact px_sub (st 0 (if_pos h4).symm) rfl
  refine px_iconst (v := nI 0) dX5_reduced_58 (by decide) ?_
  refine px_istore dX5_reduced_59 (by decide) ?_
  have := loop 61 0 (s.2.2 30) (by omega) (by omega) (fun q h => by omega)
  rw [mr_T0] at this
  exact px_sub this rfl
theorem kc_reduced0 {s : mm_S} {x y z : Int32} (c0 : kc_reduced s x y z = 0) : px_ix x 8 ∧ px_ix y (s.1 1) ∧ px_ix z (s.1 1) := by
  unfold kc_reduced at c0
  by_cases h1 : px_ix x 8
  · rw [if_neg (fun z => z h1)] at c0
    by_cases h2 : px_ix y (s.1 1)
    · rw [if_neg (fun z => z h2)] at c0
      by_cases h3 : px_ix z (s.1 1)
      · exact ⟨h1, h2, h3⟩
      · rw [if_pos h3] at c0; omega
    · rw [if_pos h2] at c0; omega
  · rw [if_pos h1] at c0; omega
theorem mm_wk_nqe {s t : mm_S} (h : mm_nq s t) (b : Nat) (as : List Nat) (p q : Nat) : mm_wk t b p as q = mm_wk s b p as q := propext (mm_wk.nq h b as p q)
theorem mm_ln_nq {s t : mm_S} (h : mm_nq s t) (as : List Nat) : mm_ln t as = mm_ln s as := by
  induction as with
  | nil => rfl
  | cons a as ih => show t.2.2 5 a + mm_ln t as = s.2.2 5 a + mm_ln s as; rw [ih, (h.2 5 (by decide)).2]
theorem mm_gr.nq {s t : mm_S} (h : mm_nq s t) {b p q : Nat} {v : Int} (g : mm_gr t b p q v) : mm_gr s b p q v := by
  obtain ⟨⟨as, h1, h2⟩, h3⟩ := g
  exact ⟨⟨as, (mm_wk.nq h b as p q).mp h1, (mm_ln_nq h as).symm.trans h2⟩, fun as ha => (mm_ln_nq h as) ▸ h3 as ((mm_wk.nq h b as p q).mpr ha)⟩
set_option maxRecDepth 100000 in
set_option maxHeartbeats 4000000 in
theorem me_reduced (s : mm_S) (X : px_M) (ok : mm_ok s) (x y z : Int32) : px_Met 2 0 0 mX5_reduced [.inr (1, 0), .inl (.int x), .inl (.int y), .inl (.int z)] (mm_M s X) (mq_reduced s X x y z) := by
  have h1 := ok.1.1
  refine px_ofW (by decide) W_mX5_reduced (Nat.le_of_ble_eq_true rfl) ?_
  have tail : ∀ c, c < 4 → kc_reduced s x y z = c → px_W 2 0 0 mX5_reduced (mq_reduced s X x y z) 32 [(0, .inr (1, 0)), (1, .inl (.int x)), (2, .inl (.int y)), (3, .inl (.int z))] [.inl (.int (nI c)), .inr (1, 0)] (mm_M s X) 0 0 := by
    intro c c4 hc
    refine mm_put dX5_reduced_32 F_RX5_81 nf_5_0 (by decide) (by first | exact ⟨rfl, rfl⟩ | decide) ?_
    refine px_aload_n dX5_reduced_35 rfl trivial ?_
    refine mm_gets dX5_reduced_36 F_RX5_81 (by decide) (by (try simp only [mr_In, mr_Ie, mr_A1, mr_D1, mr_R1, mr_T1, ne_eq, Nat.reduceEqDiff, not_false_eq_true]); rfl) ?_
    refine pn_if_le (tgt := 44) dX5_reduced_39 (by decide) (pn_lez (by omega)) (fun h => ?_) (fun h => ?_)
    · have c0 : kc_reduced s x y z = 0 := by omega
      obtain ⟨hx, hy, hz⟩ := kc_reduced0 c0
      obtain ⟨e1, e2⟩ := px_ix_tn hx
      obtain ⟨e3, e4⟩ := px_ix_tn hy
      obtain ⟨e5, e6⟩ := px_ix_tn hz
      have xo : x = px_o (px_oc x) ∧ px_oc x ≤ 8 := px_oc_o fun _ => hx
      have tn : mm_nq s (mm_I s 0 c) := (mm_nq.rf s).I0 c
      have okt := ok.nq tn
      have hM : px_Met 1 0 0 mX5_isReduced [.inr (1, 0), .inl (.int x), .inl (.int y), .inl (.int z)] (mm_M (mm_I s 0 c) X) (mm_rdq (mm_I s 0 c) X (px_oc x) (px_tn y) (px_tn z)) := by
        have := me_isReduced (mm_I s 0 c) X okt (px_oc x) (px_tn y) (px_tn z) (by omega) e4 e6
        rw [← xo.1, ← e3, ← e5] at this
        exact this
      refine px_aload_n dX5_reduced_44 rfl trivial ?_
      refine px_iload_n dX5_reduced_45 rfl ?_
      refine px_iload_n dX5_reduced_46 rfl ?_
      refine px_iload_n dX5_reduced_47 rfl ?_
      refine px_callV (hM) dX5_reduced_48 L_RX5_167 (mm_rcv _ _) rfl rfl (by decide) (by omega) (by omega) (Nat.le_of_ble_eq_true rfl) (fun v9 M9 hq => ?_) (fun E9 M9 hq => ?_)
      · obtain ⟨h0, f, rfl⟩ := hq
        cases h0
        have e : mm_red (mm_I s 0 c) (px_oc x) (px_tn y) (px_tn z) = mm_red s (px_oc x) (px_tn y) (px_tn z) := propext (mm_red.nq tn _ _ _)
        rw [e]
        refine pn_if_ne (tgt := 58) dX5_reduced_51 (by decide) (px_ch_z _) (fun h2 => ?_) (fun h2 => ?_)
        · have hr := Classical.not_not.mp h2
          have tn2 : mm_nq s (mm_R (mm_I s 0 c) 26 f) := tn.R (by decide) f
          have := me_reduced_i (mm_R (mm_I s 0 c) 26 f) X (ok.nq tn2) x hx (px_tn y) (px_tn z) e4 e6 (mq_reduced s X x y z) ((mm_rch.nq tn2 _ _ _).mpr hr.2.2.2.2) (fun g hg => ?_)
          · rw [← e3, ← e5] at this
            exact px_sub this rfl
          · exact ⟨_, fun _ => ⟨fun _ => hg.nq tn2, fun z => (z hr).elim⟩, _, _, rfl, rfl, hc.symm ▸ rfl, tn2.T (by decide) g, fun _ => rfl⟩
        · refine pn_ldc2d dX5_reduced_54 D_RX5_171 dz_m1 ?_
          refine px_dret dX5_reduced_57 rfl ⟨-8, fun _ => ⟨fun z => (h2 z).elim, fun _ => rfl⟩, _, _, rfl, rfl, hc.symm ▸ rfl, tn.R (by decide) f, fun _ => rfl⟩ (by omega) (by omega)
      · exact absurd hq.1 (fun z => by cases z)
    · refine pn_dconst0 dX5_reduced_42 ?_
      refine px_dret dX5_reduced_43 rfl ?_ (by omega) (by omega)
      exact ⟨0, fun z => by omega, _, _, rfl, rfl, hc.symm ▸ rfl, (mm_nq.rf s).I0 c, fun z => by omega⟩
  refine px_aload_n dX5_reduced_0 rfl trivial ?_
  refine px_iload_n dX5_reduced_1 rfl ?_
  refine pn_if_lt (tgt := 27) dX5_reduced_2 (by decide) (px_lt0 _) (fun h => ?_) (fun h => ?_)
  · refine px_iconst (v := nI 1) dX5_reduced_27 (by decide) ?_
    refine px_goto (tgt := 32) dX5_reduced_28 (by decide) ?_
    exact px_sub (tail 1 (by decide) (if_pos (fun z => by have := z.1; omega))) rfl
  · refine px_iload_n dX5_reduced_5 rfl ?_
    refine px_bipush (v := nI 8) dX5_reduced_6 (by decide) ?_
    refine pn_icmp_ge (tgt := 27) dX5_reduced_8 (by decide) (px_leN _ (by decide)) (fun h2 => ?_) (fun h2 => ?_)
    · refine px_iconst (v := nI 1) dX5_reduced_27 (by decide) ?_
      refine px_goto (tgt := 32) dX5_reduced_28 (by decide) ?_
      exact px_sub (tail 1 (by decide) (if_pos (fun z => by have := z.2; omega))) rfl
    · have hx : px_ix x 8 := ⟨by omega, by omega⟩
      refine px_aload_n dX5_reduced_11 rfl trivial ?_
      refine px_iload_n dX5_reduced_12 rfl ?_
      refine px_callVr ((me_isPin s X y h1)) dX5_reduced_13 L_RX5_99 (mm_rcv _ _) rfl rfl (by decide) (by omega) (by omega) (Nat.le_of_ble_eq_true rfl) ?_
      refine pn_if_eq (tgt := 27) dX5_reduced_16 (by decide) (px_bi_0 _) (fun h3 => ?_) (fun h3 => ?_)
      · refine px_iconst (v := nI 1) dX5_reduced_27 (by decide) ?_
        refine px_goto (tgt := 32) dX5_reduced_28 (by decide) ?_
        exact px_sub (tail 1 (by decide) (by unfold kc_reduced; rw [if_neg (fun z => z hx), if_pos h3])) rfl
      · have hy := Decidable.of_not_not h3
        refine px_aload_n dX5_reduced_19 rfl trivial ?_
        refine px_iload_n dX5_reduced_20 rfl ?_
        refine px_callVr ((me_isPin s X z h1)) dX5_reduced_21 L_RX5_99 (mm_rcv _ _) rfl rfl (by decide) (by omega) (by omega) (Nat.le_of_ble_eq_true rfl) ?_
        refine pn_if_ne (tgt := 31) dX5_reduced_24 (by decide) (px_bi_0 _) (fun h4 => ?_) (fun h4 => ?_)
        · refine px_iconst (v := nI 0) dX5_reduced_31 (by decide) ?_
          exact px_sub (tail 0 (by decide) (by unfold kc_reduced; rw [if_neg (fun z => z hx), if_neg (fun z => z hy), if_neg h4])) rfl
        · refine px_iconst (v := nI 1) dX5_reduced_27 (by decide) ?_
          refine px_goto (tgt := 32) dX5_reduced_28 (by decide) ?_
          exact px_sub (tail 1 (by decide) (by unfold kc_reduced; rw [if_neg (fun z => z hx), if_neg (fun z => z hy), if_pos h4])) rfl
