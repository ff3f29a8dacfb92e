/-! ===== the law's cases ===== -/
def mL_law : px_Y := (yL_law, cL_law, 9, some .boolean, [])
abbrev lB (G0 : px_G) (i : Nat) : List (Nat × px_V) := [(0, .inl (.ref (px_gb G0))), (1, .inr (14, 0)), (2, .inr (1, 0)), (3, .inr (15, 0)), (4, .inr (15, 1)), (5, .inl (.int (nI i)))]
def lJ (s : mm_S) (u : cc_U) (X : px_M) : Prop := mm_ok s ∧ cok s u ∧ h15 X ∧ c9 X
theorem lW_c (s : mm_S) (u : cc_U) (X : px_M) : mm_M s (cc_M u X) = cc_M u (mm_M s X) := by
  funext r
  unfold mm_M cc_M
  by_cases h : r.1 = 1
  · rw [if_pos h, if_neg (by omega)]; exact (if_pos h).symm
  · rw [if_neg h]
    by_cases h2 : 2 ≤ r.1 ∧ r.1 ≤ 14
    · rw [if_pos h2, if_pos h2]
    · rw [if_neg h2, if_neg h2]; exact (if_neg h).symm
theorem lW_b (s : mm_S) (u : cc_U) (X : px_M) (i : Nat) (o : px_O) : cc_M u (px_up (mm_M s X) (15, i) o) = mm_M s (cc_M u (px_up X (15, i) o)) := by
  rw [lW_c]
  congr 1
  funext r
  unfold mm_M px_up
  by_cases h : r = (15, i)
  · subst h; rw [if_pos rfl, if_neg (show ¬ 15 = 1 by decide), if_pos rfl]
  · rw [if_neg h]
    by_cases h1 : r.1 = 1
    · rw [if_pos h1]; exact if_pos h1
    · rw [if_neg h1, if_neg h]; exact if_neg h1
theorem lW_15 {s : mm_S} {u : cc_U} {X : px_M} {i : Nat} {o : px_O} (h : X (15, i) = some o) : mm_M s (cc_M u X) (15, i) = some o := by
  rw [lW_c]
  refine cc_15 ?_
  unfold mm_M
  rw [if_neg (show ¬ 15 = 1 by decide)]
  exact h
theorem h15m {s : mm_S} {X : px_M} (h : h15 X) : h15 (mm_M s X) := by
  obtain ⟨⟨f, hf⟩, ⟨g, hg⟩⟩ := h
  refine ⟨⟨f, ?_⟩, ⟨g, ?_⟩⟩
  · unfold mm_M; rw [if_neg (show ¬ 15 = 1 by decide)]; exact hf
  · unfold mm_M; rw [if_neg (show ¬ 15 = 1 by decide)]; exact hg
theorem c9m {s : mm_S} {X : px_M} (h : c9 X) : c9 (mm_M s X) := fun k => by
  unfold mm_M
  rw [if_neg (show ¬ 99 = 1 by decide)]
  exact h k
theorem lX_l {X : px_M} (h : h15 X) (h9 : c9 X) (f : Nat → Int64) : h15 (px_up X (15, 0) (.inr (.inl (3, 1, .inr (.inl f))))) ∧ c9 (px_up X (15, 0) (.inr (.inl (3, 1, .inr (.inl f))))) := by
  obtain ⟨-, ⟨g, hg⟩⟩ := h
  exact ⟨⟨⟨f, px_up_s _ _ _⟩, ⟨g, (px_up_n _ _ (by decide)).trans hg⟩⟩, px_u9 h9 (by decide)⟩
theorem lX_d {X : px_M} (h : h15 X) (h9 : c9 X) (f : Nat → UInt64) : h15 (px_up X (15, 1) (.inr (.inl (1, 1, .inr (.inr (.inl f)))))) ∧ c9 (px_up X (15, 1) (.inr (.inl (1, 1, .inr (.inr (.inl f)))))) := by
  obtain ⟨⟨g, hg⟩, -⟩ := h
  exact ⟨⟨⟨g, (px_up_n _ _ (by decide)).trans hg⟩, ⟨f, px_up_s _ _ _⟩⟩, px_u9 h9 (by decide)⟩
theorem cok.o0 {s : mm_S} {u : cc_U} (h : cok s u) : cx u 14 0 := by
  obtain ⟨⟨O, hR⟩, -⟩ := h
  exact hR.obj (by decide)
theorem cqo.N {X : px_M} {xs : List String} {c : Nat} {v : px_V} {s' : mm_S} {v' : Option px_V} {M' : px_M} (h : cqo X xs c v s' (.inl v') M') : c = 0 ∧ v' = some v ∧ ∃ u', M' = cc_M u' X ∧ cok s' u' := by
  obtain ⟨u', e, hc, h0, h1⟩ := h
  by_cases hz : c = 0
  · exact ⟨hz, by have := h0 hz; injection this, u', e, hc⟩
  · obtain ⟨E, -, e2⟩ := h1 hz
    cases e2
theorem cqo.E {X : px_M} {xs : List String} {c : Nat} {v : px_V} {s' : mm_S} {E : String} {M' : px_M} (h : cqo X xs c v s' (.inr E) M') : ∃ j, c = j + 1 ∧ xs[j]? = some E ∧ ∃ u', M' = cc_M u' X ∧ cok s' u' := by
  obtain ⟨u', e, hc, h0, h1⟩ := h
  by_cases hz : c = 0
  · have := h0 hz
    cases this
  · obtain ⟨E', e1, e2⟩ := h1 hz
    cases e2
    exact ⟨c - 1, by omega, e1, u', e, hc⟩
theorem lg_self (v : Int64) : lg_cmp v v = 0 := by
  unfold lg_cmp
  simp
/-- what a helper's end is made of -/
def lP (s1 : mm_S) (kc : Nat) (w : Int64) : Nat → Int64 → cc_U → Prop := fun c v u' => c = kc ∧ c ≤ 3 ∧ cok s1 u' ∧ (c = 0 → v = w)
def lPd (s1 : mm_S) (kc : Nat) (w : UInt64) : Nat → UInt64 → cc_U → Prop := fun c v u' => c = kc ∧ c ≤ 3 ∧ cok s1 u' ∧ (c = 0 → v = w)
set_option maxRecDepth 100000 in
set_option maxHeartbeats 8000000 in
theorem lc_arc {G0 : px_G} {Q : px_Q} {s : mm_S} {u : cc_U} {X : px_M} (hJ : lJ s u X) {i k n : Nat} (hi : i + 4 ≤ px_gL G0) (hL : px_gL G0 ≤ 2048) (hk : k + 70 ≤ 601024) (hn : n + 8000 ≤ 7293034) (K : ∀ s' u' X', lJ s' u' X' → pg_W G0 12 601024 7293034 mL_law Q 1173 (lB G0 i) [] (mm_M s' (cc_M u' X')) (k + 70) (n + 8000)) (lv : List (Nat × px_V)) : pg_W G0 12 601024 7293034 mL_law Q 164 (lB G0 i ++ lv) [] (mm_M s (cc_M u X)) k n := by
  obtain ⟨ok, hu, hX, h9⟩ := id hJ
  refine pg_aload_n dL_law_164 rfl trivial ?_
  refine pg_aload_n dL_law_165 rfl trivial ?_
  refine pg_iload dL_law_166 rfl ?_
  refine pg_iconst (v := nI 1) dL_law_168 (by decide) ?_
  refine pgn_iadd dL_law_169 (by first | exact nI_add _ _ | rfl) ?_
  refine pg_xldN dL_law_170 rfl (by omega) (by omega) ?_
  refine pg_aload_n dL_law_171 rfl trivial ?_
  refine pg_iload dL_law_172 rfl ?_
  refine pg_iconst (v := nI 2) dL_law_174 (by decide) ?_
  refine pgn_iadd dL_law_175 (by first | exact nI_add _ _ | rfl) ?_
  refine pg_xldN dL_law_176 rfl (by omega) (by omega) ?_
  refine pg_aload_n dL_law_177 rfl trivial ?_
  refine pg_iload dL_law_178 rfl ?_
  refine pg_iconst (v := nI 3) dL_law_180 (by decide) ?_
  refine pgn_iadd dL_law_181 (by first | exact nI_add _ _ | rfl) ?_
  refine pg_xldN dL_law_182 rfl (by omega) (by omega) ?_
  refine pg_i2d dL_law_183 ?_
  refine pg_ldc2d dL_law_184 D_RL_80 ?_
  refine pg_dmul dL_law_187 (dz_of_int _) (dz_vf (lw_b53 _)) ?_
  refine pg_aload_n dL_law_188 rfl trivial ?_
  rw [lW_c]
  refine pg_callH (ch_arc (P := lP (nx_arc s (px_gx G0 (i + 1)) (px_gx G0 (i + 2)) (px_gx G0 (i + 3)).toInt) (kc_arc s (px_gx G0 (i + 1)) (px_gx G0 (i + 2)) (px_gx G0 (i + 3)).toInt) (nI (s.1 6)).toInt64) _ _ _ hu.o0 (h15m hX) (ce_arc (c9m h9) ok hu _ _ _ (lw_b32 _)) (fun v M1 hq => ?_) (fun E M1 hq => ?_)) dL_law_189 L_RL_82 rfl rfl (by decide) (by omega) (by omega) (Nat.le_of_ble_eq_true rfl) (fun v M1 hq => ?_) (fun E M1 hq => ?_)
  · obtain ⟨e0, e1, u1, e2, hc⟩ := hq.N
    exact ⟨_, u1, e1, e2, e0.symm, Nat.zero_le _, hc, fun _ => rfl⟩
  · obtain ⟨j, e0, e1, u1, e2, hc⟩ := hq.E
    have hl := (List.getElem?_eq_some_iff.mp e1).1
    exact ⟨j, u1, e2, e1, fun z => ⟨e0.symm, by simp at hl; omega, hc, fun z => by omega⟩⟩
  · obtain ⟨c, u1, f, rfl, e, hkc, hc3, hcok, hcv⟩ := hq
    cases e
    rw [lW_b]
    obtain ⟨hX1, h91⟩ := lX_l hX h9 f
    have hf := px_up_s X (15, 0) (.inr (.inl (3, 1, .inr (.inl f))))
    generalize px_up X (15, 0) (.inr (.inl (3, 1, .inr (.inl f)))) = X1 at hX1 h91 hf ⊢
    refine pg_istore dL_law_192 (by decide) ?_
    refine pg_aload_n dL_law_194 rfl trivial ?_
    refine pg_aload_n dL_law_195 rfl trivial ?_
    refine pg_iload dL_law_196 rfl ?_
    refine pg_iconst (v := nI 1) dL_law_198 (by decide) ?_
    refine pgn_iadd dL_law_199 (by first | exact nI_add _ _ | rfl) ?_
    refine pg_xldN dL_law_200 rfl (by omega) (by omega) ?_
    refine pg_aload_n dL_law_201 rfl trivial ?_
    refine pg_iload dL_law_202 rfl ?_
    refine pg_iconst (v := nI 2) dL_law_204 (by decide) ?_
    refine pgn_iadd dL_law_205 (by first | exact nI_add _ _ | rfl) ?_
    refine pg_xldN dL_law_206 rfl (by omega) (by omega) ?_
    refine pg_aload_n dL_law_207 rfl trivial ?_
    refine pg_iload dL_law_208 rfl ?_
    refine pg_iconst (v := nI 3) dL_law_210 (by decide) ?_
    refine pgn_iadd dL_law_211 (by first | exact nI_add _ _ | rfl) ?_
    refine pg_xldN dL_law_212 rfl (by omega) (by omega) ?_
    refine pg_i2d dL_law_213 ?_
    refine pg_ldc2d dL_law_214 D_RL_80 ?_
    refine pg_dmul dL_law_217 (dz_of_int _) (dz_vf (lw_b53 _)) ?_
    refine pg_callV (me_arc s _ ok _ _ _ (lw_b32 _)) dL_law_218 L_RL_85 (mm_rcv _ _) rfl rfl (by decide) (by omega) (by omega) (Nat.le_of_ble_eq_true rfl) (fun v M1 hq => ?_) (fun E M1 hq => ?_)
    · obtain ⟨w, s1, e, rfl, g1, g2, g3⟩ := hq
      cases e
      refine pg_istore dL_law_221 (by decide) ?_
      refine pg_aload_n dL_law_223 rfl trivial ?_
      refine pg_callVr (me_thrown s1 _) dL_law_224 L_RL_77 (mm_rcv _ _) rfl rfl (by decide) (by omega) (by omega) (Nat.le_of_ble_eq_true rfl) ?_
      rw [g1, ← hkc]
      refine pg_iload dL_law_227 rfl ?_
      refine pgn_icmp_eq (tgt := 234) dL_law_229 (by decide) (Iff.rfl) (fun g4 => ?_) (fun g4 => ?_)
      · have KK := K s1 u1 X1 ⟨mm_ok.nq (ok_arc ok hcok.rk) g2, hcok.nq g2, hX1, h91⟩
        refine pg_iload dL_law_234 rfl ?_
        refine pgn_if_ne (tgt := 251) dL_law_236 (by decide) (pn_z (by omega)) (fun g5 => ?_) (fun g5 => ?_)
        · refine pg_goto (tgt := 1173) dL_law_251 (by decide) ?_
          exact pg_sub KK rfl
        · have c0 : c = 0 := by omega
          have e5 := hcv c0
          have e6 := g3 (by omega)
          refine pg_aload_n dL_law_239 rfl trivial ?_
          refine pg_iconst (v := nI 0) dL_law_240 (by decide) ?_
          refine pg_ald_l (j := 0) dL_law_241 (lW_15 hf) rfl (by decide) (by decide) ?_
          refine pg_iload dL_law_242 rfl ?_
          refine pg_i2l dL_law_244 ?_
          rw [e5, e6]
          refine pg_lcmp dL_law_245 ?_
          rw [lg_self]
          refine pgn_if_eq (tgt := 251) dL_law_246 (by decide) (Iff.rfl) (fun g6 => ?_) (fun g6 => ?_)
          · refine pg_goto (tgt := 1173) dL_law_251 (by decide) ?_
            exact pg_sub KK rfl
          · exact absurd rfl g6
      · exact absurd rfl g4
    · obtain ⟨_, _, e, _⟩ := hq
      cases e
  · obtain ⟨_, _, _, _, e, _⟩ := hq
    cases e
