/-! ===== the law's cases ===== -/
def mL_law : px_Y := (yL_law, cL_law, 9, some .boolean, [])
abbrev lB (G0 : px_G) (i : Nat) : List (Nat × px_V) := [(0, .inl (.ref (px_gb G0))), (1, .inr (14, 0)), (2, .inr (1, 0)), (3, .inr (15, 0)), (4, .inr (15, 1)), (5, .inl (.int (nI i)))]
def lJ (s : mm_S) (u : cc_U) (X : px_M) : Prop := mm_ok s ∧ cok s u ∧ h15 X ∧ c9 X
theorem lW_c (s : mm_S) (u : cc_U) (X : px_M) : mm_M s (cc_M u X) = cc_M u (mm_M s X) := by
  funext r
  unfold mm_M cc_M
  by_cases h : r.1 = 1
  · rw [if_pos h, if_neg (by omega)]; exact (if_pos h).symm
  · rw [if_neg h]
    by_cases h2 : 2 ≤ r.1 ∧ r.1 ≤ 14
    · rw [if_pos h2, if_pos h2]
    · rw [if_neg h2, if_neg h2]; exact (if_neg h).symm
theorem lW_b (s : mm_S) (u : cc_U) (X : px_M) (i : Nat) (o : px_O) : cc_M u (px_up (mm_M s X) (15, i) o) = mm_M s (cc_M u (px_up X (15, i) o)) := by
  rw [lW_c]
  congr 1
  funext r
  unfold mm_M px_up
  by_cases h : r = (15, i)
  · subst h; rw [if_pos rfl, if_neg (show ¬ 15 = 1 by decide), if_pos rfl]
  · rw [if_neg h]
    by_cases h1 : r.1 = 1
    · rw [if_pos h1]; exact if_pos h1
    · rw [if_neg h1, if_neg h]; exact if_neg h1
theorem lW_15 {s : mm_S} {u : cc_U} {X : px_M} {i : Nat} {o : px_O} (h : X (15, i) = some o) : mm_M s (cc_M u X) (15, i) = some o := by
  rw [lW_c]
  refine cc_15 ?_
  unfold mm_M
  rw [if_neg (show ¬ 15 = 1 by decide)]
  exact h
theorem h15m {s : mm_S} {X : px_M} (h : h15 X) : h15 (mm_M s X) := by
  obtain ⟨⟨f, hf⟩, ⟨g, hg⟩⟩ := h
  refine ⟨⟨f, ?_⟩, ⟨g, ?_⟩⟩
  · unfold mm_M; rw [if_neg (show ¬ 15 = 1 by decide)]; exact hf
  · unfold mm_M; rw [if_neg (show ¬ 15 = 1 by decide)]; exact hg
theorem c9m {s : mm_S} {X : px_M} (h : c9 X) : c9 (mm_M s X) := fun k => by
  unfold mm_M
  rw [if_neg (show ¬ 99 = 1 by decide)]
  exact h k
theorem lX_l {X : px_M} (h : h15 X) (h9 : c9 X) (f : Nat → Int64) : h15 (px_up X (15, 0) (.inr (.inl (3, 1, .inr (.inl f))))) ∧ c9 (px_up X (15, 0) (.inr (.inl (3, 1, .inr (.inl f))))) := by
  obtain ⟨-, ⟨g, hg⟩⟩ := h
  exact ⟨⟨⟨f, px_up_s _ _ _⟩, ⟨g, (px_up_n _ _ (by decide)).trans hg⟩⟩, px_u9 h9 (by decide)⟩
theorem lX_d {X : px_M} (h : h15 X) (h9 : c9 X) (f : Nat → UInt64) : h15 (px_up X (15, 1) (.inr (.inl (1, 1, .inr (.inr (.inl f)))))) ∧ c9 (px_up X (15, 1) (.inr (.inl (1, 1, .inr (.inr (.inl f)))))) := by
  obtain ⟨⟨g, hg⟩, -⟩ := h
  exact ⟨⟨⟨g, (px_up_n _ _ (by decide)).trans hg⟩, ⟨f, px_up_s _ _ _⟩⟩, px_u9 h9 (by decide)⟩
theorem cok.o0 {s : mm_S} {u : cc_U} (h : cok s u) : cx u 14 0 := by
  obtain ⟨⟨O, hR⟩, -⟩ := h
  exact hR.obj (by decide)
theorem cqo.N {X : px_M} {xs : List String} {c : Nat} {v : px_V} {s' : mm_S} {v' : Option px_V} {M' : px_M} (h : cqo X xs c v s' (.inl v') M') : c = 0 ∧ v' = some v ∧ ∃ u', M' = cc_M u' X ∧ cok s' u' := by
  obtain ⟨u', e, hc, h0, h1⟩ := h
  by_cases hz : c = 0
  · exact ⟨hz, by have := h0 hz; injection this, u', e, hc⟩
  · obtain ⟨E, -, e2⟩ := h1 hz
    cases e2
theorem cqo.E {X : px_M} {xs : List String} {c : Nat} {v : px_V} {s' : mm_S} {E : String} {M' : px_M} (h : cqo X xs c v s' (.inr E) M') : ∃ j, c = j + 1 ∧ xs[j]? = some E ∧ ∃ u', M' = cc_M u' X ∧ cok s' u' := by
  obtain ⟨u', e, hc, h0, h1⟩ := h
  by_cases hz : c = 0
  · have := h0 hz
    cases this
  · obtain ⟨E', e1, e2⟩ := h1 hz
    cases e2
    exact ⟨c - 1, by omega, e1, u', e, hc⟩
theorem lg_self (v : Int64) : lg_cmp v v = 0 := by
  unfold lg_cmp
  simp
/-- what a helper's end is made of -/
def lP (s1 : mm_S) (kc : Nat) (w : Int64) : Nat → Int64 → cc_U → Prop := fun c v u' => c = kc ∧ c ≤ 3 ∧ cok s1 u' ∧ (c = 0 → v = w)
def lPd (s1 : mm_S) (kc : Nat) (w : UInt64) : Nat → UInt64 → cc_U → Prop := fun c v u' => c = kc ∧ c ≤ 3 ∧ cok s1 u' ∧ (c = 0 → v = w)
theorem cwv_arcs {s : mm_S} {u : cc_U} {Z : List mm_P} (hu : cok s u) (hw : cwv s u Z) (ok : mm_ok s) : ∀ z ∈ Z, ∀ a ∈ z.2.2.1, a < s.1 6 := fun z hz => by
  obtain ⟨⟨O, hR⟩, -⟩ := hu
  obtain ⟨j, hj⟩ := List.getElem?_of_mem hz
  exact (hw.fol hR ok hj).2.2.1
set_option maxRecDepth 100000 in
set_option maxHeartbeats 8000000 in
theorem lc_pin {G0 : px_G} {Q : px_Q} {s : mm_S} {u : cc_U} {X : px_M} (hJ : lJ s u X) {i k n : Nat} (hi : i + 4 ≤ px_gL G0) (hL : px_gL G0 ≤ 2048) (hk : k + 70 ≤ 601024) (hn : n + 8000 ≤ 7293034) (K : ∀ s' u' X', lJ s' u' X' → pg_W G0 12 601024 7293034 mL_law Q 1173 (lB G0 i) [] (mm_M s' (cc_M u' X')) (k + 70) (n + 8000)) (lv : List (Nat × px_V)) : pg_W G0 12 601024 7293034 mL_law Q 120 (lB G0 i ++ lv) [] (mm_M s (cc_M u X)) k n := by
  obtain ⟨ok, hu, hX, h9⟩ := id hJ
  refine pg_aload_n dL_law_120 rfl trivial ?_
  refine pg_aload_n dL_law_121 rfl trivial ?_
  rw [lW_c]
  refine pg_callH (ch_pin (P := lP (nx_pin s) (kc_pin s) (nI (s.1 1)).toInt64)  hu.o0 (h15m hX) (ce_pin (c9m h9) ok hu) (fun v M1 hq => ?_) (fun E M1 hq => ?_)) dL_law_122 L_RL_71 rfl rfl (by decide) (by omega) (by omega) (Nat.le_of_ble_eq_true rfl) (fun v M1 hq => ?_) (fun E M1 hq => ?_)
  · obtain ⟨e0, e1, u1, e2, hc⟩ := hq.N
    exact ⟨_, u1, e1, e2, e0.symm, Nat.zero_le _, hc, fun _ => rfl⟩
  · obtain ⟨j, e0, e1, u1, e2, hc⟩ := hq.E
    have hl := (List.getElem?_eq_some_iff.mp e1).1
    exact ⟨j, u1, e2, e1, fun z => ⟨e0.symm, by simp at hl; omega, hc, fun z => by omega⟩⟩
  · obtain ⟨c, u1, f, rfl, e, hkc, hc3, hcok, hcv⟩ := hq
    cases e
    rw [lW_b]
    obtain ⟨hX1, h91⟩ := lX_l hX h9 f
    have hf := px_up_s X (15, 0) (.inr (.inl (3, 1, .inr (.inl f))))
    generalize px_up X (15, 0) (.inr (.inl (3, 1, .inr (.inl f)))) = X1 at hX1 h91 hf ⊢
    refine pg_istore dL_law_125 (by decide) ?_
    refine pg_aload_n dL_law_127 rfl trivial ?_
    refine pg_callV (me_pin s _ ok) dL_law_128 L_RL_76 (mm_rcv _ _) rfl rfl (by decide) (by omega) (by omega) (Nat.le_of_ble_eq_true rfl) (fun v M1 hq => ?_) (fun E M1 hq => ?_)
    · obtain ⟨w, s1, e, rfl, g1, g2, g3⟩ := hq
      cases e
      refine pg_istore dL_law_131 (by decide) ?_
      refine pg_aload_n dL_law_133 rfl trivial ?_
      refine pg_callVr (me_thrown s1 _) dL_law_134 L_RL_77 (mm_rcv _ _) rfl rfl (by decide) (by omega) (by omega) (Nat.le_of_ble_eq_true rfl) ?_
      rw [g1, ← hkc]
      refine pg_iload dL_law_137 rfl ?_
      refine pgn_icmp_eq (tgt := 144) dL_law_139 (by decide) (Iff.rfl) (fun g4 => ?_) (fun g4 => ?_)
      · have KK := K s1 u1 X1 ⟨mm_ok.nq (ok_pin ok) g2, hcok.nq g2, hX1, h91⟩
        refine pg_iload dL_law_144 rfl ?_
        refine pgn_if_ne (tgt := 161) dL_law_146 (by decide) (pn_z (by omega)) (fun g5 => ?_) (fun g5 => ?_)
        · refine pg_goto (tgt := 1173) dL_law_161 (by decide) ?_
          exact pg_sub KK rfl
        · have c0 : c = 0 := by omega
          have e5 := hcv c0
          have e6 := g3 (by omega)
          refine pg_aload_n dL_law_149 rfl trivial ?_
          refine pg_iconst (v := nI 0) dL_law_150 (by decide) ?_
          refine pg_ald_l (j := 0) dL_law_151 (lW_15 hf) rfl (by decide) (by decide) ?_
          refine pg_iload dL_law_152 rfl ?_
          refine pg_i2l dL_law_154 ?_
          rw [e5, e6]
          refine pg_lcmp dL_law_155 ?_
          rw [lg_self]
          refine pgn_if_eq (tgt := 161) dL_law_156 (by decide) (Iff.rfl) (fun g6 => ?_) (fun g6 => ?_)
          · refine pg_goto (tgt := 1173) dL_law_161 (by decide) ?_
            exact pg_sub KK rfl
          · exact absurd rfl g6
      · exact absurd rfl g4
    · obtain ⟨_, _, e, _⟩ := hq
      cases e
  · obtain ⟨_, _, _, _, e, _⟩ := hq
    cases e
set_option maxRecDepth 100000 in
set_option maxHeartbeats 8000000 in
theorem lc_arc {G0 : px_G} {Q : px_Q} {s : mm_S} {u : cc_U} {X : px_M} (hJ : lJ s u X) {i k n : Nat} (hi : i + 4 ≤ px_gL G0) (hL : px_gL G0 ≤ 2048) (hk : k + 70 ≤ 601024) (hn : n + 8000 ≤ 7293034) (K : ∀ s' u' X', lJ s' u' X' → pg_W G0 12 601024 7293034 mL_law Q 1173 (lB G0 i) [] (mm_M s' (cc_M u' X')) (k + 70) (n + 8000)) (lv : List (Nat × px_V)) : pg_W G0 12 601024 7293034 mL_law Q 164 (lB G0 i ++ lv) [] (mm_M s (cc_M u X)) k n := by
  obtain ⟨ok, hu, hX, h9⟩ := id hJ
  refine pg_aload_n dL_law_164 rfl trivial ?_
  refine pg_aload_n dL_law_165 rfl trivial ?_
  refine pg_iload dL_law_166 rfl ?_
  refine pg_iconst (v := nI 1) dL_law_168 (by decide) ?_
  refine pgn_iadd dL_law_169 (by first | exact nI_add _ _ | rfl) ?_
  refine pg_xldN dL_law_170 rfl (by omega) (by omega) ?_
  refine pg_aload_n dL_law_171 rfl trivial ?_
  refine pg_iload dL_law_172 rfl ?_
  refine pg_iconst (v := nI 2) dL_law_174 (by decide) ?_
  refine pgn_iadd dL_law_175 (by first | exact nI_add _ _ | rfl) ?_
  refine pg_xldN dL_law_176 rfl (by omega) (by omega) ?_
  refine pg_aload_n dL_law_177 rfl trivial ?_
  refine pg_iload dL_law_178 rfl ?_
  refine pg_iconst (v := nI 3) dL_law_180 (by decide) ?_
  refine pgn_iadd dL_law_181 (by first | exact nI_add _ _ | rfl) ?_
  refine pg_xldN dL_law_182 rfl (by omega) (by omega) ?_
  refine pg_i2d dL_law_183 ?_
  refine pg_ldc2d dL_law_184 D_RL_80 ?_
  refine pg_dmul dL_law_187 (dz_of_int _) (dz_vf (lw_b53 _)) ?_
  refine pg_aload_n dL_law_188 rfl trivial ?_
  rw [lW_c]
  refine pg_callH (ch_arc (P := lP (nx_arc s (px_gx G0 (i + 1)) (px_gx G0 (i + 2)) (px_gx G0 (i + 3)).toInt) (kc_arc s (px_gx G0 (i + 1)) (px_gx G0 (i + 2)) (px_gx G0 (i + 3)).toInt) (nI (s.1 6)).toInt64) _ _ _ hu.o0 (h15m hX) (ce_arc (c9m h9) ok hu _ _ _ (lw_b32 _)) (fun v M1 hq => ?_) (fun E M1 hq => ?_)) dL_law_189 L_RL_82 rfl rfl (by decide) (by omega) (by omega) (Nat.le_of_ble_eq_true rfl) (fun v M1 hq => ?_) (fun E M1 hq => ?_)
  · obtain ⟨e0, e1, u1, e2, hc⟩ := hq.N
    exact ⟨_, u1, e1, e2, e0.symm, Nat.zero_le _, hc, fun _ => rfl⟩
  · obtain ⟨j, e0, e1, u1, e2, hc⟩ := hq.E
    have hl := (List.getElem?_eq_some_iff.mp e1).1
    exact ⟨j, u1, e2, e1, fun z => ⟨e0.symm, by simp at hl; omega, hc, fun z => by omega⟩⟩
  · obtain ⟨c, u1, f, rfl, e, hkc, hc3, hcok, hcv⟩ := hq
    cases e
    rw [lW_b]
    obtain ⟨hX1, h91⟩ := lX_l hX h9 f
    have hf := px_up_s X (15, 0) (.inr (.inl (3, 1, .inr (.inl f))))
    generalize px_up X (15, 0) (.inr (.inl (3, 1, .inr (.inl f)))) = X1 at hX1 h91 hf ⊢
    refine pg_istore dL_law_192 (by decide) ?_
    refine pg_aload_n dL_law_194 rfl trivial ?_
    refine pg_aload_n dL_law_195 rfl trivial ?_
    refine pg_iload dL_law_196 rfl ?_
    refine pg_iconst (v := nI 1) dL_law_198 (by decide) ?_
    refine pgn_iadd dL_law_199 (by first | exact nI_add _ _ | rfl) ?_
    refine pg_xldN dL_law_200 rfl (by omega) (by omega) ?_
    refine pg_aload_n dL_law_201 rfl trivial ?_
    refine pg_iload dL_law_202 rfl ?_
    refine pg_iconst (v := nI 2) dL_law_204 (by decide) ?_
    refine pgn_iadd dL_law_205 (by first | exact nI_add _ _ | rfl) ?_
    refine pg_xldN dL_law_206 rfl (by omega) (by omega) ?_
    refine pg_aload_n dL_law_207 rfl trivial ?_
    refine pg_iload dL_law_208 rfl ?_
    refine pg_iconst (v := nI 3) dL_law_210 (by decide) ?_
    refine pgn_iadd dL_law_211 (by first | exact nI_add _ _ | rfl) ?_
    refine pg_xldN dL_law_212 rfl (by omega) (by omega) ?_
    refine pg_i2d dL_law_213 ?_
    refine pg_ldc2d dL_law_214 D_RL_80 ?_
    refine pg_dmul dL_law_217 (dz_of_int _) (dz_vf (lw_b53 _)) ?_
    refine pg_callV (me_arc s _ ok _ _ _ (lw_b32 _)) dL_law_218 L_RL_85 (mm_rcv _ _) rfl rfl (by decide) (by omega) (by omega) (Nat.le_of_ble_eq_true rfl) (fun v M1 hq => ?_) (fun E M1 hq => ?_)
    · obtain ⟨w, s1, e, rfl, g1, g2, g3⟩ := hq
      cases e
      refine pg_istore dL_law_221 (by decide) ?_
      refine pg_aload_n dL_law_223 rfl trivial ?_
      refine pg_callVr (me_thrown s1 _) dL_law_224 L_RL_77 (mm_rcv _ _) rfl rfl (by decide) (by omega) (by omega) (Nat.le_of_ble_eq_true rfl) ?_
      rw [g1, ← hkc]
      refine pg_iload dL_law_227 rfl ?_
      refine pgn_icmp_eq (tgt := 234) dL_law_229 (by decide) (Iff.rfl) (fun g4 => ?_) (fun g4 => ?_)
      · have KK := K s1 u1 X1 ⟨mm_ok.nq (ok_arc ok hcok.rk) g2, hcok.nq g2, hX1, h91⟩
        refine pg_iload dL_law_234 rfl ?_
        refine pgn_if_ne (tgt := 251) dL_law_236 (by decide) (pn_z (by omega)) (fun g5 => ?_) (fun g5 => ?_)
        · refine pg_goto (tgt := 1173) dL_law_251 (by decide) ?_
          exact pg_sub KK rfl
        · have c0 : c = 0 := by omega
          have e5 := hcv c0
          have e6 := g3 (by omega)
          refine pg_aload_n dL_law_239 rfl trivial ?_
          refine pg_iconst (v := nI 0) dL_law_240 (by decide) ?_
          refine pg_ald_l (j := 0) dL_law_241 (lW_15 hf) rfl (by decide) (by decide) ?_
          refine pg_iload dL_law_242 rfl ?_
          refine pg_i2l dL_law_244 ?_
          rw [e5, e6]
          refine pg_lcmp dL_law_245 ?_
          rw [lg_self]
          refine pgn_if_eq (tgt := 251) dL_law_246 (by decide) (Iff.rfl) (fun g6 => ?_) (fun g6 => ?_)
          · refine pg_goto (tgt := 1173) dL_law_251 (by decide) ?_
            exact pg_sub KK rfl
          · exact absurd rfl g6
      · exact absurd rfl g4
    · obtain ⟨_, _, e, _⟩ := hq
      cases e
  · obtain ⟨_, _, _, _, e, _⟩ := hq
    cases e
set_option maxRecDepth 100000 in
set_option maxHeartbeats 8000000 in
theorem lc_end {G0 : px_G} {Q : px_Q} {s : mm_S} {u : cc_U} {X : px_M} (hJ : lJ s u X) {i k n : Nat} (hi : i + 4 ≤ px_gL G0) (hL : px_gL G0 ≤ 2048) (hk : k + 70 ≤ 601024) (hn : n + 8000 ≤ 7293034) (K : ∀ s' u' X', lJ s' u' X' → pg_W G0 12 601024 7293034 mL_law Q 1173 (lB G0 i) [] (mm_M s' (cc_M u' X')) (k + 70) (n + 8000)) (lv : List (Nat × px_V)) : pg_W G0 12 601024 7293034 mL_law Q 254 (lB G0 i ++ lv) [] (mm_M s (cc_M u X)) k n := by
  obtain ⟨ok, hu, hX, h9⟩ := id hJ
  refine pg_aload_n dL_law_254 rfl trivial ?_
  refine pg_aload_n dL_law_255 rfl trivial ?_
  refine pg_iload dL_law_256 rfl ?_
  refine pg_iconst (v := nI 1) dL_law_258 (by decide) ?_
  refine pgn_iadd dL_law_259 (by first | exact nI_add _ _ | rfl) ?_
  refine pg_xldN dL_law_260 rfl (by omega) (by omega) ?_
  refine pg_aload_n dL_law_261 rfl trivial ?_
  refine pg_iload dL_law_262 rfl ?_
  refine pg_iconst (v := nI 2) dL_law_264 (by decide) ?_
  refine pgn_iadd dL_law_265 (by first | exact nI_add _ _ | rfl) ?_
  refine pg_xldN dL_law_266 rfl (by omega) (by omega) ?_
  refine pg_i2d dL_law_267 ?_
  refine pg_ldc2d dL_law_268 D_RL_80 ?_
  refine pg_dmul dL_law_271 (dz_of_int _) (dz_vf (lw_b53 _)) ?_
  refine pg_aload_n dL_law_272 rfl trivial ?_
  rw [lW_c]
  refine pg_callH (ch_end (P := lP (nx_end s (px_gx G0 (i + 1)) (px_gx G0 (i + 2)).toInt) (kc_end s (px_gx G0 (i + 1)) (px_gx G0 (i + 2)).toInt) (nI (s.1 13)).toInt64) _ _ hu.o0 (h15m hX) (ce_end (c9m h9) ok hu _ _ (lw_b32 _)) (fun v M1 hq => ?_) (fun E M1 hq => ?_)) dL_law_273 L_RL_86 rfl rfl (by decide) (by omega) (by omega) (Nat.le_of_ble_eq_true rfl) (fun v M1 hq => ?_) (fun E M1 hq => ?_)
  · obtain ⟨e0, e1, u1, e2, hc⟩ := hq.N
    exact ⟨_, u1, e1, e2, e0.symm, Nat.zero_le _, hc, fun _ => rfl⟩
  · obtain ⟨j, e0, e1, u1, e2, hc⟩ := hq.E
    have hl := (List.getElem?_eq_some_iff.mp e1).1
    exact ⟨j, u1, e2, e1, fun z => ⟨e0.symm, by simp at hl; omega, hc, fun z => by omega⟩⟩
  · obtain ⟨c, u1, f, rfl, e, hkc, hc3, hcok, hcv⟩ := hq
    cases e
    rw [lW_b]
    obtain ⟨hX1, h91⟩ := lX_l hX h9 f
    have hf := px_up_s X (15, 0) (.inr (.inl (3, 1, .inr (.inl f))))
    generalize px_up X (15, 0) (.inr (.inl (3, 1, .inr (.inl f)))) = X1 at hX1 h91 hf ⊢
    refine pg_istore dL_law_276 (by decide) ?_
    refine pg_aload_n dL_law_278 rfl trivial ?_
    refine pg_aload_n dL_law_279 rfl trivial ?_
    refine pg_iload dL_law_280 rfl ?_
    refine pg_iconst (v := nI 1) dL_law_282 (by decide) ?_
    refine pgn_iadd dL_law_283 (by first | exact nI_add _ _ | rfl) ?_
    refine pg_xldN dL_law_284 rfl (by omega) (by omega) ?_
    refine pg_aload_n dL_law_285 rfl trivial ?_
    refine pg_iload dL_law_286 rfl ?_
    refine pg_iconst (v := nI 2) dL_law_288 (by decide) ?_
    refine pgn_iadd dL_law_289 (by first | exact nI_add _ _ | rfl) ?_
    refine pg_xldN dL_law_290 rfl (by omega) (by omega) ?_
    refine pg_i2d dL_law_291 ?_
    refine pg_ldc2d dL_law_292 D_RL_80 ?_
    refine pg_dmul dL_law_295 (dz_of_int _) (dz_vf (lw_b53 _)) ?_
    refine pg_callV (me_end s _ ok _ _ (lw_b32 _)) dL_law_296 L_RL_89 (mm_rcv _ _) rfl rfl (by decide) (by omega) (by omega) (Nat.le_of_ble_eq_true rfl) (fun v M1 hq => ?_) (fun E M1 hq => ?_)
    · obtain ⟨w, s1, e, rfl, g1, g2, g3⟩ := hq
      cases e
      refine pg_istore dL_law_299 (by decide) ?_
      refine pg_aload_n dL_law_301 rfl trivial ?_
      refine pg_callVr (me_thrown s1 _) dL_law_302 L_RL_77 (mm_rcv _ _) rfl rfl (by decide) (by omega) (by omega) (Nat.le_of_ble_eq_true rfl) ?_
      rw [g1, ← hkc]
      refine pg_iload dL_law_305 rfl ?_
      refine pgn_icmp_eq (tgt := 312) dL_law_307 (by decide) (Iff.rfl) (fun g4 => ?_) (fun g4 => ?_)
      · have KK := K s1 u1 X1 ⟨mm_ok.nq (ok_end ok) g2, hcok.nq g2, hX1, h91⟩
        refine pg_iload dL_law_312 rfl ?_
        refine pgn_if_ne (tgt := 329) dL_law_314 (by decide) (pn_z (by omega)) (fun g5 => ?_) (fun g5 => ?_)
        · refine pg_goto (tgt := 1173) dL_law_329 (by decide) ?_
          exact pg_sub KK rfl
        · have c0 : c = 0 := by omega
          have e5 := hcv c0
          have e6 := g3 (by omega)
          refine pg_aload_n dL_law_317 rfl trivial ?_
          refine pg_iconst (v := nI 0) dL_law_318 (by decide) ?_
          refine pg_ald_l (j := 0) dL_law_319 (lW_15 hf) rfl (by decide) (by decide) ?_
          refine pg_iload dL_law_320 rfl ?_
          refine pg_i2l dL_law_322 ?_
          rw [e5, e6]
          refine pg_lcmp dL_law_323 ?_
          rw [lg_self]
          refine pgn_if_eq (tgt := 329) dL_law_324 (by decide) (Iff.rfl) (fun g6 => ?_) (fun g6 => ?_)
          · refine pg_goto (tgt := 1173) dL_law_329 (by decide) ?_
            exact pg_sub KK rfl
          · exact absurd rfl g6
      · exact absurd rfl g4
    · obtain ⟨_, _, e, _⟩ := hq
      cases e
  · obtain ⟨_, _, _, _, e, _⟩ := hq
    cases e
set_option maxRecDepth 100000 in
set_option maxHeartbeats 8000000 in
theorem lc_start {G0 : px_G} {Q : px_Q} {s : mm_S} {u : cc_U} {X : px_M} (hJ : lJ s u X) {i k n : Nat} (hi : i + 4 ≤ px_gL G0) (hL : px_gL G0 ≤ 2048) (hk : k + 70 ≤ 601024) (hn : n + 8000 ≤ 7293034) (K : ∀ s' u' X', lJ s' u' X' → pg_W G0 12 601024 7293034 mL_law Q 1173 (lB G0 i) [] (mm_M s' (cc_M u' X')) (k + 70) (n + 8000)) (lv : List (Nat × px_V)) : pg_W G0 12 601024 7293034 mL_law Q 332 (lB G0 i ++ lv) [] (mm_M s (cc_M u X)) k n := by
  obtain ⟨ok, hu, hX, h9⟩ := id hJ
  refine pg_aload_n dL_law_332 rfl trivial ?_
  refine pg_aload_n dL_law_333 rfl trivial ?_
  refine pg_iload dL_law_334 rfl ?_
  refine pg_iconst (v := nI 1) dL_law_336 (by decide) ?_
  refine pgn_iadd dL_law_337 (by first | exact nI_add _ _ | rfl) ?_
  refine pg_xldN dL_law_338 rfl (by omega) (by omega) ?_
  refine pg_aload_n dL_law_339 rfl trivial ?_
  refine pg_iload dL_law_340 rfl ?_
  refine pg_iconst (v := nI 2) dL_law_342 (by decide) ?_
  refine pgn_iadd dL_law_343 (by first | exact nI_add _ _ | rfl) ?_
  refine pg_xldN dL_law_344 rfl (by omega) (by omega) ?_
  refine pg_i2d dL_law_345 ?_
  refine pg_ldc2d dL_law_346 D_RL_80 ?_
  refine pg_dmul dL_law_349 (dz_of_int _) (dz_vf (lw_b53 _)) ?_
  refine pg_aload_n dL_law_350 rfl trivial ?_
  rw [lW_c]
  refine pg_callH (ch_start (P := lP (nx_start s (px_gx G0 (i + 1)) (px_gx G0 (i + 2)).toInt) (kc_start s (px_gx G0 (i + 1)) (px_gx G0 (i + 2)).toInt) (nI (s.1 9)).toInt64) _ _ hu.o0 (h15m hX) (ce_start (c9m h9) ok hu _ _ (lw_b32 _)) (fun v M1 hq => ?_) (fun E M1 hq => ?_)) dL_law_351 L_RL_90 rfl rfl (by decide) (by omega) (by omega) (Nat.le_of_ble_eq_true rfl) (fun v M1 hq => ?_) (fun E M1 hq => ?_)
  · obtain ⟨e0, e1, u1, e2, hc⟩ := hq.N
    exact ⟨_, u1, e1, e2, e0.symm, Nat.zero_le _, hc, fun _ => rfl⟩
  · obtain ⟨j, e0, e1, u1, e2, hc⟩ := hq.E
    have hl := (List.getElem?_eq_some_iff.mp e1).1
    exact ⟨j, u1, e2, e1, fun z => ⟨e0.symm, by simp at hl; omega, hc, fun z => by omega⟩⟩
  · obtain ⟨c, u1, f, rfl, e, hkc, hc3, hcok, hcv⟩ := hq
    cases e
    rw [lW_b]
    obtain ⟨hX1, h91⟩ := lX_l hX h9 f
    have hf := px_up_s X (15, 0) (.inr (.inl (3, 1, .inr (.inl f))))
    generalize px_up X (15, 0) (.inr (.inl (3, 1, .inr (.inl f)))) = X1 at hX1 h91 hf ⊢
    refine pg_istore dL_law_354 (by decide) ?_
    refine pg_aload_n dL_law_356 rfl trivial ?_
    refine pg_aload_n dL_law_357 rfl trivial ?_
    refine pg_iload dL_law_358 rfl ?_
    refine pg_iconst (v := nI 1) dL_law_360 (by decide) ?_
    refine pgn_iadd dL_law_361 (by first | exact nI_add _ _ | rfl) ?_
    refine pg_xldN dL_law_362 rfl (by omega) (by omega) ?_
    refine pg_aload_n dL_law_363 rfl trivial ?_
    refine pg_iload dL_law_364 rfl ?_
    refine pg_iconst (v := nI 2) dL_law_366 (by decide) ?_
    refine pgn_iadd dL_law_367 (by first | exact nI_add _ _ | rfl) ?_
    refine pg_xldN dL_law_368 rfl (by omega) (by omega) ?_
    refine pg_i2d dL_law_369 ?_
    refine pg_ldc2d dL_law_370 D_RL_80 ?_
    refine pg_dmul dL_law_373 (dz_of_int _) (dz_vf (lw_b53 _)) ?_
    refine pg_callV (me_start s _ ok _ _ (lw_b32 _)) dL_law_374 L_RL_92 (mm_rcv _ _) rfl rfl (by decide) (by omega) (by omega) (Nat.le_of_ble_eq_true rfl) (fun v M1 hq => ?_) (fun E M1 hq => ?_)
    · obtain ⟨w, s1, e, rfl, g1, g2, g3⟩ := hq
      cases e
      refine pg_istore dL_law_377 (by decide) ?_
      refine pg_aload_n dL_law_379 rfl trivial ?_
      refine pg_callVr (me_thrown s1 _) dL_law_380 L_RL_77 (mm_rcv _ _) rfl rfl (by decide) (by omega) (by omega) (Nat.le_of_ble_eq_true rfl) ?_
      rw [g1, ← hkc]
      refine pg_iload dL_law_383 rfl ?_
      refine pgn_icmp_eq (tgt := 390) dL_law_385 (by decide) (Iff.rfl) (fun g4 => ?_) (fun g4 => ?_)
      · have KK := K s1 u1 X1 ⟨mm_ok.nq (ok_start ok) g2, hcok.nq g2, hX1, h91⟩
        refine pg_iload dL_law_390 rfl ?_
        refine pgn_if_ne (tgt := 407) dL_law_392 (by decide) (pn_z (by omega)) (fun g5 => ?_) (fun g5 => ?_)
        · refine pg_goto (tgt := 1173) dL_law_407 (by decide) ?_
          exact pg_sub KK rfl
        · have c0 : c = 0 := by omega
          have e5 := hcv c0
          have e6 := g3 (by omega)
          refine pg_aload_n dL_law_395 rfl trivial ?_
          refine pg_iconst (v := nI 0) dL_law_396 (by decide) ?_
          refine pg_ald_l (j := 0) dL_law_397 (lW_15 hf) rfl (by decide) (by decide) ?_
          refine pg_iload dL_law_398 rfl ?_
          refine pg_i2l dL_law_400 ?_
          rw [e5, e6]
          refine pg_lcmp dL_law_401 ?_
          rw [lg_self]
          refine pgn_if_eq (tgt := 407) dL_law_402 (by decide) (Iff.rfl) (fun g6 => ?_) (fun g6 => ?_)
          · refine pg_goto (tgt := 1173) dL_law_407 (by decide) ?_
            exact pg_sub KK rfl
          · exact absurd rfl g6
      · exact absurd rfl g4
    · obtain ⟨_, _, e, _⟩ := hq
      cases e
  · obtain ⟨_, _, _, _, e, _⟩ := hq
    cases e
set_option maxRecDepth 100000 in
set_option maxHeartbeats 8000000 in
theorem lc_through {G0 : px_G} {Q : px_Q} {s : mm_S} {u : cc_U} {X : px_M} (hJ : lJ s u X) {i k n : Nat} (hi : i + 4 ≤ px_gL G0) (hL : px_gL G0 ≤ 2048) (hk : k + 70 ≤ 601024) (hn : n + 8000 ≤ 7293034) (K : ∀ s' u' X', lJ s' u' X' → pg_W G0 12 601024 7293034 mL_law Q 1173 (lB G0 i) [] (mm_M s' (cc_M u' X')) (k + 70) (n + 8000)) (lv : List (Nat × px_V)) : pg_W G0 12 601024 7293034 mL_law Q 410 (lB G0 i ++ lv) [] (mm_M s (cc_M u X)) k n := by
  obtain ⟨ok, hu, hX, h9⟩ := id hJ
  refine pg_aload_n dL_law_410 rfl trivial ?_
  refine pg_aload_n dL_law_411 rfl trivial ?_
  refine pg_iload dL_law_412 rfl ?_
  refine pg_iconst (v := nI 1) dL_law_414 (by decide) ?_
  refine pgn_iadd dL_law_415 (by first | exact nI_add _ _ | rfl) ?_
  refine pg_xldN dL_law_416 rfl (by omega) (by omega) ?_
  refine pg_aload_n dL_law_417 rfl trivial ?_
  refine pg_iload dL_law_418 rfl ?_
  refine pg_iconst (v := nI 2) dL_law_420 (by decide) ?_
  refine pgn_iadd dL_law_421 (by first | exact nI_add _ _ | rfl) ?_
  refine pg_xldN dL_law_422 rfl (by omega) (by omega) ?_
  refine pg_aload_n dL_law_423 rfl trivial ?_
  rw [lW_c]
  refine pg_callH (ch_through (P := lP (nx_through s (px_gx G0 (i + 1)) (px_gx G0 (i + 2))) (kc_through s (px_gx G0 (i + 1)) (px_gx G0 (i + 2))) (if (nI (va_through s (px_gx G0 (i + 1)) (px_gx G0 (i + 2)))) = 0 then 0 else 1)) _ _ hu.o0 (h15m hX) (ce_through (c9m h9) ok hu _ _) (fun v M1 hq => ?_) (fun E M1 hq => ?_)) dL_law_424 L_RL_93 rfl rfl (by decide) (by omega) (by omega) (Nat.le_of_ble_eq_true rfl) (fun v M1 hq => ?_) (fun E M1 hq => ?_)
  · obtain ⟨e0, e1, u1, e2, hc⟩ := hq.N
    exact ⟨_, u1, e1, e2, e0.symm, Nat.zero_le _, hc, fun _ => rfl⟩
  · obtain ⟨j, e0, e1, u1, e2, hc⟩ := hq.E
    have hl := (List.getElem?_eq_some_iff.mp e1).1
    exact ⟨j, u1, e2, e1, fun z => ⟨e0.symm, by simp at hl; omega, hc, fun z => by omega⟩⟩
  · obtain ⟨c, u1, f, rfl, e, hkc, hc3, hcok, hcv⟩ := hq
    cases e
    rw [lW_b]
    obtain ⟨hX1, h91⟩ := lX_l hX h9 f
    have hf := px_up_s X (15, 0) (.inr (.inl (3, 1, .inr (.inl f))))
    generalize px_up X (15, 0) (.inr (.inl (3, 1, .inr (.inl f)))) = X1 at hX1 h91 hf ⊢
    refine pg_istore dL_law_427 (by decide) ?_
    refine pg_aload_n dL_law_429 rfl trivial ?_
    refine pg_aload_n dL_law_430 rfl trivial ?_
    refine pg_iload dL_law_431 rfl ?_
    refine pg_iconst (v := nI 1) dL_law_433 (by decide) ?_
    refine pgn_iadd dL_law_434 (by first | exact nI_add _ _ | rfl) ?_
    refine pg_xldN dL_law_435 rfl (by omega) (by omega) ?_
    refine pg_aload_n dL_law_436 rfl trivial ?_
    refine pg_iload dL_law_437 rfl ?_
    refine pg_iconst (v := nI 2) dL_law_439 (by decide) ?_
    refine pgn_iadd dL_law_440 (by first | exact nI_add _ _ | rfl) ?_
    refine pg_xldN dL_law_441 rfl (by omega) (by omega) ?_
    refine pg_callV (me_through s _ ok _ _) dL_law_442 L_RL_96 (mm_rcv _ _) rfl rfl (by decide) (by omega) (by omega) (Nat.le_of_ble_eq_true rfl) (fun v M1 hq => ?_) (fun E M1 hq => ?_)
    · obtain ⟨w, s1, e, rfl, g1, g2, g3⟩ := hq
      cases e
      refine pg_istore dL_law_445 (by decide) ?_
      refine pg_aload_n dL_law_447 rfl trivial ?_
      refine pg_callVr (me_thrown s1 _) dL_law_448 L_RL_77 (mm_rcv _ _) rfl rfl (by decide) (by omega) (by omega) (Nat.le_of_ble_eq_true rfl) ?_
      rw [g1, ← hkc]
      refine pg_iload dL_law_451 rfl ?_
      refine pgn_icmp_eq (tgt := 458) dL_law_453 (by decide) (Iff.rfl) (fun g4 => ?_) (fun g4 => ?_)
      · have KK := K s1 u1 X1 ⟨mm_ok.nq (ok_through ok) g2, hcok.nq g2, hX1, h91⟩
        refine pg_iload dL_law_458 rfl ?_
        refine pgn_if_ne (tgt := 482) dL_law_460 (by decide) (pn_z (by omega)) (fun g5 => ?_) (fun g5 => ?_)
        · refine pg_goto (tgt := 1173) dL_law_482 (by decide) ?_
          exact pg_sub KK rfl
        · have c0 : c = 0 := by omega
          have e5 := hcv c0
          have e6 := g3 (by omega)
          refine pg_aload_n dL_law_463 rfl trivial ?_
          refine pg_iconst (v := nI 0) dL_law_464 (by decide) ?_
          refine pg_ald_l (j := 0) dL_law_465 (lW_15 hf) rfl (by decide) (by decide) ?_
          rw [e5, ← e6]
          refine pg_iload dL_law_466 rfl ?_
          refine pgn_if_eq (tgt := 475) dL_law_468 (by decide) (Iff.rfl) (fun g7 => ?_) (fun g7 => ?_)
          · rw [if_pos g7]
            refine pg_lconst (v := 0) dL_law_475 rfl ?_
            refine pg_lcmp dL_law_476 ?_
            rw [lg_self]
            refine pgn_if_eq (tgt := 482) dL_law_477 (by decide) (Iff.rfl) (fun g6 => ?_) (fun g6 => ?_)
            · refine pg_goto (tgt := 1173) dL_law_482 (by decide) ?_
              exact pg_sub KK rfl
            · exact absurd rfl g6
          · rw [if_neg g7]
            refine pg_lconst (v := 1) dL_law_471 rfl ?_
            refine pg_goto (tgt := 476) dL_law_472 (by decide) ?_
            refine pg_lcmp dL_law_476 ?_
            rw [lg_self]
            refine pgn_if_eq (tgt := 482) dL_law_477 (by decide) (Iff.rfl) (fun g6 => ?_) (fun g6 => ?_)
            · refine pg_goto (tgt := 1173) dL_law_482 (by decide) ?_
              exact pg_sub KK rfl
            · exact absurd rfl g6
      · exact absurd rfl g4
    · obtain ⟨_, _, e, _⟩ := hq
      cases e
  · obtain ⟨_, _, _, _, e, _⟩ := hq
    cases e
set_option maxRecDepth 100000 in
set_option maxHeartbeats 8000000 in
theorem lc_at {G0 : px_G} {Q : px_Q} {s : mm_S} {u : cc_U} {X : px_M} (hJ : lJ s u X) {Z : List mm_P} (hZ : s.1 25 ≠ 0 → mm_vis s Z ∧ cwv s u Z) {i k n : Nat} (hi : i + 4 ≤ px_gL G0) (hL : px_gL G0 ≤ 2048) (hk : k + 70 ≤ 601024) (hn : n + 8000 ≤ 7293034) (K : ∀ s' u' X', lJ s' u' X' → pg_W G0 12 601024 7293034 mL_law Q 1173 (lB G0 i) [] (mm_M s' (cc_M u' X')) (k + 70) (n + 8000)) (lv : List (Nat × px_V)) : pg_W G0 12 601024 7293034 mL_law Q 618 (lB G0 i ++ lv) [] (mm_M s (cc_M u X)) k n := by
  obtain ⟨ok, hu, hX, h9⟩ := id hJ
  refine pg_aload_n dL_law_618 rfl trivial ?_
  refine pg_aload_n dL_law_619 rfl trivial ?_
  refine pg_iload dL_law_620 rfl ?_
  refine pg_iconst (v := nI 1) dL_law_622 (by decide) ?_
  refine pgn_iadd dL_law_623 (by first | exact nI_add _ _ | rfl) ?_
  refine pg_xldN dL_law_624 rfl (by omega) (by omega) ?_
  refine pg_aload_n dL_law_625 rfl trivial ?_
  refine pg_iload dL_law_626 rfl ?_
  refine pg_iconst (v := nI 2) dL_law_628 (by decide) ?_
  refine pgn_iadd dL_law_629 (by first | exact nI_add _ _ | rfl) ?_
  refine pg_xldN dL_law_630 rfl (by omega) (by omega) ?_
  refine pg_aload_n dL_law_631 rfl trivial ?_
  rw [lW_c]
  refine pg_callH (ch_at (P := lP (s) (kc_at s Z (px_gx G0 (i + 1)) (px_gx G0 (i + 2))) (nI (vr_at Z (px_gx G0 (i + 1)) (px_gx G0 (i + 2)))).toInt64) _ _ hu.o0 (h15m hX) (ce_at (c9m h9) ok hu hZ _ _) (fun v M1 hq => ?_) (fun E M1 hq => ?_)) dL_law_632 L_RL_105 rfl rfl (by decide) (by omega) (by omega) (Nat.le_of_ble_eq_true rfl) (fun v M1 hq => ?_) (fun E M1 hq => ?_)
  · obtain ⟨e0, e1, u1, e2, hc⟩ := hq.N
    exact ⟨_, u1, e1, e2, e0.symm, Nat.zero_le _, hc, fun _ => rfl⟩
  · obtain ⟨j, e0, e1, u1, e2, hc⟩ := hq.E
    have hl := (List.getElem?_eq_some_iff.mp e1).1
    exact ⟨j, u1, e2, e1, fun z => ⟨e0.symm, by simp at hl; omega, hc, fun z => by omega⟩⟩
  · obtain ⟨c, u1, f, rfl, e, hkc, hc3, hcok, hcv⟩ := hq
    cases e
    rw [lW_b]
    obtain ⟨hX1, h91⟩ := lX_l hX h9 f
    have hf := px_up_s X (15, 0) (.inr (.inl (3, 1, .inr (.inl f))))
    generalize px_up X (15, 0) (.inr (.inl (3, 1, .inr (.inl f)))) = X1 at hX1 h91 hf ⊢
    refine pg_istore dL_law_635 (by decide) ?_
    refine pg_aload_n dL_law_637 rfl trivial ?_
    refine pg_aload_n dL_law_638 rfl trivial ?_
    refine pg_iload dL_law_639 rfl ?_
    refine pg_iconst (v := nI 1) dL_law_641 (by decide) ?_
    refine pgn_iadd dL_law_642 (by first | exact nI_add _ _ | rfl) ?_
    refine pg_xldN dL_law_643 rfl (by omega) (by omega) ?_
    refine pg_aload_n dL_law_644 rfl trivial ?_
    refine pg_iload dL_law_645 rfl ?_
    refine pg_iconst (v := nI 2) dL_law_647 (by decide) ?_
    refine pgn_iadd dL_law_648 (by first | exact nI_add _ _ | rfl) ?_
    refine pg_xldN dL_law_649 rfl (by omega) (by omega) ?_
    refine pg_callV (me_at s _ ok Z (fun z => (hZ z).1) _ _) dL_law_650 L_RL_107 (mm_rcv _ _) rfl rfl (by decide) (by omega) (by omega) (Nat.le_of_ble_eq_true rfl) (fun v M1 hq => ?_) (fun E M1 hq => ?_)
    · obtain ⟨w, s1, e, rfl, g1, g2, g3⟩ := hq
      cases e
      refine pg_istore dL_law_653 (by decide) ?_
      refine pg_aload_n dL_law_655 rfl trivial ?_
      refine pg_callVr (me_thrown s1 _) dL_law_656 L_RL_77 (mm_rcv _ _) rfl rfl (by decide) (by omega) (by omega) (Nat.le_of_ble_eq_true rfl) ?_
      rw [g1, ← hkc]
      refine pg_iload dL_law_659 rfl ?_
      refine pgn_icmp_eq (tgt := 666) dL_law_661 (by decide) (Iff.rfl) (fun g4 => ?_) (fun g4 => ?_)
      · have KK := K s1 u1 X1 ⟨mm_ok.nq ok g2, hcok.nq g2, hX1, h91⟩
        refine pg_iload dL_law_666 rfl ?_
        refine pgn_if_ne (tgt := 683) dL_law_668 (by decide) (pn_z (by omega)) (fun g5 => ?_) (fun g5 => ?_)
        · refine pg_goto (tgt := 1173) dL_law_683 (by decide) ?_
          exact pg_sub KK rfl
        · have c0 : c = 0 := by omega
          have e5 := hcv c0
          have e6 := g3 (by omega)
          refine pg_aload_n dL_law_671 rfl trivial ?_
          refine pg_iconst (v := nI 0) dL_law_672 (by decide) ?_
          refine pg_ald_l (j := 0) dL_law_673 (lW_15 hf) rfl (by decide) (by decide) ?_
          refine pg_iload dL_law_674 rfl ?_
          refine pg_i2l dL_law_676 ?_
          rw [e5, e6]
          refine pg_lcmp dL_law_677 ?_
          rw [lg_self]
          refine pgn_if_eq (tgt := 683) dL_law_678 (by decide) (Iff.rfl) (fun g6 => ?_) (fun g6 => ?_)
          · refine pg_goto (tgt := 1173) dL_law_683 (by decide) ?_
            exact pg_sub KK rfl
          · exact absurd rfl g6
      · exact absurd rfl g4
    · obtain ⟨_, _, e, _⟩ := hq
      cases e
  · obtain ⟨_, _, _, _, e, _⟩ := hq
    cases e
set_option maxRecDepth 100000 in
set_option maxHeartbeats 8000000 in
theorem lc_group {G0 : px_G} {Q : px_Q} {s : mm_S} {u : cc_U} {X : px_M} (hJ : lJ s u X) {i k n : Nat} (hi : i + 4 ≤ px_gL G0) (hL : px_gL G0 ≤ 2048) (hk : k + 70 ≤ 601024) (hn : n + 8000 ≤ 7293034) (K : ∀ s' u' X', lJ s' u' X' → pg_W G0 12 601024 7293034 mL_law Q 1173 (lB G0 i) [] (mm_M s' (cc_M u' X')) (k + 70) (n + 8000)) (lv : List (Nat × px_V)) : pg_W G0 12 601024 7293034 mL_law Q 686 (lB G0 i ++ lv) [] (mm_M s (cc_M u X)) k n := by
  obtain ⟨ok, hu, hX, h9⟩ := id hJ
  refine pg_aload_n dL_law_686 rfl trivial ?_
  refine pg_aload_n dL_law_687 rfl trivial ?_
  refine pg_iload dL_law_688 rfl ?_
  refine pg_iconst (v := nI 1) dL_law_690 (by decide) ?_
  refine pgn_iadd dL_law_691 (by first | exact nI_add _ _ | rfl) ?_
  refine pg_xldN dL_law_692 rfl (by omega) (by omega) ?_
  refine pg_aload_n dL_law_693 rfl trivial ?_
  refine pg_iload dL_law_694 rfl ?_
  refine pg_iconst (v := nI 2) dL_law_696 (by decide) ?_
  refine pgn_iadd dL_law_697 (by first | exact nI_add _ _ | rfl) ?_
  refine pg_xldN dL_law_698 rfl (by omega) (by omega) ?_
  refine pg_aload_n dL_law_699 rfl trivial ?_
  rw [lW_c]
  refine pg_callH (ch_group (P := lP (nx_group s (px_gx G0 (i + 1)) (px_gx G0 (i + 2))) (kc_group s (px_gx G0 (i + 1)) (px_gx G0 (i + 2))) (nI (va_group s (px_gx G0 (i + 1)) (px_gx G0 (i + 2)))).toInt64) _ _ hu.o0 (h15m hX) (ce_group (c9m h9) ok hu _ _) (fun v M1 hq => ?_) (fun E M1 hq => ?_)) dL_law_700 L_RL_108 rfl rfl (by decide) (by omega) (by omega) (Nat.le_of_ble_eq_true rfl) (fun v M1 hq => ?_) (fun E M1 hq => ?_)
  · obtain ⟨e0, e1, u1, e2, hc⟩ := hq.N
    exact ⟨_, u1, e1, e2, e0.symm, Nat.zero_le _, hc, fun _ => rfl⟩
  · obtain ⟨j, e0, e1, u1, e2, hc⟩ := hq.E
    have hl := (List.getElem?_eq_some_iff.mp e1).1
    exact ⟨j, u1, e2, e1, fun z => ⟨e0.symm, by simp at hl; omega, hc, fun z => by omega⟩⟩
  · obtain ⟨c, u1, f, rfl, e, hkc, hc3, hcok, hcv⟩ := hq
    cases e
    rw [lW_b]
    obtain ⟨hX1, h91⟩ := lX_l hX h9 f
    have hf := px_up_s X (15, 0) (.inr (.inl (3, 1, .inr (.inl f))))
    generalize px_up X (15, 0) (.inr (.inl (3, 1, .inr (.inl f)))) = X1 at hX1 h91 hf ⊢
    refine pg_istore dL_law_703 (by decide) ?_
    refine pg_aload_n dL_law_705 rfl trivial ?_
    refine pg_aload_n dL_law_706 rfl trivial ?_
    refine pg_iload dL_law_707 rfl ?_
    refine pg_iconst (v := nI 1) dL_law_709 (by decide) ?_
    refine pgn_iadd dL_law_710 (by first | exact nI_add _ _ | rfl) ?_
    refine pg_xldN dL_law_711 rfl (by omega) (by omega) ?_
    refine pg_aload_n dL_law_712 rfl trivial ?_
    refine pg_iload dL_law_713 rfl ?_
    refine pg_iconst (v := nI 2) dL_law_715 (by decide) ?_
    refine pgn_iadd dL_law_716 (by first | exact nI_add _ _ | rfl) ?_
    refine pg_xldN dL_law_717 rfl (by omega) (by omega) ?_
    refine pg_callV (me_group s _ ok _ _) dL_law_718 L_RL_110 (mm_rcv _ _) rfl rfl (by decide) (by omega) (by omega) (Nat.le_of_ble_eq_true rfl) (fun v M1 hq => ?_) (fun E M1 hq => ?_)
    · obtain ⟨w, s1, e, rfl, g1, g2, g3⟩ := hq
      cases e
      refine pg_istore dL_law_721 (by decide) ?_
      refine pg_aload_n dL_law_723 rfl trivial ?_
      refine pg_callVr (me_thrown s1 _) dL_law_724 L_RL_77 (mm_rcv _ _) rfl rfl (by decide) (by omega) (by omega) (Nat.le_of_ble_eq_true rfl) ?_
      rw [g1, ← hkc]
      refine pg_iload dL_law_727 rfl ?_
      refine pgn_icmp_eq (tgt := 734) dL_law_729 (by decide) (Iff.rfl) (fun g4 => ?_) (fun g4 => ?_)
      · have KK := K s1 u1 X1 ⟨mm_ok.nq (ok_group ok) g2, hcok.nq g2, hX1, h91⟩
        refine pg_iload dL_law_734 rfl ?_
        refine pgn_if_ne (tgt := 751) dL_law_736 (by decide) (pn_z (by omega)) (fun g5 => ?_) (fun g5 => ?_)
        · refine pg_goto (tgt := 1173) dL_law_751 (by decide) ?_
          exact pg_sub KK rfl
        · have c0 : c = 0 := by omega
          have e5 := hcv c0
          have e6 := g3 (by omega)
          refine pg_aload_n dL_law_739 rfl trivial ?_
          refine pg_iconst (v := nI 0) dL_law_740 (by decide) ?_
          refine pg_ald_l (j := 0) dL_law_741 (lW_15 hf) rfl (by decide) (by decide) ?_
          refine pg_iload dL_law_742 rfl ?_
          refine pg_i2l dL_law_744 ?_
          rw [e5, e6]
          refine pg_lcmp dL_law_745 ?_
          rw [lg_self]
          refine pgn_if_eq (tgt := 751) dL_law_746 (by decide) (Iff.rfl) (fun g6 => ?_) (fun g6 => ?_)
          · refine pg_goto (tgt := 1173) dL_law_751 (by decide) ?_
            exact pg_sub KK rfl
          · exact absurd rfl g6
      · exact absurd rfl g4
    · obtain ⟨_, _, e, _⟩ := hq
      cases e
  · obtain ⟨_, _, _, _, e, _⟩ := hq
    cases e
set_option maxRecDepth 100000 in
set_option maxHeartbeats 8000000 in
theorem lc_model {G0 : px_G} {Q : px_Q} {s : mm_S} {u : cc_U} {X : px_M} (hJ : lJ s u X) {i k n : Nat} (hi : i + 4 ≤ px_gL G0) (hL : px_gL G0 ≤ 2048) (hk : k + 70 ≤ 601024) (hn : n + 8000 ≤ 7293034) (K : ∀ s' u' X', lJ s' u' X' → pg_W G0 12 601024 7293034 mL_law Q 1173 (lB G0 i) [] (mm_M s' (cc_M u' X')) (k + 70) (n + 8000)) (lv : List (Nat × px_V)) : pg_W G0 12 601024 7293034 mL_law Q 754 (lB G0 i ++ lv) [] (mm_M s (cc_M u X)) k n := by
  obtain ⟨ok, hu, hX, h9⟩ := id hJ
  refine pg_aload_n dL_law_754 rfl trivial ?_
  refine pg_aload_n dL_law_755 rfl trivial ?_
  refine pg_iload dL_law_756 rfl ?_
  refine pg_iconst (v := nI 1) dL_law_758 (by decide) ?_
  refine pgn_iadd dL_law_759 (by first | exact nI_add _ _ | rfl) ?_
  refine pg_xldN dL_law_760 rfl (by omega) (by omega) ?_
  refine pg_aload_n dL_law_761 rfl trivial ?_
  rw [lW_c]
  refine pg_callH (ch_model (P := lP (s) (kc_model (px_gx G0 (i + 1))) (nI (va_model s (px_gx G0 (i + 1)))).toInt64) _ hu.o0 (h15m hX) (ce_model (c9m h9) ok hu _) (fun v M1 hq => ?_) (fun E M1 hq => ?_)) dL_law_762 L_RL_111 rfl rfl (by decide) (by omega) (by omega) (Nat.le_of_ble_eq_true rfl) (fun v M1 hq => ?_) (fun E M1 hq => ?_)
  · obtain ⟨e0, e1, u1, e2, hc⟩ := hq.N
    exact ⟨_, u1, e1, e2, e0.symm, Nat.zero_le _, hc, fun _ => rfl⟩
  · obtain ⟨j, e0, e1, u1, e2, hc⟩ := hq.E
    have hl := (List.getElem?_eq_some_iff.mp e1).1
    exact ⟨j, u1, e2, e1, fun z => ⟨e0.symm, by simp at hl; omega, hc, fun z => by omega⟩⟩
  · obtain ⟨c, u1, f, rfl, e, hkc, hc3, hcok, hcv⟩ := hq
    cases e
    rw [lW_b]
    obtain ⟨hX1, h91⟩ := lX_l hX h9 f
    have hf := px_up_s X (15, 0) (.inr (.inl (3, 1, .inr (.inl f))))
    generalize px_up X (15, 0) (.inr (.inl (3, 1, .inr (.inl f)))) = X1 at hX1 h91 hf ⊢
    refine pg_istore dL_law_765 (by decide) ?_
    refine pg_aload_n dL_law_767 rfl trivial ?_
    refine pg_aload_n dL_law_768 rfl trivial ?_
    refine pg_iload dL_law_769 rfl ?_
    refine pg_iconst (v := nI 1) dL_law_771 (by decide) ?_
    refine pgn_iadd dL_law_772 (by first | exact nI_add _ _ | rfl) ?_
    refine pg_xldN dL_law_773 rfl (by omega) (by omega) ?_
    refine pg_callV (me_model s _ ok _) dL_law_774 L_RL_113 (mm_rcv _ _) rfl rfl (by decide) (by omega) (by omega) (Nat.le_of_ble_eq_true rfl) (fun v M1 hq => ?_) (fun E M1 hq => ?_)
    · obtain ⟨w, s1, e, rfl, g1, g2, g3⟩ := hq
      cases e
      refine pg_istore dL_law_777 (by decide) ?_
      refine pg_aload_n dL_law_779 rfl trivial ?_
      refine pg_callVr (me_thrown s1 _) dL_law_780 L_RL_77 (mm_rcv _ _) rfl rfl (by decide) (by omega) (by omega) (Nat.le_of_ble_eq_true rfl) ?_
      rw [g1, ← hkc]
      refine pg_iload dL_law_783 rfl ?_
      refine pgn_icmp_eq (tgt := 790) dL_law_785 (by decide) (Iff.rfl) (fun g4 => ?_) (fun g4 => ?_)
      · have KK := K s1 u1 X1 ⟨mm_ok.nq ok g2, hcok.nq g2, hX1, h91⟩
        refine pg_iload dL_law_790 rfl ?_
        refine pgn_if_ne (tgt := 807) dL_law_792 (by decide) (pn_z (by omega)) (fun g5 => ?_) (fun g5 => ?_)
        · refine pg_goto (tgt := 1173) dL_law_807 (by decide) ?_
          exact pg_sub KK rfl
        · have c0 : c = 0 := by omega
          have e5 := hcv c0
          have e6 := g3 (by omega)
          refine pg_aload_n dL_law_795 rfl trivial ?_
          refine pg_iconst (v := nI 0) dL_law_796 (by decide) ?_
          refine pg_ald_l (j := 0) dL_law_797 (lW_15 hf) rfl (by decide) (by decide) ?_
          refine pg_iload dL_law_798 rfl ?_
          refine pg_i2l dL_law_800 ?_
          rw [e5, e6]
          refine pg_lcmp dL_law_801 ?_
          rw [lg_self]
          refine pgn_if_eq (tgt := 807) dL_law_802 (by decide) (Iff.rfl) (fun g6 => ?_) (fun g6 => ?_)
          · refine pg_goto (tgt := 1173) dL_law_807 (by decide) ?_
            exact pg_sub KK rfl
          · exact absurd rfl g6
      · exact absurd rfl g4
    · obtain ⟨_, _, e, _⟩ := hq
      cases e
  · obtain ⟨_, _, _, _, e, _⟩ := hq
    cases e
set_option maxRecDepth 100000 in
set_option maxHeartbeats 8000000 in
theorem lc_into {G0 : px_G} {Q : px_Q} {s : mm_S} {u : cc_U} {X : px_M} (hJ : lJ s u X) {i k n : Nat} (hi : i + 4 ≤ px_gL G0) (hL : px_gL G0 ≤ 2048) (hk : k + 70 ≤ 601024) (hn : n + 8000 ≤ 7293034) (K : ∀ s' u' X', lJ s' u' X' → pg_W G0 12 601024 7293034 mL_law Q 1173 (lB G0 i) [] (mm_M s' (cc_M u' X')) (k + 70) (n + 8000)) (lv : List (Nat × px_V)) : pg_W G0 12 601024 7293034 mL_law Q 810 (lB G0 i ++ lv) [] (mm_M s (cc_M u X)) k n := by
  obtain ⟨ok, hu, hX, h9⟩ := id hJ
  refine pg_aload_n dL_law_810 rfl trivial ?_
  refine pg_aload_n dL_law_811 rfl trivial ?_
  refine pg_iload dL_law_812 rfl ?_
  refine pg_iconst (v := nI 1) dL_law_814 (by decide) ?_
  refine pgn_iadd dL_law_815 (by first | exact nI_add _ _ | rfl) ?_
  refine pg_xldN dL_law_816 rfl (by omega) (by omega) ?_
  refine pg_aload_n dL_law_817 rfl trivial ?_
  refine pg_iload dL_law_818 rfl ?_
  refine pg_iconst (v := nI 2) dL_law_820 (by decide) ?_
  refine pgn_iadd dL_law_821 (by first | exact nI_add _ _ | rfl) ?_
  refine pg_xldN dL_law_822 rfl (by omega) (by omega) ?_
  refine pg_aload_n dL_law_823 rfl trivial ?_
  rw [lW_c]
  refine pg_callH (ch_into (P := lP (nx_into s (px_gx G0 (i + 1)) (px_gx G0 (i + 2))) (kc_into s (px_gx G0 (i + 1)) (px_gx G0 (i + 2))) (if (nI (va_into s (px_gx G0 (i + 1)) (px_gx G0 (i + 2)))) = 0 then 0 else 1)) _ _ hu.o0 (h15m hX) (ce_into (c9m h9) ok hu _ _) (fun v M1 hq => ?_) (fun E M1 hq => ?_)) dL_law_824 L_RL_114 rfl rfl (by decide) (by omega) (by omega) (Nat.le_of_ble_eq_true rfl) (fun v M1 hq => ?_) (fun E M1 hq => ?_)
  · obtain ⟨e0, e1, u1, e2, hc⟩ := hq.N
    exact ⟨_, u1, e1, e2, e0.symm, Nat.zero_le _, hc, fun _ => rfl⟩
  · obtain ⟨j, e0, e1, u1, e2, hc⟩ := hq.E
    have hl := (List.getElem?_eq_some_iff.mp e1).1
    exact ⟨j, u1, e2, e1, fun z => ⟨e0.symm, by simp at hl; omega, hc, fun z => by omega⟩⟩
  · obtain ⟨c, u1, f, rfl, e, hkc, hc3, hcok, hcv⟩ := hq
    cases e
    rw [lW_b]
    obtain ⟨hX1, h91⟩ := lX_l hX h9 f
    have hf := px_up_s X (15, 0) (.inr (.inl (3, 1, .inr (.inl f))))
    generalize px_up X (15, 0) (.inr (.inl (3, 1, .inr (.inl f)))) = X1 at hX1 h91 hf ⊢
    refine pg_istore dL_law_827 (by decide) ?_
    refine pg_aload_n dL_law_829 rfl trivial ?_
    refine pg_aload_n dL_law_830 rfl trivial ?_
    refine pg_iload dL_law_831 rfl ?_
    refine pg_iconst (v := nI 1) dL_law_833 (by decide) ?_
    refine pgn_iadd dL_law_834 (by first | exact nI_add _ _ | rfl) ?_
    refine pg_xldN dL_law_835 rfl (by omega) (by omega) ?_
    refine pg_aload_n dL_law_836 rfl trivial ?_
    refine pg_iload dL_law_837 rfl ?_
    refine pg_iconst (v := nI 2) dL_law_839 (by decide) ?_
    refine pgn_iadd dL_law_840 (by first | exact nI_add _ _ | rfl) ?_
    refine pg_xldN dL_law_841 rfl (by omega) (by omega) ?_
    refine pg_callV (me_into s _ ok _ _) dL_law_842 L_RL_116 (mm_rcv _ _) rfl rfl (by decide) (by omega) (by omega) (Nat.le_of_ble_eq_true rfl) (fun v M1 hq => ?_) (fun E M1 hq => ?_)
    · obtain ⟨w, s1, e, rfl, g1, g2, g3⟩ := hq
      cases e
      refine pg_istore dL_law_845 (by decide) ?_
      refine pg_aload_n dL_law_847 rfl trivial ?_
      refine pg_callVr (me_thrown s1 _) dL_law_848 L_RL_77 (mm_rcv _ _) rfl rfl (by decide) (by omega) (by omega) (Nat.le_of_ble_eq_true rfl) ?_
      rw [g1, ← hkc]
      refine pg_iload dL_law_851 rfl ?_
      refine pgn_icmp_eq (tgt := 858) dL_law_853 (by decide) (Iff.rfl) (fun g4 => ?_) (fun g4 => ?_)
      · have KK := K s1 u1 X1 ⟨mm_ok.nq (ok_into ok) g2, hcok.nq g2, hX1, h91⟩
        refine pg_iload dL_law_858 rfl ?_
        refine pgn_if_ne (tgt := 882) dL_law_860 (by decide) (pn_z (by omega)) (fun g5 => ?_) (fun g5 => ?_)
        · refine pg_goto (tgt := 1173) dL_law_882 (by decide) ?_
          exact pg_sub KK rfl
        · have c0 : c = 0 := by omega
          have e5 := hcv c0
          have e6 := g3 (by omega)
          refine pg_aload_n dL_law_863 rfl trivial ?_
          refine pg_iconst (v := nI 0) dL_law_864 (by decide) ?_
          refine pg_ald_l (j := 0) dL_law_865 (lW_15 hf) rfl (by decide) (by decide) ?_
          rw [e5, ← e6]
          refine pg_iload dL_law_866 rfl ?_
          refine pgn_if_eq (tgt := 875) dL_law_868 (by decide) (Iff.rfl) (fun g7 => ?_) (fun g7 => ?_)
          · rw [if_pos g7]
            refine pg_lconst (v := 0) dL_law_875 rfl ?_
            refine pg_lcmp dL_law_876 ?_
            rw [lg_self]
            refine pgn_if_eq (tgt := 882) dL_law_877 (by decide) (Iff.rfl) (fun g6 => ?_) (fun g6 => ?_)
            · refine pg_goto (tgt := 1173) dL_law_882 (by decide) ?_
              exact pg_sub KK rfl
            · exact absurd rfl g6
          · rw [if_neg g7]
            refine pg_lconst (v := 1) dL_law_871 rfl ?_
            refine pg_goto (tgt := 876) dL_law_872 (by decide) ?_
            refine pg_lcmp dL_law_876 ?_
            rw [lg_self]
            refine pgn_if_eq (tgt := 882) dL_law_877 (by decide) (Iff.rfl) (fun g6 => ?_) (fun g6 => ?_)
            · refine pg_goto (tgt := 1173) dL_law_882 (by decide) ?_
              exact pg_sub KK rfl
            · exact absurd rfl g6
      · exact absurd rfl g4
    · obtain ⟨_, _, e, _⟩ := hq
      cases e
  · obtain ⟨_, _, _, _, e, _⟩ := hq
    cases e
set_option maxRecDepth 100000 in
set_option maxHeartbeats 8000000 in
theorem lc_whatIf {G0 : px_G} {Q : px_Q} {s : mm_S} {u : cc_U} {X : px_M} (hJ : lJ s u X) {i k n : Nat} (hi : i + 4 ≤ px_gL G0) (hL : px_gL G0 ≤ 2048) (hk : k + 70 ≤ 601024) (hn : n + 8000 ≤ 7293034) (K : ∀ s' u' X', lJ s' u' X' → pg_W G0 12 601024 7293034 mL_law Q 1173 (lB G0 i) [] (mm_M s' (cc_M u' X')) (k + 70) (n + 8000)) (lv : List (Nat × px_V)) : pg_W G0 12 601024 7293034 mL_law Q 1075 (lB G0 i ++ lv) [] (mm_M s (cc_M u X)) k n := by
  obtain ⟨ok, hu, hX, h9⟩ := id hJ
  refine pg_aload_n dL_law_1075 rfl trivial ?_
  refine pg_aload_n dL_law_1076 rfl trivial ?_
  refine pg_iload dL_law_1077 rfl ?_
  refine pg_iconst (v := nI 1) dL_law_1079 (by decide) ?_
  refine pgn_iadd dL_law_1080 (by first | exact nI_add _ _ | rfl) ?_
  refine pg_xldN dL_law_1081 rfl (by omega) (by omega) ?_
  refine pg_aload_n dL_law_1082 rfl trivial ?_
  refine pg_iload dL_law_1083 rfl ?_
  refine pg_iconst (v := nI 2) dL_law_1085 (by decide) ?_
  refine pgn_iadd dL_law_1086 (by first | exact nI_add _ _ | rfl) ?_
  refine pg_xldN dL_law_1087 rfl (by omega) (by omega) ?_
  refine pg_i2d dL_law_1088 ?_
  refine pg_ldc2d dL_law_1089 D_RL_80 ?_
  refine pg_dmul dL_law_1092 (dz_of_int _) (dz_vf (lw_b53 _)) ?_
  refine pg_aload_n dL_law_1093 rfl trivial ?_
  rw [lW_c]
  refine pg_callH (ch_whatIf (P := lP (nx_whatIf s (px_gx G0 (i + 1)) (px_gx G0 (i + 2)).toInt) (kc_whatIf s (px_gx G0 (i + 1)) (px_gx G0 (i + 2)).toInt) (if (nI (va_whatIf s (px_gx G0 (i + 1)) (px_gx G0 (i + 2)).toInt)) = 0 then 0 else 1)) _ _ hu.o0 (h15m hX) (ce_whatIf (c9m h9) ok hu _ _ (lw_b32 _)) (fun v M1 hq => ?_) (fun E M1 hq => ?_)) dL_law_1094 L_RL_125 rfl rfl (by decide) (by omega) (by omega) (Nat.le_of_ble_eq_true rfl) (fun v M1 hq => ?_) (fun E M1 hq => ?_)
  · obtain ⟨e0, e1, u1, e2, hc⟩ := hq.N
    exact ⟨_, u1, e1, e2, e0.symm, Nat.zero_le _, hc, fun _ => rfl⟩
  · obtain ⟨j, e0, e1, u1, e2, hc⟩ := hq.E
    have hl := (List.getElem?_eq_some_iff.mp e1).1
    exact ⟨j, u1, e2, e1, fun z => ⟨e0.symm, by simp at hl; omega, hc, fun z => by omega⟩⟩
  · obtain ⟨c, u1, f, rfl, e, hkc, hc3, hcok, hcv⟩ := hq
    cases e
    rw [lW_b]
    obtain ⟨hX1, h91⟩ := lX_l hX h9 f
    have hf := px_up_s X (15, 0) (.inr (.inl (3, 1, .inr (.inl f))))
    generalize px_up X (15, 0) (.inr (.inl (3, 1, .inr (.inl f)))) = X1 at hX1 h91 hf ⊢
    refine pg_istore dL_law_1097 (by decide) ?_
    refine pg_aload_n dL_law_1099 rfl trivial ?_
    refine pg_aload_n dL_law_1100 rfl trivial ?_
    refine pg_iload dL_law_1101 rfl ?_
    refine pg_iconst (v := nI 1) dL_law_1103 (by decide) ?_
    refine pgn_iadd dL_law_1104 (by first | exact nI_add _ _ | rfl) ?_
    refine pg_xldN dL_law_1105 rfl (by omega) (by omega) ?_
    refine pg_aload_n dL_law_1106 rfl trivial ?_
    refine pg_iload dL_law_1107 rfl ?_
    refine pg_iconst (v := nI 2) dL_law_1109 (by decide) ?_
    refine pgn_iadd dL_law_1110 (by first | exact nI_add _ _ | rfl) ?_
    refine pg_xldN dL_law_1111 rfl (by omega) (by omega) ?_
    refine pg_i2d dL_law_1112 ?_
    refine pg_ldc2d dL_law_1113 D_RL_80 ?_
    refine pg_dmul dL_law_1116 (dz_of_int _) (dz_vf (lw_b53 _)) ?_
    refine pg_callV (me_whatIf s _ ok _ _ (lw_b32 _)) dL_law_1117 L_RL_127 (mm_rcv _ _) rfl rfl (by decide) (by omega) (by omega) (Nat.le_of_ble_eq_true rfl) (fun v M1 hq => ?_) (fun E M1 hq => ?_)
    · obtain ⟨w, s1, e, rfl, g1, g2, g3⟩ := hq
      cases e
      refine pg_istore dL_law_1120 (by decide) ?_
      refine pg_aload_n dL_law_1122 rfl trivial ?_
      refine pg_callVr (me_thrown s1 _) dL_law_1123 L_RL_77 (mm_rcv _ _) rfl rfl (by decide) (by omega) (by omega) (Nat.le_of_ble_eq_true rfl) ?_
      rw [g1, ← hkc]
      refine pg_iload dL_law_1126 rfl ?_
      refine pgn_icmp_eq (tgt := 1133) dL_law_1128 (by decide) (Iff.rfl) (fun g4 => ?_) (fun g4 => ?_)
      · have KK := K s1 u1 X1 ⟨mm_ok.nq (ok_whatIf ok) g2, hcok.nq g2, hX1, h91⟩
        refine pg_iload dL_law_1133 rfl ?_
        refine pgn_if_ne (tgt := 1157) dL_law_1135 (by decide) (pn_z (by omega)) (fun g5 => ?_) (fun g5 => ?_)
        · refine pg_goto (tgt := 1173) dL_law_1157 (by decide) ?_
          exact pg_sub KK rfl
        · have c0 : c = 0 := by omega
          have e5 := hcv c0
          have e6 := g3 (by omega)
          refine pg_aload_n dL_law_1138 rfl trivial ?_
          refine pg_iconst (v := nI 0) dL_law_1139 (by decide) ?_
          refine pg_ald_l (j := 0) dL_law_1140 (lW_15 hf) rfl (by decide) (by decide) ?_
          rw [e5, ← e6]
          refine pg_iload dL_law_1141 rfl ?_
          refine pgn_if_eq (tgt := 1150) dL_law_1143 (by decide) (Iff.rfl) (fun g7 => ?_) (fun g7 => ?_)
          · rw [if_pos g7]
            refine pg_lconst (v := 0) dL_law_1150 rfl ?_
            refine pg_lcmp dL_law_1151 ?_
            rw [lg_self]
            refine pgn_if_eq (tgt := 1157) dL_law_1152 (by decide) (Iff.rfl) (fun g6 => ?_) (fun g6 => ?_)
            · refine pg_goto (tgt := 1173) dL_law_1157 (by decide) ?_
              exact pg_sub KK rfl
            · exact absurd rfl g6
          · rw [if_neg g7]
            refine pg_lconst (v := 1) dL_law_1146 rfl ?_
            refine pg_goto (tgt := 1151) dL_law_1147 (by decide) ?_
            refine pg_lcmp dL_law_1151 ?_
            rw [lg_self]
            refine pgn_if_eq (tgt := 1157) dL_law_1152 (by decide) (Iff.rfl) (fun g6 => ?_) (fun g6 => ?_)
            · refine pg_goto (tgt := 1173) dL_law_1157 (by decide) ?_
              exact pg_sub KK rfl
            · exact absurd rfl g6
      · exact absurd rfl g4
    · obtain ⟨_, _, e, _⟩ := hq
      cases e
  · obtain ⟨_, _, _, _, e, _⟩ := hq
    cases e
