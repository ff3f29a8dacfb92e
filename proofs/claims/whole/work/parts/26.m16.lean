/-! ===== a row comes ===== -/
abbrev mm_E : Type := Int × Nat × List Nat
def mm_key (e : mm_E) : List Nat := e.2.1 :: e.2.2.reverse
def mm_eR (e e' : mm_E) : Prop := e'.1 < e.1 ∨ e.1 = e'.1 ∧ px_cm (mm_key e) (mm_key e') = 0
def mm_eok (e : mm_E) : Prop := e.2.1 < 30 ∧ e.2.2.length ≤ 64 ∧ (∀ a ∈ e.2.2, a < 150) ∧ e.1.natAbs ≤ 2 ^ 40
def mm_en (s : mm_S) (r : Nat) (e : mm_E) : Prop := s.2.2 20 r = e.1 ∧ mm_row s e.2.1 e.2.2 r
def mm_pl (s : mm_S) (P : Nat) (L : List mm_E) : Prop := s.2.1 21 P = L.length ∧ ∀ k e, L[k]? = some e → mm_en s (40 * P + k) e
def mm_tl (s : mm_S) (b w i : Nat) : List Nat → Prop
  | [] => b = 0 ∧ w = i
  | a :: as => ∃ r', r' < 26400 ∧ r' / 440 = s.2.1 3 a ∧ b = r' + 1 ∧ w = a ∧ mm_row s i as r'
theorem mm_row_tl {s : mm_S} {i r : Nat} {as : List Nat} : mm_row s i as r ↔ mm_tl s (s.2.1 18 r) (s.2.1 19 r) i as := by cases as <;> exact Iff.rfl
theorem mm_tl.fr {s s' : mm_S} (h3 : s'.2.1 3 = s.2.1 3) {i : Nat} : ∀ {as : List Nat} {b w : Nat}, (∀ r, r < 26400 → (∃ a ∈ as, r / 440 = s.2.1 3 a) → s'.2.1 18 r = s.2.1 18 r ∧ s'.2.1 19 r = s.2.1 19 r) → mm_tl s b w i as → mm_tl s' b w i as := by
  intro as
  induction as with
  | nil => intro b w _ h; exact h
  | cons a as ih =>
    intro b w hx h
    obtain ⟨r', h1, h2, hb, hw, h4⟩ := h
    obtain ⟨e1, e2⟩ := hx r' h1 ⟨a, List.mem_cons_self, h2⟩
    refine ⟨r', h1, by rw [h3]; exact h2, hb, hw, mm_row_tl.mpr ?_⟩
    rw [e1, e2]
    exact ih (fun r hr hc => hx r hr (by obtain ⟨c, c1, c2⟩ := hc; exact ⟨c, List.mem_cons_of_mem _ c1, c2⟩)) (mm_row_tl.mp h4)
/-- the state but for the rows 18, 19, 20 and what is scratch -/
def mm_K (s : mm_S) (B W : Nat → Nat) (T : Nat → Int) (t : mm_S) : Prop := t.1 = s.1 ∧ (∀ k, k ≠ 18 → k ≠ 19 → k ≠ 27 → k ≠ 28 → t.2.1 k = s.2.1 k) ∧ (∀ k, k ≠ 20 → t.2.2 k = s.2.2 k) ∧ t.2.1 18 = B ∧ t.2.1 19 = W ∧ t.2.2 20 = T
theorem mm_K.rf (s : mm_S) : mm_K s (s.2.1 18) (s.2.1 19) (s.2.2 20) s := ⟨rfl, fun _ _ _ _ _ => rfl, fun _ _ => rfl, rfl, rfl, rfl⟩
theorem mr_Aw (s : mm_S) {k i : Nat} (j x : Nat) (h : i ≠ k) : (mm_A s k j x).2.1 i = s.2.1 i := if_neg h
theorem mm_K.B {s t : mm_S} {B W : Nat → Nat} {T : Nat → Int} (h : mm_K s B W T t) (j x : Nat) : mm_K s (px_upN B j x) W T (mm_A t 18 j x) :=
  ⟨h.1, fun k h1 h2 h3 h4 => (if_neg h1).trans (h.2.1 k h1 h2 h3 h4), h.2.2.1, by rw [mr_A0, h.2.2.2.1], (mr_Aw t j x (by decide)).trans h.2.2.2.2.1, h.2.2.2.2.2⟩
theorem mm_K.W {s t : mm_S} {B W : Nat → Nat} {T : Nat → Int} (h : mm_K s B W T t) (j x : Nat) : mm_K s B (px_upN W j x) T (mm_A t 19 j x) :=
  ⟨h.1, fun k h1 h2 h3 h4 => (if_neg h2).trans (h.2.1 k h1 h2 h3 h4), h.2.2.1, (mr_Aw t j x (by decide)).trans h.2.2.2.1, by rw [mr_A0, h.2.2.2.2.1], h.2.2.2.2.2⟩
theorem mr_D0 (s : mm_S) (k j : Nat) (x : Int) : (mm_D s k j x).2.2 k = px_upN (s.2.2 k) j x := if_pos rfl
theorem mm_K.T {s t : mm_S} {B W : Nat → Nat} {T : Nat → Int} (h : mm_K s B W T t) (j : Nat) (x : Int) : mm_K s B W (px_upN T j x) (mm_D t 20 j x) :=
  ⟨h.1, h.2.1, fun k h1 => (if_neg h1).trans (h.2.2.1 k h1), h.2.2.2.1, h.2.2.2.2.1, by rw [mr_D0, h.2.2.2.2.2]⟩
theorem mm_K.R {s t : mm_S} {B W : Nat → Nat} {T : Nat → Int} (h : mm_K s B W T t) (f g : Nat → Nat) : mm_K s B W T (mm_R (mm_R t 27 f) 28 g) :=
  ⟨h.1, fun k h1 h2 h3 h4 => ((if_neg h4).trans (if_neg h3)).trans (h.2.1 k h1 h2 h3 h4), h.2.2.1, ((mr_Rn _ g (by decide)).trans (mr_Rn t f (by decide))).trans h.2.2.2.1, ((mr_Rn _ g (by decide)).trans (mr_Rn t f (by decide))).trans h.2.2.2.2.1, h.2.2.2.2.2⟩
def mm_cq (s s' : mm_S) (P : Nat) : Prop := s'.1 = s.1 ∧ (∀ k, k ≠ 18 → k ≠ 19 → k ≠ 21 → k ≠ 27 → k ≠ 28 → s'.2.1 k = s.2.1 k) ∧ (∀ k, k ≠ 20 → s'.2.2 k = s.2.2 k) ∧ (∀ r, r < 26400 → r / 40 ≠ P → s'.2.1 18 r = s.2.1 18 r ∧ s'.2.1 19 r = s.2.1 19 r ∧ s'.2.2 20 r = s.2.2 20 r) ∧ ∀ p, p ≠ P → s'.2.1 21 p = s.2.1 21 p
def mq_come (s : mm_S) (X : px_M) (P m : Nat) (L : List mm_E) (y : mm_E) : px_Q := fun o M' => o = .inl none ∧ ∃ (s' : mm_S) (A B : List mm_E), L = A ++ B ∧ (∀ e ∈ A, mm_eR e y) ∧ (∀ e, B.head? = some e → ¬ mm_eR e y) ∧ M' = mm_M s' X ∧ mm_cq s s' P ∧ mm_pl s' P ((A ++ y :: B).take m)
/-- row j of what a place is after the row y came at k: from where it is taken -/
theorem mm_ins_get {L : List mm_E} {y : mm_E} {k m j : Nat} {e : mm_E} (hk : k ≤ L.length) (h : ((L.take k ++ y :: L.drop k).take m)[j]? = some e) : (j < k ∧ L[j]? = some e) ∨ (j = k ∧ e = y) ∨ (k < j ∧ L[j - 1]? = some e) := by
  have hl : (L.take k).length = k := by rw [List.length_take]; omega
  rw [List.getElem?_take] at h
  split at h
  · by_cases h1 : j < k
    · rw [List.getElem?_append_left (by omega), List.getElem?_take_of_lt h1] at h
      exact Or.inl ⟨h1, h⟩
    · rw [List.getElem?_append_right (by omega), hl] at h
      by_cases h2 : j = k
      · subst h2
        rw [Nat.sub_self] at h
        exact Or.inr (Or.inl ⟨rfl, (Option.some.inj h).symm⟩)
      · obtain ⟨d, hd⟩ : ∃ d, j - k = d + 1 := ⟨j - k - 1, by omega⟩
        rw [hd] at h
        replace h : (L.drop k)[d]? = some e := h
        rw [List.getElem?_drop] at h
        refine Or.inr (Or.inr ⟨by omega, ?_⟩)
        rw [show j - 1 = k + d by omega]; exact h
  · cases h
set_option maxRecDepth 100000 in
set_option maxHeartbeats 8000000 in
/-- phase two: the rows behind make room, the new one is put in its place -/
theorem me_come_2 (s : mm_S) (X : px_M) (P m b w : Nat) (ti : Int) (B W : Nat → Nat) (T : Nat → Int) (k n : Nat) (Q : px_Q) (hP : P < 660) (hm : m ≤ 40) (hm0 : 0 < m) (hk : k ≤ n) (hn : n ≤ m) (hkm : k ≠ m)
    (hQ : ∀ (last : Nat) (s' : mm_S), last = (if n < m then n else m - 1) → s'.1 = s.1 → (∀ k, k ≠ 18 → k ≠ 19 → k ≠ 21 → k ≠ 27 → k ≠ 28 → s'.2.1 k = s.2.1 k) → (∀ k, k ≠ 20 → s'.2.2 k = s.2.2 k) → (∀ p, s'.2.1 21 p = if p = P then last + 1 else s.2.1 21 p) →
      (∀ r, s'.2.1 18 r = if r = 40 * P + k then b else if 40 * P + k < r ∧ r ≤ 40 * P + last then B (r - 1) else B r) →
      (∀ r, s'.2.1 19 r = if r = 40 * P + k then w else if 40 * P + k < r ∧ r ≤ 40 * P + last then W (r - 1) else W r) →
      (∀ r, s'.2.2 20 r = if r = 40 * P + k then ti else if 40 * P + k < r ∧ r ≤ 40 * P + last then T (r - 1) else T r) → Q (.inl none) (mm_M s' X))
    (t : mm_S) (ht : mm_K s B W T t) :
    px_W 2 0 0 mX5_come Q 114 [(0, .inr (1, 0)), (1, .inl (.int (nI P))), (2, .inl (.int (nI m))), (3, .inl (.int (px_o b))), (4, .inl (.int (nI w))), (5, .inl (.double (dz ti))), (7, .inl (.int (nI (40 * P)))), (8, .inl (.int (nI n))), (10, .inl (.int (nI k)))] [] (mm_M t X) 0 0 := by
  have main : ∀ last, last = (if n < m then n else m - 1) → px_W 2 0 0 mX5_come Q 128 [(0, .inr (1, 0)), (1, .inl (.int (nI P))), (3, .inl (.int (px_o b))), (4, .inl (.int (nI w))), (5, .inl (.double (dz ti))), (7, .inl (.int (nI (40 * P)))), (10, .inl (.int (nI k)))] [.inl (.int (nI last))] (mm_M t X) 0 0 := by
    intro last hl
    have l1 : last < 40 ∧ k ≤ last := by
      rw [hl]; split <;> omega
    have loop : ∀ (u i : Nat) (B' W' : Nat → Nat) (T' : Nat → Int) (t : mm_S), i = k + u → i ≤ last → mm_K s B' W' T' t → (∀ r, B' r = if 40 * P + i < r ∧ r ≤ 40 * P + last then B (r - 1) else B r) → (∀ r, W' r = if 40 * P + i < r ∧ r ≤ 40 * P + last then W (r - 1) else W r) → (∀ r, T' r = if 40 * P + i < r ∧ r ≤ 40 * P + last then T (r - 1) else T r) →
        px_W 2 0 0 mX5_come Q 134 [(0, .inr (1, 0)), (1, .inl (.int (nI P))), (3, .inl (.int (px_o b))), (4, .inl (.int (nI w))), (5, .inl (.double (dz ti))), (7, .inl (.int (nI (40 * P)))), (10, .inl (.int (nI k))), (11, .inl (.int (nI last))), (12, .inl (.int (nI i)))] [] (mm_M t X) 0 0 := by
      intro u
      induction u with
      | zero =>
        intro i B' W' T' t hi hil ht hB' hW' hT'
        have hi' : i = k := hi
        refine px_iload dX5_come_134 rfl ?_
        refine px_iload dX5_come_136 rfl ?_
        refine pn_icmp_le (tgt := 213) dX5_come_138 (by decide) (nI_leI (by omega) (by omega)) (fun z1 => ?_) (fun z1 => ?_)
        · refine px_aload_n dX5_come_213 rfl trivial ?_
          refine mm_get dX5_come_214 F_RX5_47 rfl ?_
          refine px_iload dX5_come_217 rfl ?_
          refine px_iload dX5_come_219 rfl ?_
          refine pn_iadd dX5_come_221 (by first | exact nI_add _ _ | rfl) ?_
          refine px_iload_n dX5_come_222 rfl ?_
          refine mm_ast_o dX5_come_223 rfl (by first | rfl | assumption) (by first | exact px_o_n | exact px_o_s _ | rfl | assumption) (by first | assumption | omega) ?_
          refine px_aload_n dX5_come_224 rfl trivial ?_
          refine mm_get dX5_come_225 F_RX5_50 rfl ?_
          refine px_iload dX5_come_228 rfl ?_
          refine px_iload dX5_come_230 rfl ?_
          refine pn_iadd dX5_come_232 (by first | exact nI_add _ _ | rfl) ?_
          refine px_iload dX5_come_233 rfl ?_
          refine mm_ast dX5_come_235 rfl (by first | rfl | assumption) (by first | rfl | assumption) (by first | assumption | omega) ?_
          refine px_aload_n dX5_come_236 rfl trivial ?_
          refine mm_get dX5_come_237 F_RX5_53 rfl ?_
          refine px_iload dX5_come_240 rfl ?_
          refine px_iload dX5_come_242 rfl ?_
          refine pn_iadd dX5_come_244 (by first | exact nI_add _ _ | rfl) ?_
          refine px_dload dX5_come_245 rfl ?_
          refine mm_ast_d dX5_come_247 rfl (by first | rfl | assumption) (by first | rfl | assumption) (by first | assumption | omega) ?_
          refine px_aload_n dX5_come_248 rfl trivial ?_
          refine mm_get dX5_come_249 F_RX5_56 rfl ?_
          refine px_iload_n dX5_come_252 rfl ?_
          refine px_iload dX5_come_253 rfl ?_
          refine px_iconst (v := nI 1) dX5_come_255 (by decide) ?_
          refine pn_iadd dX5_come_256 (by first | exact nI_add _ _ | rfl) ?_
          refine mm_ast dX5_come_257 rfl (by first | rfl | assumption) (by first | rfl | assumption) (by first | assumption | omega) ?_
          refine px_vret dX5_come_258 rfl (hQ last _ hl ?_ ?_ ?_ ?_ ?_ ?_ ?_) (by omega) (by omega)
          · exact ht.1
          · intro j j1 j2 j3 j4 j5
            exact (if_neg j3).trans ((if_neg j2).trans ((if_neg j1).trans (ht.2.1 j j1 j2 j4 j5)))
          · intro j j1
            exact (if_neg j1).trans (ht.2.2.1 j j1)
          · intro p
            rw [mr_A0]
            unfold px_upN
            by_cases e : p = P
            · rw [if_pos e, if_pos e]
            · rw [if_neg e, if_neg e]
              exact congrFun ((((ht.B _ _).W _ _).T _ _).2.1 21 (by decide) (by decide) (by decide) (by decide)) p
          · intro r
            rw [mr_Aw _ _ _ (by decide), (((ht.B _ _).W _ _).T _ _).2.2.2.1]
            unfold px_upN
            by_cases e : r = 40 * P + k
            · rw [if_pos e, if_pos e]
            · rw [if_neg e, if_neg e, hB' r, hi']
          · intro r
            rw [mr_Aw _ _ _ (by decide), (((ht.B _ _).W _ _).T _ _).2.2.2.2.1]
            unfold px_upN
            by_cases e : r = 40 * P + k
            · rw [if_pos e, if_pos e]
            · rw [if_neg e, if_neg e, hW' r, hi']
          · intro r
            rw [show ∀ (q : mm_S) (z : Nat), (mm_A q 21 P z).2.2 20 = q.2.2 20 from fun _ _ => rfl, (((ht.B _ _).W _ _).T _ _).2.2.2.2.2]
            unfold px_upN
            by_cases e : r = 40 * P + k
            · rw [if_pos e, if_pos e]
            · rw [if_neg e, if_neg e, hT' r, hi']
        · omega
      | succ u ih =>
        intro i B' W' T' t hi hil ht hB' hW' hT'
        refine px_iload dX5_come_134 rfl ?_
        refine px_iload dX5_come_136 rfl ?_
        refine pn_icmp_le (tgt := 213) dX5_come_138 (by decide) (nI_leI (by omega) (by omega)) (fun z1 => ?_) (fun z1 => ?_)
        · omega
        · have eB : t.2.1 18 (40 * P + i - 1) = B (40 * P + i - 1) := by rw [ht.2.2.2.1, hB', if_neg (by omega)]
          have eW : t.2.1 19 (40 * P + i - 1) = W (40 * P + i - 1) := by rw [ht.2.2.2.2.1, hW', if_neg (by omega)]
          have eT : t.2.2 20 (40 * P + i - 1) = T (40 * P + i - 1) := by rw [ht.2.2.2.2.2, hT', if_neg (by omega)]
          refine px_aload_n dX5_come_141 rfl trivial ?_
          refine mm_get dX5_come_142 F_RX5_47 rfl ?_
          refine px_iload dX5_come_145 rfl ?_
          refine px_iload dX5_come_147 rfl ?_
          refine pn_iadd dX5_come_149 (by first | exact nI_add _ _ | rfl) ?_
          refine px_aload_n dX5_come_150 rfl trivial ?_
          refine mm_get dX5_come_151 F_RX5_47 rfl ?_
          refine px_iload dX5_come_154 rfl ?_
          refine px_iload dX5_come_156 rfl ?_
          refine pn_iadd dX5_come_158 (by first | exact nI_add _ _ | rfl) ?_
          refine px_iconst (v := nI 1) dX5_come_159 (by decide) ?_
          refine pn_isub dX5_come_160 (by first | exact pk_sub (by omega) | rfl) ?_
          refine mm_ald_o dX5_come_161 rfl (by first | rfl | assumption) (by (try simp only [mr_I2, mr_An, mr_Ae, mr_D2, mr_Rn, mr_Re, mr_T2, ne_eq, Nat.reduceEqDiff, not_false_eq_true]); rfl) (by first | assumption | omega) ?_
          refine mm_ast_o dX5_come_162 rfl (by first | rfl | assumption) (by first | exact px_o_n | exact px_o_s _ | rfl | assumption) (by first | assumption | omega) ?_
          refine px_aload_n dX5_come_163 rfl trivial ?_
          refine mm_get dX5_come_164 F_RX5_50 rfl ?_
          refine px_iload dX5_come_167 rfl ?_
          refine px_iload dX5_come_169 rfl ?_
          refine pn_iadd dX5_come_171 (by first | exact nI_add _ _ | rfl) ?_
          refine px_aload_n dX5_come_172 rfl trivial ?_
          refine mm_get dX5_come_173 F_RX5_50 rfl ?_
          refine px_iload dX5_come_176 rfl ?_
          refine px_iload dX5_come_178 rfl ?_
          refine pn_iadd dX5_come_180 (by first | exact nI_add _ _ | rfl) ?_
          refine px_iconst (v := nI 1) dX5_come_181 (by decide) ?_
          refine pn_isub dX5_come_182 (by first | exact pk_sub (by omega) | rfl) ?_
          refine mm_ald dX5_come_183 rfl (by first | rfl | assumption) (by (try simp only [mr_I2, mr_An, mr_Ae, mr_D2, mr_Rn, mr_Re, mr_T2, ne_eq, Nat.reduceEqDiff, not_false_eq_true]); rfl) (by first | assumption | omega) ?_
          refine mm_ast dX5_come_184 rfl (by first | rfl | assumption) (by first | rfl | assumption) (by first | assumption | omega) ?_
          refine px_aload_n dX5_come_185 rfl trivial ?_
          refine mm_get dX5_come_186 F_RX5_53 rfl ?_
          refine px_iload dX5_come_189 rfl ?_
          refine px_iload dX5_come_191 rfl ?_
          refine pn_iadd dX5_come_193 (by first | exact nI_add _ _ | rfl) ?_
          refine px_aload_n dX5_come_194 rfl trivial ?_
          refine mm_get dX5_come_195 F_RX5_53 rfl ?_
          refine px_iload dX5_come_198 rfl ?_
          refine px_iload dX5_come_200 rfl ?_
          refine pn_iadd dX5_come_202 (by first | exact nI_add _ _ | rfl) ?_
          refine px_iconst (v := nI 1) dX5_come_203 (by decide) ?_
          refine pn_isub dX5_come_204 (by first | exact pk_sub (by omega) | rfl) ?_
          refine mm_ald_d dX5_come_205 rfl (by first | rfl | assumption) (by (try simp only [mr_I3, mr_A3, mr_Dn, mr_De, mr_R3, mr_Tn, mr_Te, ne_eq, Nat.reduceEqDiff, not_false_eq_true]); rfl) (by first | assumption | omega) ?_
          refine mm_ast_d dX5_come_206 rfl (by first | rfl | assumption) (by first | rfl | assumption) (by first | assumption | omega) ?_
          rw [eB, eW, eT]
          refine px_iinc dX5_come_207 rfl (pn_im1 (by omega)) (by decide) ?_
          refine px_goto (tgt := 134) dX5_come_210 (by decide) ?_
          refine px_sub (ih (i - 1) _ _ _ _ (by omega) (by omega) (((ht.B _ _).W _ _).T _ _) ?_ ?_ ?_) rfl
          · intro r
            unfold px_upN
            by_cases e : r = 40 * P + i
            · rw [if_pos e, if_pos (by omega), e]
            · rw [if_neg e, hB' r]
              by_cases e2 : 40 * P + i < r ∧ r ≤ 40 * P + last
              · rw [if_pos e2, if_pos (by omega)]
              · rw [if_neg e2, if_neg (by omega)]
          · intro r
            unfold px_upN
            by_cases e : r = 40 * P + i
            · rw [if_pos e, if_pos (by omega), e]
            · rw [if_neg e, hW' r]
              by_cases e2 : 40 * P + i < r ∧ r ≤ 40 * P + last
              · rw [if_pos e2, if_pos (by omega)]
              · rw [if_neg e2, if_neg (by omega)]
          · intro r
            unfold px_upN
            by_cases e : r = 40 * P + i
            · rw [if_pos e, if_pos (by omega), e]
            · rw [if_neg e, hT' r]
              by_cases e2 : 40 * P + i < r ∧ r ≤ 40 * P + last
              · rw [if_pos e2, if_pos (by omega)]
              · rw [if_neg e2, if_neg (by omega)]
    refine px_istore dX5_come_128 (by decide) ?_
    refine px_iload dX5_come_130 rfl ?_
    refine px_istore dX5_come_132 (by decide) ?_
    exact px_sub (loop (last - k) last B W T t (by omega) (Nat.le_refl _) ht (fun r => by rw [if_neg (by omega)]) (fun r => by rw [if_neg (by omega)]) (fun r => by rw [if_neg (by omega)])) rfl
  refine px_iload dX5_come_114 rfl ?_
  refine px_iload_n dX5_come_116 rfl ?_
  refine pn_icmp_ge (tgt := 125) dX5_come_117 (by decide) (nI_leI (by omega) (by omega)) (fun z1 => ?_) (fun z1 => ?_)
  · refine px_iload_n dX5_come_125 rfl ?_
    refine px_iconst (v := nI 1) dX5_come_126 (by decide) ?_
    refine pn_isub dX5_come_127 (by first | exact pk_sub (by omega) | rfl) ?_
    exact px_sub (main (m - 1) (by rw [if_neg (by omega)])) rfl
  · refine px_iload dX5_come_120 rfl ?_
    refine px_goto (tgt := 128) dX5_come_122 (by decide) ?_
    exact px_sub (main n (by rw [if_pos (by omega)])) rfl
