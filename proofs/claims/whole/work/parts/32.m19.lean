/-! ===== the rows are gathered ===== -/
def px_l3 (a c k A C K : Nat) : Prop := a < A ∨ a = A ∧ (c < C ∨ c = C ∧ k < K)
/-- offered at a pin: the starts before i; the rows before (A, C, K) -/
def mm_OS (s : mm_S) (p i : Nat) (c : Nat) (e : mm_E) : Prop := ∃ i', i' < i ∧ i' < s.1 9 ∧ s.2.1 7 i' = p ∧ c = mm_mt s p 0 ∧ e = (s.2.2 8 i', i', [])
def mm_OK (s : mm_S) (LL : Nat → Nat → List mm_E) (p A C K : Nat) (c : Nat) (e : mm_E) : Prop := mm_OS s p (s.1 9) c e ∨ ∃ a' c' k' e0, px_l3 a' c' k' A C K ∧ a' < s.1 6 ∧ s.2.1 4 a' = p ∧ c' ≤ 10 ∧ (LL (s.2.1 3 a') c')[k']? = some e0 ∧ c = mm_mt s p c' ∧ e = mm_x s a' e0
theorem mm_OS.F {s : mm_S} {p i c : Nat} {e : mm_E} (h : mm_OS s p i c e) : mm_F s p c e := by
  obtain ⟨i', h1, h2, h3, h4, rfl⟩ := h
  refine ⟨⟨h2, h3⟩, ?_, rfl⟩
  show mm_mt s (s.2.1 7 i') 0 = c
  rw [h3, h4]
theorem mm_x_F {s : mm_S} {p a c0 : Nat} {e0 : mm_E} (ha : a < s.1 6) (hp : s.2.1 4 a = p) (h : mm_F s (s.2.1 3 a) c0 e0) : mm_F s p (mm_mt s p c0) (mm_x s a e0) := by
  obtain ⟨f1, f2, f3⟩ := h
  refine ⟨⟨ha, hp, f1⟩, ?_, ?_⟩
  · show mm_mt s (s.2.1 4 a) (mm_pc s e0.2.1 e0.2.2) = _
    rw [f2, hp]
  · show e0.1 + s.2.2 5 a = mm_pt s e0.2.1 e0.2.2 + s.2.2 5 a
    rw [f3]
/-- the rows of the pins before are known -/
def mm_LF (s : mm_S) (m : Nat) (LL : Nat → Nat → List mm_E) (p : Nat) : Prop := ∀ a, a < s.1 6 → s.2.1 4 a = p → ∀ c, c ≤ 10 → px_L1 m (mm_F s (s.2.1 3 a) c) (LL (s.2.1 3 a) c)
theorem mm_OK.F {s : mm_S} {m p A C K : Nat} {LL : Nat → Nat → List mm_E} (hLL : mm_LF s m LL p) {c : Nat} {e : mm_E} (h : mm_OK s LL p A C K c e) : mm_F s p c e := by
  rcases h with h | ⟨a, c', k', e0, -, h2, h3, h4, h5, h6, rfl⟩
  · exact h.F
  · rw [h6]; exact mm_x_F h2 h3 ((hLL a h2 h3 c' h4).2.1 e0 (List.mem_of_getElem? h5))
theorem mm_OK.new {s : mm_S} {m p A C K : Nat} {LL : Nat → Nat → List mm_E} (hLL : mm_LF s m LL p) (hA : A < s.1 6) (hp : s.2.1 4 A = p) (hC : C ≤ 10) {e0 : mm_E} (he : (LL (s.2.1 3 A) C)[K]? = some e0) (c : Nat) : ¬ mm_OK s LL p A C K c (mm_x s A e0) := by
  rintro (⟨i, -, -, -, -, z⟩ | ⟨a', c', k', e1, h1, h2, h3, h4, h5, h6, z⟩)
  · have z' : ((e0.1 + s.2.2 5 A, e0.2.1, A :: e0.2.2) : mm_E) = (s.2.2 8 i, i, []) := z
    exact absurd (Prod.mk.inj (Prod.mk.inj z').2).2 (by simp)
  · have z' : ((e0.1 + s.2.2 5 A, e0.2.1, A :: e0.2.2) : mm_E) = (e1.1 + s.2.2 5 a', e1.2.1, a' :: e1.2.2) := z
    have eA : A = a' := (List.cons.inj (Prod.mk.inj (Prod.mk.inj z').2).2).1
    subst eA
    have e01 := mm_x_inj z
    subst e01
    have q1 := ((hLL A hA hp C hC).2.1 e0 (List.mem_of_getElem? he)).2.1
    have q2 := ((hLL A hA hp c' h4).2.1 e0 (List.mem_of_getElem? h5)).2.1
    have ec : c' = C := q2.symm.trans q1
    subst ec
    have nd := (hLL A hA hp c' h4).nd
    obtain ⟨k1, w1⟩ := List.getElem?_eq_some_iff.mp he
    have : K = k' := (List.getElem?_inj k1 nd).mp (he.trans h5.symm)
    unfold px_l3 at h1
    omega
def mq_gat (s : mm_S) (X : px_M) (m : Nat) : px_Q := fun o M' => o = .inl none ∧ ∃ (t : mm_S) (LL : Nat → Nat → List mm_E), M' = mm_M t X ∧ mm_gq s t ∧ ∀ q, q < s.1 1 → ∀ c, c ≤ 10 → mm_pl t (11 * q + c) (LL q c) ∧ px_L1 m (mm_F s q c) (LL q c)
theorem mm_gq.cls {s t : mm_S} (h : mm_gq s t) : t.1 1 = s.1 1 ∧ t.1 6 = s.1 6 ∧ t.1 9 = s.1 9 ∧ t.2.1 3 = s.2.1 3 ∧ t.2.1 4 = s.2.1 4 ∧ t.2.1 7 = s.2.1 7 ∧ t.2.1 14 = s.2.1 14 ∧ t.2.2 5 = s.2.2 5 ∧ t.2.2 8 = s.2.2 8 := by
  obtain ⟨h1, h2, h3⟩ := h
  refine ⟨by rw [h1], by rw [h1], by rw [h1], h2 _ ?_ ?_ ?_ ?_ ?_ ?_ ?_, h2 _ ?_ ?_ ?_ ?_ ?_ ?_ ?_, h2 _ ?_ ?_ ?_ ?_ ?_ ?_ ?_, h2 _ ?_ ?_ ?_ ?_ ?_ ?_ ?_, h3 _ ?_, h3 _ ?_⟩ <;> decide
theorem me_met' {s t : mm_S} (X : px_M) (ok : mm_ok s) (h : mm_gq s t) (p c : Nat) (hp : p < s.1 1) (hc : c ≤ 10) : px_Met 0 0 0 mX5_met [.inr (1, 0), .inl (.int (nI p)), .inl (.int (nI c))] (mm_M t X) (px_rt (some (.inl (.int (nI (mm_mt s p c))))) (mm_M t X)) := by
  have h1 := ok.1.1
  have e := h.cls.2.2.2.2.2.2.1
  have := me_met t X p c (by omega) hc (fun j hj => by rw [e]; have := ok.2.2.2.2.1 j hj; omega)
  rw [e] at this
  exact this
set_option maxRecDepth 100000 in
set_option maxHeartbeats 8000000 in
/-- a pin's rows from the arc A, the orders C, the row K on -/
theorem me_gather_a (s : mm_S) (X : px_M) (ok : mm_ok s) (m : Nat) (hm : m ≤ 40) (hm0 : 0 < m) (f g : Nat → Nat) (ho : mm_ord s f g (s.1 1)) (n : Nat) (hn : n < s.1 1) (LL : Nat → Nat → List mm_E) (Q : px_Q)
    (kk : ∀ t, mm_gs s m g n LL (mm_C s LL (g n)) t → px_W 3 0 0 mX5_gather Q 227 [(0, .inr (1, 0)), (1, .inl (.int (nI m))), (2, .inl (.int (nI n)))] [] (mm_M t X) 0 0)
    (t : mm_S) (ht : mm_gs s m g n LL (mm_OK s LL (g n) 0 0 0) t) : px_W 3 0 0 mX5_gather Q 101 [(0, .inr (1, 0)), (1, .inl (.int (nI m))), (2, .inl (.int (nI n))), (3, .inl (.int (nI (g n)))), (4, .inl (.int (nI 0)))] [] (mm_M t X) 0 0 := by
  have h1 := ok.1.1
  have h6 := ok.1.2.1
  have hgn := (ho.2.1 n hn).1
  have hLL : ∀ t O, mm_gs s m g n LL O t → mm_LF s m LL (g n) := by
    intro t O ht a a1 a2 c hc
    obtain ⟨i, i1, i2⟩ := (ho.2.1 n hn).2.2 a a1 a2
    rw [← i2]
    exact (ht.2.1 i i1 c hc).2
  have loopA : ∀ (u a : Nat) (t : mm_S), a ≤ s.1 6 → s.1 6 < a + u → mm_gs s m g n LL (mm_OK s LL (g n) a 0 0) t → px_W 3 0 0 mX5_gather Q 101 [(0, .inr (1, 0)), (1, .inl (.int (nI m))), (2, .inl (.int (nI n))), (3, .inl (.int (nI (g n)))), (4, .inl (.int (nI a)))] [] (mm_M t X) 0 0 := by
    intro u
    induction u with
    | zero => intro a t g1 g2; omega
    | succ u ih =>
      intro a t g1 g2 ht
      obtain ⟨e1, e6, e9, r3, r4, r7, r14, d5, d8⟩ := ht.1.cls
      refine px_iload dX5_gather_101 rfl ?_
      refine px_aload_n dX5_gather_103 rfl trivial ?_
      refine mm_gets dX5_gather_104 F_RX5_96 (by decide) (by (try simp only [mr_In, mr_Ie, mr_A1, mr_D1, mr_R1, mr_T1, ne_eq, Nat.reduceEqDiff, not_false_eq_true]); rfl) ?_
      refine pn_icmp_ge (tgt := 227) dX5_gather_107 (by decide) (nI_leI (by omega) (by omega)) (fun z1 => ?_) (fun z1 => ?_)
      · refine px_sub (kk t (ht.congr fun c e => ?_)) rfl
        have ea : a = s.1 6 := by omega
        constructor
        · rintro (⟨i, w1, w2, w3, w4⟩ | ⟨a', c0, e0, w1, w2, w3, w4, w5, w6⟩)
          · exact Or.inl ⟨i, w1, w1, w2, w3, w4⟩
          · obtain ⟨k', hk'⟩ := List.getElem?_of_mem w4
            exact Or.inr ⟨a', c0, k', e0, Or.inl (by omega), w1, w2, w3, hk', w5, w6⟩
        · rintro (⟨i, w0, w1, w2, w3, w4⟩ | ⟨a', c', k', e0, w0, w1, w2, w3, w4, w5, w6⟩)
          · exact Or.inl ⟨i, w1, w2, w3, w4⟩
          · exact Or.inr ⟨a', c', e0, w1, w2, w3, List.mem_of_getElem? w4, w5, w6⟩
      · have ha : a < s.1 6 := by omega
        obtain ⟨b1, b2, b3, b4⟩ := ok.2.1 a ha
        -- the arc is done
        have done : ∀ (t : mm_S) (C : Nat), (∀ c' , c' ≤ 10 → s.2.1 4 a = g n → c' < C) → mm_gs s m g n LL (mm_OK s LL (g n) a C 0) t → ∀ z, px_W 3 0 0 mX5_gather Q 221 [(0, .inr (1, 0)), (1, .inl (.int (nI m))), (2, .inl (.int (nI n))), (3, .inl (.int (nI (g n)))), (4, .inl (.int (nI a))), (5, z)] [] (mm_M t X) 0 0 := by
          intro t C hC ht z
          refine px_iinc dX5_gather_221 rfl (pn_i1 _) (by decide) ?_
          refine px_goto (tgt := 101) dX5_gather_224 (by decide) ?_
          refine px_sub (ih (a + 1) t (by omega) (by omega) (ht.congr fun c e => ?_)) rfl
          refine or_congr Iff.rfl ⟨?_, ?_⟩
          · rintro ⟨a', c', k', e0, w0, w1, w2, w3, w4, w5, w6⟩
            refine ⟨a', c', k', e0, ?_, w1, w2, w3, w4, w5, w6⟩
            unfold px_l3 at w0 ⊢
            by_cases e : a' = a
            · have := hC c' w3 (e ▸ w2)
              omega
            · omega
          · rintro ⟨a', c', k', e0, w0, w1, w2, w3, w4, w5, w6⟩
            refine ⟨a', c', k', e0, ?_, w1, w2, w3, w4, w5, w6⟩
            unfold px_l3 at w0 ⊢
            omega
        have loopC : ∀ (v C : Nat) (t : mm_S), C ≤ 11 → 11 < C + v → mm_gs s m g n LL (mm_OK s LL (g n) a C 0) t → px_W 3 0 0 mX5_gather Q 113 [(0, .inr (1, 0)), (1, .inl (.int (nI m))), (2, .inl (.int (nI n))), (3, .inl (.int (nI (g n)))), (4, .inl (.int (nI a))), (5, .inl (.int (nI C)))] [] (mm_M t X) 0 0 := by
          intro v
          induction v with
          | zero => intro C t g3 g4; omega
          | succ v ihv =>
            intro C t g3 g4 ht
            obtain ⟨e1, e6, e9, r3, r4, r7, r14, d5, d8⟩ := ht.1.cls
            refine px_iload dX5_gather_113 rfl ?_
            refine px_bipush (v := nI 10) dX5_gather_115 (by decide) ?_
            refine pn_icmp_gt (tgt := 221) dX5_gather_117 (by decide) (nI_ltI (by omega) (by omega)) (fun z2 => ?_) (fun z2 => ?_)
            · exact px_sub (done t C (fun c' hc' _ => by omega) ht _) rfl
            · have b2' : t.2.1 4 a < 60 := by rw [r4]; omega
              refine px_aload_n dX5_gather_120 rfl trivial ?_
              refine mm_get dX5_gather_121 F_RX5_16 rfl ?_
              refine px_iload dX5_gather_124 rfl ?_
              refine mm_ald dX5_gather_126 rfl (by first | rfl | assumption) (by (try simp only [mr_I2, mr_An, mr_Ae, mr_D2, mr_Rn, mr_Re, mr_T2, ne_eq, Nat.reduceEqDiff, not_false_eq_true]); rfl) (by first | assumption | omega) ?_
              refine px_iload_n dX5_gather_127 rfl ?_
              refine pn_icmp_ne (tgt := 221) dX5_gather_128 (by decide) (nI_eq (by omega) (by omega)) (fun z3 => ?_) (fun z3 => ?_)
              · rw [r4] at z3
                exact px_sub (done t C (fun c' _ z => (z3 z).elim) ht _) rfl
              · rw [r4] at z3
                have hC : C ≤ 10 := by omega
                obtain ⟨j, j1, j2⟩ := (ho.2.1 n hn).2.2 a ha z3
                have b1' : t.2.1 3 a < 60 := by rw [r3]; omega
                have loopK : ∀ (w K : Nat) (t : mm_S), K ≤ (LL (s.2.1 3 a) C).length → (LL (s.2.1 3 a) C).length < K + w → mm_gs s m g n LL (mm_OK s LL (g n) a C K) t → px_W 3 0 0 mX5_gather Q 149 [(0, .inr (1, 0)), (1, .inl (.int (nI m))), (2, .inl (.int (nI n))), (3, .inl (.int (nI (g n)))), (4, .inl (.int (nI a))), (5, .inl (.int (nI C))), (6, .inl (.int (nI (11 * s.2.1 3 a + C)))), (7, .inl (.int (nI K)))] [] (mm_M t X) 0 0 := by
                  intro w
                  induction w with
                  | zero => intro K t g5 g6; omega
                  | succ w ihw =>
                    intro K t g5 g6 ht
                    obtain ⟨e1, e6, e9, r3, r4, r7, r14, d5, d8⟩ := ht.1.cls
                    have hLF := hLL _ _ ht
                    obtain ⟨p1, p2⟩ := ht.2.1 j j1 C hC
                    rw [j2] at p1 p2
                    have hlen := p2.2.2.1
                    have hcnt := p1.1
                    refine px_iload dX5_gather_149 rfl ?_
                    refine px_aload_n dX5_gather_151 rfl trivial ?_
                    refine mm_get dX5_gather_152 F_RX5_56 rfl ?_
                    refine px_iload dX5_gather_155 rfl ?_
                    refine mm_ald dX5_gather_157 rfl (by first | rfl | assumption) (by (try simp only [mr_I2, mr_An, mr_Ae, mr_D2, mr_Rn, mr_Re, mr_T2, ne_eq, Nat.reduceEqDiff, not_false_eq_true]); rfl) (by first | assumption | omega) ?_
                    refine pn_icmp_ge (tgt := 215) dX5_gather_158 (by decide) (nI_leI (by omega) (by omega)) (fun z4 => ?_) (fun z4 => ?_)
                    · refine px_iinc dX5_gather_215 rfl (pn_i1 _) (by decide) ?_
                      refine px_goto (tgt := 113) dX5_gather_218 (by decide) ?_
                      refine px_sub (ihv (C + 1) t (by omega) (by omega) (ht.congr fun c e => ?_)) rfl
                      refine or_congr Iff.rfl ⟨?_, ?_⟩
                      · rintro ⟨a', c', k', e0, w0, w1, w2, w3, w4, w5, w6⟩
                        refine ⟨a', c', k', e0, ?_, w1, w2, w3, w4, w5, w6⟩
                        unfold px_l3 at w0 ⊢
                        by_cases e : a' = a ∧ c' = C
                        · obtain ⟨ea, ec⟩ := e
                          rw [ea, ec] at w4
                          obtain ⟨hk, -⟩ := List.getElem?_eq_some_iff.mp w4
                          omega
                        · omega
                      · rintro ⟨a', c', k', e0, w0, w1, w2, w3, w4, w5, w6⟩
                        refine ⟨a', c', k', e0, ?_, w1, w2, w3, w4, w5, w6⟩
                        unfold px_l3 at w0 ⊢
                        omega
                    · obtain ⟨e0, he0⟩ : ∃ e0, (LL (s.2.1 3 a) C)[K]? = some e0 := ⟨_, List.getElem?_eq_getElem (by omega)⟩
                      have he0m := List.mem_of_getElem? he0
                      obtain ⟨q1, q2⟩ := p1.2 K e0 he0
                      have hF0 := p2.2.1 e0 he0m
                      have hb0 := hF0.bd ok
                      have hFx : mm_F s (g n) (mm_mt s (g n) C) (mm_x s a e0) := mm_x_F ha z3 hF0
                      have hmt := mm_mt_le s (g n) hC
                      obtain ⟨L, l1, l2⟩ := ht.2.2.2.1 (mm_mt s (g n) C) hmt
                      have hOF : ∀ c e, mm_OK s LL (g n) a C K c e → mm_F s (g n) c e := fun c e h => h.F hLF
                      have hnew := mm_OK.new hLF ha z3 hC he0 (mm_mt s (g n) C)
                      have hP : (11 * g n + mm_mt s (g n) C) / 11 = g n := by omega
                      have hfr : ∀ e, mm_F s (g n) (mm_mt s (g n) C) e → ∀ a' ∈ e.2.2, t.2.1 3 a' ≠ (11 * g n + mm_mt s (g n) C) / 11 := by
                        intro e he a' ha'
                        obtain ⟨j', w1, w2⟩ := he.1.dn ho hn a' ha'
                        rw [hP, r3, ← w2]
                        exact ho.2.2.1 j' n w1 hn
                      have hcome := me_come t X (11 * g n + mm_mt s (g n) C) m (40 * (11 * s.2.1 3 a + C) + K + 1) a L (e0.1 + s.2.2 5 a) e0.2.1 (a :: e0.2.2) (by omega) hm hm0 (by omega) l2.2.2.1 l1 (fun e he => (hOF _ e (l2.2.1 e he)).eok ok) (hFx.eok ok) ⟨40 * (11 * s.2.1 3 a + C) + K, by omega, by rw [r3]; omega, rfl, rfl, q2⟩ (fun e he => by
                        rcases List.mem_cons.mp he with z | z
                        · rw [z]; exact hfr _ hFx
                        · exact hfr e (hOF _ e (l2.2.1 e z)))
                      have dd5 : t.2.2 5 a = s.2.2 5 a := by rw [d5]
                      refine px_aload_n dX5_gather_161 rfl trivial ?_
                      refine px_bipush (v := nI 11) dX5_gather_162 (by decide) ?_
                      refine px_iload_n dX5_gather_164 rfl ?_
                      refine pn_imul dX5_gather_165 (by first | exact pk_mul _ _ | rfl) ?_
                      refine px_aload_n dX5_gather_166 rfl trivial ?_
                      refine px_iload_n dX5_gather_167 rfl ?_
                      refine px_iload dX5_gather_168 rfl ?_
                      refine px_callVr ((me_met' X ok ht.1 (g n) C hgn hC)) dX5_gather_170 L_RX5_134 (mm_rcv _ _) rfl rfl (by decide) (by omega) (by omega) (Nat.le_of_ble_eq_true rfl) ?_
                      refine pn_iadd dX5_gather_173 (by first | exact nI_add _ _ | rfl) ?_
                      refine px_iload_n dX5_gather_174 rfl ?_
                      refine px_bipush (v := nI 40) dX5_gather_175 (by decide) ?_
                      refine px_iload dX5_gather_177 rfl ?_
                      refine pn_imul dX5_gather_179 (by first | exact pk_mul _ _ | rfl) ?_
                      refine px_iload dX5_gather_180 rfl ?_
                      refine pn_iadd dX5_gather_182 (by first | exact nI_add _ _ | rfl) ?_
                      refine px_iload dX5_gather_183 rfl ?_
                      refine px_aload_n dX5_gather_185 rfl trivial ?_
                      refine mm_get dX5_gather_186 F_RX5_53 rfl ?_
                      refine px_bipush (v := nI 40) dX5_gather_189 (by decide) ?_
                      refine px_iload dX5_gather_191 rfl ?_
                      refine pn_imul dX5_gather_193 (by first | exact pk_mul _ _ | rfl) ?_
                      refine px_iload dX5_gather_194 rfl ?_
                      refine pn_iadd dX5_gather_196 (by first | exact nI_add _ _ | rfl) ?_
                      refine mm_ald_d dX5_gather_197 rfl (by first | rfl | assumption) (by (try simp only [mr_I3, mr_A3, mr_Dn, mr_De, mr_R3, mr_Tn, mr_Te, ne_eq, Nat.reduceEqDiff, not_false_eq_true]); rfl) (by first | assumption | omega) ?_
                      refine px_aload_n dX5_gather_198 rfl trivial ?_
                      refine mm_get dX5_gather_199 F_RX5_19 rfl ?_
                      refine px_iload dX5_gather_202 rfl ?_
                      refine mm_ald_d dX5_gather_204 rfl (by first | rfl | assumption) (by (try simp only [mr_I3, mr_A3, mr_Dn, mr_De, mr_R3, mr_Tn, mr_Te, ne_eq, Nat.reduceEqDiff, not_false_eq_true]); rfl) (by first | assumption | omega) ?_
                      refine pn_dadd dX5_gather_205 (by omega) (by omega) (by first | exact Int.add_zero _ | rfl) ?_
                      rw [q1, dd5]
                      refine px_callV (hcome) dX5_gather_206 L_RX5_137 (mm_rcv _ _) rfl rfl (by decide) (by omega) (by omega) (Nat.le_of_ble_eq_true rfl) (fun v9 M9 hq => ?_) (fun E9 M9 hq => ?_)
                      · obtain ⟨h0, t', A, B, hL, hA, hB, rfl, hcq, hpl⟩ := hq
                        cases h0
                        rw [hL] at l2
                        have hst := ht.step ok hm ho hn hOF hmt hnew l2 hA hB hcq hpl
                        refine px_iinc dX5_gather_209 rfl (pn_i1 _) (by decide) ?_
                        refine px_goto (tgt := 149) dX5_gather_212 (by decide) ?_
                        refine px_sub (ihw (K + 1) t' (by omega) (by omega) (hst.congr fun c e => ?_)) rfl
                        constructor
                        · rintro (w | ⟨a', c', k', e1, w0, w1, w2, w3, w4, w5, w6⟩)
                          · exact Or.inl (Or.inl w)
                          · by_cases e3 : a' = a ∧ c' = C ∧ k' = K
                            · obtain ⟨ea, ec, ek⟩ := e3
                              subst ea ec ek
                              rw [he0] at w4
                              cases w4
                              exact Or.inr ⟨w5, w6⟩
                            · refine Or.inl (Or.inr ⟨a', c', k', e1, ?_, w1, w2, w3, w4, w5, w6⟩)
                              unfold px_l3 at w0 ⊢
                              omega
                        · rintro ((w | ⟨a', c', k', e1, w0, w1, w2, w3, w4, w5, w6⟩) | ⟨w1, w2⟩)
                          · exact Or.inl w
                          · refine Or.inr ⟨a', c', k', e1, ?_, w1, w2, w3, w4, w5, w6⟩
                            unfold px_l3 at w0 ⊢
                            omega
                          · refine Or.inr ⟨a, C, K, e0, ?_, ha, z3, hC, he0, w1, w2⟩
                            unfold px_l3
                            omega
                      · exact absurd hq.1 (fun z => by cases z)
                refine px_bipush (v := nI 11) dX5_gather_131 (by decide) ?_
                refine px_aload_n dX5_gather_133 rfl trivial ?_
                refine mm_get dX5_gather_134 F_RX5_13 rfl ?_
                refine px_iload dX5_gather_137 rfl ?_
                refine mm_ald dX5_gather_139 rfl (by first | rfl | assumption) (by (try simp only [mr_I2, mr_An, mr_Ae, mr_D2, mr_Rn, mr_Re, mr_T2, ne_eq, Nat.reduceEqDiff, not_false_eq_true]); rfl) (by first | assumption | omega) ?_
                refine pn_imul dX5_gather_140 (by first | exact pk_mul _ _ | rfl) ?_
                refine px_iload dX5_gather_141 rfl ?_
                refine pn_iadd dX5_gather_143 (by first | exact nI_add _ _ | rfl) ?_
                refine px_istore dX5_gather_144 (by decide) ?_
                refine px_iconst (v := nI 0) dX5_gather_146 (by decide) ?_
                refine px_istore dX5_gather_147 (by decide) ?_
                rw [r3]
                exact px_sub (loopK ((LL (s.2.1 3 a) C).length + 1) 0 t (by omega) (by omega) ht) rfl
        refine px_iconst (v := nI 0) dX5_gather_110 (by decide) ?_
        refine px_istore dX5_gather_111 (by decide) ?_
        exact px_sub (loopC 12 0 t (by omega) (by omega) ht) rfl
  exact loopA (s.1 6 + 1) 0 t (by omega) (by omega) ht
