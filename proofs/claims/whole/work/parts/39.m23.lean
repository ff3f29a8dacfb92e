/-! ===== run ===== -/
def kc_run (x : Int32) : Nat := if 1 ≤ x.toInt ∧ x.toInt ≤ 40 then 0 else 1
def mm_vis (s : mm_S) (Z : List mm_P) : Prop := s.1 24 = Z.length ∧ Z.length ≤ 320 ∧ ∀ k x, Z[k]? = some x → mm_pq s (s.2.1 22 k) (s.2.1 23 k) x
def mm_rq (s s' : mm_S) : Prop := (∀ k, k ≠ 0 → k ≠ 24 → k ≠ 25 → s'.1 k = s.1 k) ∧ s'.1 25 = 1 ∧ ∀ k, k < 26 → (k ≠ 18 → k ≠ 19 → k ≠ 21 → k ≠ 22 → k ≠ 23 → s'.2.1 k = s.2.1 k) ∧ (k ≠ 20 → s'.2.2 k = s.2.2 k)
def mq_run (s : mm_S) (X : px_M) (x : Int32) : px_Q := fun o M' => ∃ (w : Int32) (s' : mm_S), o = .inl (some (.inl (.int w))) ∧ M' = mm_M s' X ∧ s'.1 0 = kc_run x ∧ (kc_run x ≠ 0 → mm_nq s s') ∧ (kc_run x = 0 → mm_rq s s' ∧ ∃ Z, w = nI Z.length ∧ mm_sp s (px_tn x) Z ∧ mm_vis s' Z)
theorem mm_pq.eq {s t : mm_S} (h13 : t.1 13 = s.1 13) (h3 : t.2.1 3 = s.2.1 3) (h18 : t.2.1 18 = s.2.1 18) (h19 : t.2.1 19 = s.2.1 19) (d11 : t.2.2 11 = s.2.2 11) (d20 : t.2.2 20 = s.2.2 20) {r e : Nat} {x : mm_P} (h : mm_pq s r e x) : mm_pq t r e x := by
  obtain ⟨h1, h2, h4, ⟨h5, h5'⟩, h6⟩ := h
  have e : mm_pe t x = mm_pe s x := by unfold mm_pe; rw [d11]
  refine ⟨h1, by rw [h13]; exact h2, h4, ?_, ?_⟩
  · rw [e]; exact ⟨by rw [d20]; exact h5, h5'.eq h3 h18 h19⟩
  · rw [e]; exact h6
set_option maxRecDepth 100000 in
set_option maxHeartbeats 8000000 in
/-- the second sorting: the groups' lists become one -/
theorem me_run_2 (s : mm_S) (X : px_M) (ok : mm_ok s) (Z0 : List mm_P) (hN : Z0.length ≤ 320) (hnd : Z0.Nodup) (Q : px_Q)
    (hQ : ∀ (t : mm_S) (B E : Nat → Nat) (Z : List mm_P), mm_K3 s B E Z.length t → Z.Pairwise mm_pR → (∀ x, x ∈ Z ↔ x ∈ Z0) → Z.length ≤ 320 → (∀ j x, Z[j]? = some x → mm_pq s (B j) (E j) x) → Q (.inl (some (.inl (.int (nI Z.length))))) (mm_M (mm_I t 25 1) X)) :
    ∀ (u i : Nat) (B E : Nat → Nat) (S : List mm_P) (t : mm_S), i ≤ Z0.length → Z0.length < i + u → S.length = i → mm_K3 s B E i t → px_LG mm_pR 400 (fun x => x ∈ Z0.take i) S → (∀ j x, S[j]? = some x → mm_pq s (B j) (E j) x) → (∀ j x, i ≤ j → Z0[j]? = some x → mm_pq s (B j) (E j) x) →
      px_W 4 0 0 mX5_run Q 151 [(0, .inr (1, 0)), (2, .inl (.int (nI Z0.length))), (3, .inl (.int (nI i)))] [] (mm_M t X) 0 0 := by
  intro u
  induction u with
  | zero => intro i B E S t h1 h2; omega
  | succ u ih =>
    intro i B E S t h1 h2 hl ht hS hd hZ
    have h13 := ok.1.2.2.2.1
    refine px_iload_n dX5_run_151 rfl ?_
    refine px_iload_n dX5_run_152 rfl ?_
    refine pn_icmp_ge (tgt := 182) dX5_run_153 (by decide) (nI_leI (by omega) (by omega)) (fun z => ?_) (fun z => ?_)
    · refine px_aload_n dX5_run_182 rfl trivial ?_
      refine px_iconst (v := nI 1) dX5_run_183 (by decide) ?_
      refine mm_put dX5_run_184 F_RX5_92 nf_5_25 (by decide) (by first | exact ⟨rfl, rfl⟩ | decide) ?_
      refine px_aload_n dX5_run_187 rfl trivial ?_
      refine mm_gets dX5_run_188 F_RX5_145 (by decide) (by (try simp only [mr_In, mr_Ie, mr_A1, mr_D1, mr_R1, mr_T1, ne_eq, Nat.reduceEqDiff, not_false_eq_true]); rfl) ?_
      rw [ht.2.1]
      refine px_iret dX5_run_191 rfl ?_ (by omega) (by omega)
      rw [← hl] at ht ⊢
      refine hQ t B E S ht hS.1 (fun x => ?_) (by omega) hd
      have hi : i = Z0.length := by omega
      rw [hi, List.take_length] at hS
      refine ⟨hS.2.1 x, fun hx => Decidable.byContradiction fun hn => ?_⟩
      have := (hS.2.2.2 x hx hn).1
      omega
    · obtain ⟨y, hy⟩ : ∃ y, Z0[i]? = some y := ⟨_, List.getElem?_eq_getElem (by omega)⟩
      have hyq := hZ i y (Nat.le_refl _) hy
      have hny : ¬ y ∈ Z0.take i := by
        intro hm
        obtain ⟨j, hj⟩ := List.getElem?_of_mem hm
        have hji : j < i := by
          obtain ⟨q, -⟩ := List.getElem?_eq_some_iff.mp hj
          rw [List.length_take] at q; omega
        rw [List.getElem?_take_of_lt hji] at hj
        have := (List.getElem?_inj (show j < Z0.length by omega) hnd).mp (hj.trans hy.symm)
        omega
      have r1 : t.2.1 22 i = B i := by rw [ht.2.2.2.2.1]
      have r2 : t.2.1 23 i = E i := by rw [ht.2.2.2.2.2]
      have hen := me_enlist s t X ok ht 0 400 (B i) (E i) S y (by omega) (by omega) (by omega) hl hd hyq
      refine px_aload_n dX5_run_156 rfl trivial ?_
      refine px_iconst (v := nI 0) dX5_run_157 (by decide) ?_
      refine px_sipush (v := nI 400) dX5_run_158 (by decide) ?_
      refine px_aload_n dX5_run_161 rfl trivial ?_
      refine mm_get dX5_run_162 F_RX5_59 rfl ?_
      refine px_iload_n dX5_run_165 rfl ?_
      refine mm_ald dX5_run_166 rfl (by first | rfl | assumption) (by (try simp only [mr_I2, mr_An, mr_Ae, mr_D2, mr_Rn, mr_Re, mr_T2, ne_eq, Nat.reduceEqDiff, not_false_eq_true]); rfl) (by first | assumption | omega) ?_
      rw [r1]
      refine px_aload_n dX5_run_167 rfl trivial ?_
      refine mm_get dX5_run_168 F_RX5_62 rfl ?_
      refine px_iload_n dX5_run_171 rfl ?_
      refine mm_ald dX5_run_172 rfl (by first | rfl | assumption) (by (try simp only [mr_I2, mr_An, mr_Ae, mr_D2, mr_Rn, mr_Re, mr_T2, ne_eq, Nat.reduceEqDiff, not_false_eq_true]); rfl) (by first | assumption | omega) ?_
      rw [r2]
      refine px_callV (hen) dX5_run_173 L_RX5_156 (mm_rcv _ _) rfl rfl (by decide) (by omega) (by omega) (Nat.le_of_ble_eq_true rfl) (fun v9 M9 hq => ?_) (fun E9 M9 hq => ?_)
      · obtain ⟨h0, t', k, k1, k2, k3, k4, rfl, ht'⟩ := hq
        cases h0
        obtain ⟨S', s1, s2, s3⟩ := mm_enl_step (A0 := []) (S := S) (n := i) (F := 0) (by simpa using hl) rfl (by simpa using hd) hyq hS hny k1 k2 (by simpa using k3) (by simpa using k4)
        rw [if_pos (by omega)] at ht' s2
        refine px_iinc dX5_run_176 rfl (pn_i1 _) (by decide) ?_
        refine px_goto (tgt := 151) dX5_run_179 (by decide) ?_
        refine px_sub (ih (i + 1) _ _ S' t' (by omega) (by omega) (by simpa using s2) ht' (s1.congr fun x => ?_) (by simpa using s3) fun j x hj hx => ?_) rfl
        · rw [List.take_succ, hy]
          simp
        · rw [mm_pos_out _ _ _ _ k2 (by omega), mm_pos_out _ _ _ _ k2 (by omega)]
          exact hZ j x (by omega) hx
      · exact absurd hq.1 (fun z => by cases z)
theorem mm_gq.nq {s s0 t : mm_S} (h : mm_nq s s0) (q : mm_gq s0 t) : (∀ k, k ≠ 0 → t.1 k = s.1 k) ∧ ∀ k, k < 26 → (k ≠ 18 → k ≠ 19 → k ≠ 21 → t.2.1 k = s.2.1 k) ∧ (k ≠ 20 → t.2.2 k = s.2.2 k) :=
  ⟨fun k hk => by rw [q.1]; exact h.1 k hk, fun k hk => ⟨fun h1 h2 h3 => (q.2.1 k h1 h2 h3 (by omega) (by omega) (by omega) (by omega)).trans (h.2 k hk).1, fun h1 => (q.2.2 k h1).trans (h.2 k hk).2⟩⟩
set_option maxRecDepth 100000 in
set_option maxHeartbeats 8000000 in
/-- the first sorting: the groups one after another -/
theorem me_run_1 (s : mm_S) (X : px_M) (ok : mm_ok s) (T : mm_S) (okT : mm_ok T) (hT : mm_gq s T) (m : Nat) (hm : m ≤ 40) (hm0 : 0 < m) (LL : Nat → Nat → List mm_E) (hLL : ∀ q, q < s.1 1 → mm_pl T (11 * q + 10) (LL q 10) ∧ px_L1 m (mm_F s q 10) (LL q 10)) (Q : px_Q)
    (kk : ∀ (B E : Nat → Nat) (A : List mm_P) (t : mm_S), A.length ≤ 320 → mm_K3 T B E A.length t → mm_ac s m 8 A → (∀ j x, A[j]? = some x → mm_pq T (B j) (E j) x) → px_W 4 0 0 mX5_run Q 139 [(0, .inr (1, 0))] [] (mm_M t X) 0 0) :
    ∀ (u g : Nat) (B E : Nat → Nat) (A : List mm_P) (t : mm_S), g ≤ 8 → 8 < g + u → mm_K3 T B E A.length t → mm_ac s m g A → (∀ j x, A[j]? = some x → mm_pq T (B j) (E j) x) →
      px_W 4 0 0 mX5_run Q 41 [(0, .inr (1, 0)), (1, .inl (.int (nI m))), (2, .inl (.int (nI g)))] [] (mm_M t X) 0 0 := by
  have h1 := ok.1.1
  have h13 := ok.1.2.2.2.1
  have T13 : T.1 13 = s.1 13 := by rw [hT.1]
  have T10 : T.2.1 10 = s.2.1 10 := hT.2.1 10 (by decide) (by decide) (by decide) (by decide) (by decide) (by decide) (by decide)
  have T12 : T.2.1 12 = s.2.1 12 := hT.2.1 12 (by decide) (by decide) (by decide) (by decide) (by decide) (by decide) (by decide)
  have T11 : T.2.2 11 = s.2.2 11 := hT.2.2 11 (by decide)
  intro u
  induction u with
  | zero => intro g B E A t g1 g2; omega
  | succ u ih =>
    intro g B E A t g1 g2 ht hac hd
    have hAl := hac.2.2.2
    refine px_iload_n dX5_run_41 rfl ?_
    refine px_bipush (v := nI 8) dX5_run_42 (by decide) ?_
    refine pn_icmp_ge (tgt := 139) dX5_run_44 (by decide) (nI_leI (by omega) (by omega)) (fun z => ?_) (fun z => ?_)
    · exact px_sub (kk B E A t (by omega) ht (by rw [show g = 8 by omega] at hac; exact hac) hd) rfl
    · have loopE : ∀ (v e : Nat) (B E : Nat → Nat) (S : List mm_P) (t : mm_S), e ≤ s.1 13 → s.1 13 < e + v → mm_K3 T B E (A ++ S).length t → px_LG mm_pR m (mm_OG s LL g e 0) S → (∀ j x, (A ++ S)[j]? = some x → mm_pq T (B j) (E j) x) →
          px_W 4 0 0 mX5_run Q 55 [(0, .inr (1, 0)), (1, .inl (.int (nI m))), (2, .inl (.int (nI g))), (3, .inl (.int (nI A.length))), (4, .inl (.int (nI e)))] [] (mm_M t X) 0 0 := by
        intro v
        induction v with
        | zero => intro e B E S t g3 g4; omega
        | succ v ihv =>
          intro e B E S t g3 g4 ht hS hd
          have t13 : t.1 13 = s.1 13 := (ht.1 13 (by decide)).trans T13
          refine px_iload dX5_run_55 rfl ?_
          refine px_aload_n dX5_run_57 rfl trivial ?_
          refine mm_gets dX5_run_58 F_RX5_111 (by decide) (by (try simp only [mr_In, mr_Ie, mr_A1, mr_D1, mr_R1, mr_T1, ne_eq, Nat.reduceEqDiff, not_false_eq_true]); rfl) ?_
          refine pn_icmp_ge (tgt := 133) dX5_run_61 (by decide) (nI_leI (by omega) (by omega)) (fun z2 => ?_) (fun z2 => ?_)
          · have he : e = s.1 13 := by omega
            rw [he] at hS
            have hS' := mm_OG.close ok (fun q hq => (hLL q hq).2) hS
            refine px_iinc dX5_run_133 rfl (pn_i1 _) (by decide) ?_
            refine px_goto (tgt := 41) dX5_run_136 (by decide) ?_
            exact px_sub (ih (g + 1) B E (A ++ S) t (by omega) (by omega) ht (hac.ext hm hS') hd) rfl
          · have he : e < s.1 13 := by omega
            obtain ⟨b1, b2, -⟩ := ok.2.2.2.1 e he
            have t10 : t.2.1 10 e = s.2.1 10 e := by rw [ht.2.2.1 10 (by decide) (by decide) (by decide) (by decide), T10]
            have t12 : t.2.1 12 e = s.2.1 12 e := by rw [ht.2.2.1 12 (by decide) (by decide) (by decide) (by decide), T12]
            obtain ⟨p1, p2⟩ := hLL _ b1
            have hlen := p2.2.2.1
            -- the end is done
            have done : ∀ (B E : Nat → Nat) (S : List mm_P) (t : mm_S) (r : Nat), (s.2.1 12 e = g → (LL (s.2.1 10 e) 10).length ≤ r) → mm_K3 T B E (A ++ S).length t → px_LG mm_pR m (mm_OG s LL g e r) S → (∀ j x, (A ++ S)[j]? = some x → mm_pq T (B j) (E j) x) → ∀ z1 z2, px_W 4 0 0 mX5_run Q 127 [(0, .inr (1, 0)), (1, .inl (.int (nI m))), (2, .inl (.int (nI g))), (3, .inl (.int (nI A.length))), (4, .inl (.int (nI e))), (5, z1), (6, z2)] [] (mm_M t X) 0 0 := by
              intro B E S t r hr ht hS hd z1 z2
              refine px_iinc dX5_run_127 rfl (pn_i1 _) (by decide) ?_
              refine px_goto (tgt := 55) dX5_run_130 (by decide) ?_
              refine px_sub (ihv (e + 1) B E S t (by omega) (by omega) ht (hS.congr fun x => ⟨?_, ?_⟩) hd) rfl
              · rintro ⟨e', r', e0, w1, w2, w3, w4, w5⟩
                refine ⟨e', r', e0, ?_, w2, w3, w4, w5⟩
                by_cases ee : e' = e
                · rw [ee] at w3 w4
                  obtain ⟨q, -⟩ := List.getElem?_eq_some_iff.mp w4
                  have := hr w3
                  omega
                · omega
              · rintro ⟨e', r', e0, w1, w2, w3, w4, w5⟩
                exact ⟨e', r', e0, by omega, w2, w3, w4, w5⟩
            have loopR : ∀ (w r : Nat) (B E : Nat → Nat) (S : List mm_P) (t : mm_S), r ≤ (LL (s.2.1 10 e) 10).length → (LL (s.2.1 10 e) 10).length < r + w → mm_K3 T B E (A ++ S).length t → px_LG mm_pR m (mm_OG s LL g e r) S → (∀ j x, (A ++ S)[j]? = some x → mm_pq T (B j) (E j) x) →
                px_W 4 0 0 mX5_run Q 82 [(0, .inr (1, 0)), (1, .inl (.int (nI m))), (2, .inl (.int (nI g))), (3, .inl (.int (nI A.length))), (4, .inl (.int (nI e))), (5, .inl (.int (nI (11 * s.2.1 10 e + 10)))), (6, .inl (.int (nI r)))] [] (mm_M t X) 0 0 := by
              intro w
              induction w with
              | zero => intro r B E S t g5 g6; omega
              | succ w ihw =>
                intro r B E S t g5 g6 ht hS hd
                have t12 : t.2.1 12 e = s.2.1 12 e := by rw [ht.2.2.1 12 (by decide) (by decide) (by decide) (by decide), T12]
                have t21 : t.2.1 21 (11 * s.2.1 10 e + 10) = (LL (s.2.1 10 e) 10).length := by rw [ht.2.2.1 21 (by decide) (by decide) (by decide) (by decide)]; exact p1.1
                refine px_iload dX5_run_82 rfl ?_
                refine px_aload_n dX5_run_84 rfl trivial ?_
                refine mm_get dX5_run_85 F_RX5_56 rfl ?_
                refine px_iload dX5_run_88 rfl ?_
                refine mm_ald dX5_run_90 rfl (by first | rfl | assumption) (by (try simp only [mr_I2, mr_An, mr_Ae, mr_D2, mr_Rn, mr_Re, mr_T2, ne_eq, Nat.reduceEqDiff, not_false_eq_true]); rfl) (by first | assumption | omega) ?_
                refine pn_icmp_ge (tgt := 127) dX5_run_91 (by decide) (nI_leI (by omega) (by omega)) (fun z3 => ?_) (fun z3 => ?_)
                · exact px_sub (done B E S t r (fun _ => by omega) ht hS hd _ _) rfl
                · refine px_aload_n dX5_run_94 rfl trivial ?_
                  refine mm_get dX5_run_95 F_RX5_35 rfl ?_
                  refine px_iload dX5_run_98 rfl ?_
                  refine mm_ald dX5_run_100 rfl (by first | rfl | assumption) (by (try simp only [mr_I2, mr_An, mr_Ae, mr_D2, mr_Rn, mr_Re, mr_T2, ne_eq, Nat.reduceEqDiff, not_false_eq_true]); rfl) (by first | assumption | omega) ?_
                  refine px_iload_n dX5_run_101 rfl ?_
                  refine pn_icmp_ne (tgt := 127) dX5_run_102 (by decide) (nI_eq (by omega) (by omega)) (fun z4 => ?_) (fun z4 => ?_)
                  · rw [t12] at z4
                    exact px_sub (done B E S t r (fun q => (z4 q).elim) ht hS hd _ _) rfl
                  · rw [t12] at z4
                    obtain ⟨e0, he0⟩ : ∃ e0, (LL (s.2.1 10 e) 10)[r]? = some e0 := ⟨_, List.getElem?_eq_getElem (by omega)⟩
                    have hF0 := p2.2.1 e0 (List.mem_of_getElem? he0)
                    have hpe : mm_pe T (mm_mk s e e0) = e0 := by
                      have := mm_pe_mk s e e0
                      unfold mm_pe at this ⊢
                      rw [T11]; exact this
                    have hyq : mm_pq T (40 * (11 * s.2.1 10 e + 10) + r) e (mm_mk s e e0) := by
                      refine ⟨rfl, by omega, by omega, ?_, ?_⟩
                      · rw [hpe]; exact p1.2 r e0 he0
                      · rw [hpe]; exact hF0.eok ok
                    have hny := mm_OG.new (g := g) p2 he0
                    have hSl := hS.2.2.1
                    have hn : (A ++ S).length ≤ 320 := by rw [List.length_append]; omega
                    have hFn : A.length ≤ (A ++ S).length := by rw [List.length_append]; omega
                    have hen := me_enlist T t X okT ht A.length m (40 * (11 * s.2.1 10 e + 10) + r) e (A ++ S) (mm_mk s e e0) hn hFn (by omega) rfl hd hyq
                    refine px_aload_n dX5_run_105 rfl trivial ?_
                    refine px_iload_n dX5_run_106 rfl ?_
                    refine px_iload_n dX5_run_107 rfl ?_
                    refine px_bipush (v := nI 40) dX5_run_108 (by decide) ?_
                    refine px_iload dX5_run_110 rfl ?_
                    refine pn_imul dX5_run_112 (by first | exact pk_mul _ _ | rfl) ?_
                    refine px_iload dX5_run_113 rfl ?_
                    refine pn_iadd dX5_run_115 (by first | exact nI_add _ _ | rfl) ?_
                    refine px_iload dX5_run_116 rfl ?_
                    refine px_callV (hen) dX5_run_118 L_RX5_156 (mm_rcv _ _) rfl rfl (by decide) (by omega) (by omega) (Nat.le_of_ble_eq_true rfl) (fun v9 M9 hq => ?_) (fun E9 M9 hq => ?_)
                    · obtain ⟨h0, t', k, k1, k2, k3, k4, rfl, ht'⟩ := hq
                      cases h0
                      obtain ⟨S', s1, s2, s3⟩ := mm_enl_step rfl rfl hd hyq hS hny k1 k2 k3 k4
                      rw [← s2] at ht'
                      refine px_iinc dX5_run_121 rfl (pn_i1 _) (by decide) ?_
                      refine px_goto (tgt := 82) dX5_run_124 (by decide) ?_
                      refine px_sub (ihw (r + 1) _ _ S' t' (by omega) (by omega) ht' (s1.congr fun x => ⟨?_, ?_⟩) s3) rfl
                      · rintro ⟨e', r', e1, w1, w2, w3, w4, w5⟩
                        by_cases ee : e' = e ∧ r' = r
                        · obtain ⟨q1, q2⟩ := ee
                          rw [q1, q2, he0] at w4
                          cases w4
                          rw [q1] at w5
                          exact Or.inr w5
                        · exact Or.inl ⟨e', r', e1, by omega, w2, w3, w4, w5⟩
                      · rintro (⟨e', r', e1, w1, w2, w3, w4, w5⟩ | w5)
                        · exact ⟨e', r', e1, by omega, w2, w3, w4, w5⟩
                        · exact ⟨e, r, e0, by omega, he, z4, he0, w5⟩
                    · exact absurd hq.1 (fun z => by cases z)
            refine px_bipush (v := nI 11) dX5_run_64 (by decide) ?_
            refine px_aload_n dX5_run_66 rfl trivial ?_
            refine mm_get dX5_run_67 F_RX5_29 rfl ?_
            refine px_iload dX5_run_70 rfl ?_
            refine mm_ald dX5_run_72 rfl (by first | rfl | assumption) (by (try simp only [mr_I2, mr_An, mr_Ae, mr_D2, mr_Rn, mr_Re, mr_T2, ne_eq, Nat.reduceEqDiff, not_false_eq_true]); rfl) (by first | assumption | omega) ?_
            rw [t10]
            refine pn_imul dX5_run_73 (by first | exact pk_mul _ _ | rfl) ?_
            refine px_bipush (v := nI 10) dX5_run_74 (by decide) ?_
            refine pn_iadd dX5_run_76 (by first | exact nI_add _ _ | rfl) ?_
            refine px_istore dX5_run_77 (by decide) ?_
            refine px_iconst (v := nI 0) dX5_run_79 (by decide) ?_
            refine px_istore dX5_run_80 (by decide) ?_
            exact px_sub (loopR ((LL (s.2.1 10 e) 10).length + 1) 0 B E S t (by omega) (by omega) ht hS hd) rfl
      refine px_aload_n dX5_run_47 rfl trivial ?_
      refine mm_gets dX5_run_48 F_RX5_145 (by decide) (by (try simp only [mr_In, mr_Ie, mr_A1, mr_D1, mr_R1, mr_T1, ne_eq, Nat.reduceEqDiff, not_false_eq_true]); rfl) ?_
      rw [ht.2.1]
      refine px_istore_n dX5_run_51 (by decide) ?_
      refine px_iconst (v := nI 0) dX5_run_52 (by decide) ?_
      refine px_istore dX5_run_53 (by decide) ?_
      refine px_sub (loopE (s.1 13 + 1) 0 B E [] t (by omega) (by omega) (by rw [List.append_nil]; exact ht) ⟨List.Pairwise.nil, fun e he => absurd he List.not_mem_nil, Nat.zero_le _, fun x hx _ => ?_⟩ (by rw [List.append_nil]; exact hd)) rfl
      obtain ⟨e', r', e0, w1, -⟩ := hx
      omega
