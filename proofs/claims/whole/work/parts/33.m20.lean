/-! ===== gather whole ===== -/
set_option maxRecDepth 100000 in
set_option maxHeartbeats 8000000 in
theorem me_gather_p (s : mm_S) (X : px_M) (ok : mm_ok s) (m : Nat) (hm : m ≤ 40) (hm0 : 0 < m) (f g : Nat → Nat) (ho : mm_ord s f g (s.1 1)) : ∀ (u n : Nat) (LL : Nat → Nat → List mm_E) (t : mm_S), n ≤ s.1 1 → s.1 1 < n + u → mm_gq s t → mm_gd s m g n LL t → mm_g0 g n t → t.2.1 29 = g →
    px_W 3 0 0 mX5_gather (mq_gat s X m) 28 [(0, .inr (1, 0)), (1, .inl (.int (nI m))), (2, .inl (.int (nI n)))] [] (mm_M t X) 0 0 := by
  have h1 := ok.1.1
  have h9 := ok.1.2.2.1
  intro u
  induction u with
  | zero => intro n LL t g1 g2; omega
  | succ u ih =>
    intro n LL t g1 g2 hq hd h0 hg
    obtain ⟨e1, e6, e9, r3, r4, r7, r14, d5, d8⟩ := hq.cls
    refine px_iload_n dX5_gather_28 rfl ?_
    refine px_aload_n dX5_gather_29 rfl trivial ?_
    refine mm_gets dX5_gather_30 F_RX5_85 (by decide) (by (try simp only [mr_In, mr_Ie, mr_A1, mr_D1, mr_R1, mr_T1, ne_eq, Nat.reduceEqDiff, not_false_eq_true]); rfl) ?_
    refine pn_icmp_ge (tgt := 233) dX5_gather_33 (by decide) (nI_leI (by omega) (by omega)) (fun z1 => ?_) (fun z1 => ?_)
    · have hn : n = s.1 1 := by omega
      refine px_vret dX5_gather_233 rfl ⟨rfl, t, LL, rfl, hq, fun q hq' c hc => ?_⟩ (by omega) (by omega)
      have hall : px_cnt f 0 (s.1 1) = 0 := by have := ho.2.2.2.2; omega
      have hfq : f q = 1 := by
        have hle := ho.1 q (by omega)
        rcases (show f q = 1 ∨ f q = 0 by omega) with z | z
        · exact z
        · exfalso
          have key : ∀ k, q < k → 0 < px_cnt f 0 k := by
            intro k
            induction k with
            | zero => intro h; omega
            | succ k ihk =>
              intro h
              show 0 < px_cnt f 0 k + (if f k = 0 then 1 else 0)
              by_cases e : q = k
              · rw [← e, if_pos z]; omega
              · have := ihk (by omega); omega
          have := key (s.1 1) hq'
          omega
      obtain ⟨j, j1, j2⟩ := ho.2.2.2.1 q (by omega) hfq
      rw [← j2]
      exact hd j (by omega) c hc
    · have hn : n < s.1 1 := by omega
      obtain ⟨hgn, -, -⟩ := ho.2.1 n hn
      have hLL : ∀ t O, mm_gs s m g n LL O t → mm_LF s m LL (g n) := by
        intro t O ht a a1 a2 c hc
        obtain ⟨i, i1, i2⟩ := (ho.2.1 n hn).2.2 a a1 a2
        rw [← i2]
        exact (ht.2.1 i i1 c hc).2
      have kk : ∀ t, mm_gs s m g n LL (mm_C s LL (g n)) t → px_W 3 0 0 mX5_gather (mq_gat s X m) 227 [(0, .inr (1, 0)), (1, .inl (.int (nI m))), (2, .inl (.int (nI n)))] [] (mm_M t X) 0 0 := by
        intro t ht
        obtain ⟨LL', hd'⟩ := ht.fin ok ho hn
        refine px_iinc dX5_gather_227 rfl (pn_i1 _) (by decide) ?_
        refine px_goto (tgt := 28) dX5_gather_230 (by decide) ?_
        exact px_sub (ih (n + 1) LL' t (by omega) (by omega) ht.1 hd' ht.2.2.1 ht.2.2.2.2) rfl
      have loopS : ∀ (v i : Nat) (t : mm_S), i ≤ s.1 9 → s.1 9 < i + v → mm_gs s m g n LL (mm_OS s (g n) i) t → px_W 3 0 0 mX5_gather (mq_gat s X m) 46 [(0, .inr (1, 0)), (1, .inl (.int (nI m))), (2, .inl (.int (nI n))), (3, .inl (.int (nI (g n)))), (4, .inl (.int (nI i)))] [] (mm_M t X) 0 0 := by
        intro v
        induction v with
        | zero => intro i t g3 g4; omega
        | succ v ihv =>
          intro i t g3 g4 ht
          obtain ⟨e1, e6, e9, r3, r4, r7, r14, d5, d8⟩ := ht.1.cls
          refine px_iload dX5_gather_46 rfl ?_
          refine px_aload_n dX5_gather_48 rfl trivial ?_
          refine mm_gets dX5_gather_49 F_RX5_116 (by decide) (by (try simp only [mr_In, mr_Ie, mr_A1, mr_D1, mr_R1, mr_T1, ne_eq, Nat.reduceEqDiff, not_false_eq_true]); rfl) ?_
          refine pn_icmp_ge (tgt := 98) dX5_gather_52 (by decide) (nI_leI (by omega) (by omega)) (fun z2 => ?_) (fun z2 => ?_)
          · refine px_iconst (v := nI 0) dX5_gather_98 (by decide) ?_
            refine px_istore dX5_gather_99 (by decide) ?_
            refine px_sub (me_gather_a s X ok m hm hm0 f g ho n hn LL (mq_gat s X m) kk t (ht.congr fun c e => ?_)) rfl
            have ei : i = s.1 9 := by omega
            constructor
            · rintro (w | ⟨a', c', k', e1, w0, -⟩)
              · rw [ei]; exact w
              · unfold px_l3 at w0; omega
            · intro w; rw [ei] at w; exact Or.inl w
          · have hi : i < s.1 9 := by omega
            obtain ⟨b1, b2, b3⟩ := ok.2.2.1 i hi
            have b1' : t.2.1 7 i < 60 := by rw [r7]; omega
            have next : ∀ t, mm_gs s m g n LL (mm_OS s (g n) (i + 1)) t → px_W 3 0 0 mX5_gather (mq_gat s X m) 92 [(0, .inr (1, 0)), (1, .inl (.int (nI m))), (2, .inl (.int (nI n))), (3, .inl (.int (nI (g n)))), (4, .inl (.int (nI i)))] [] (mm_M t X) 0 0 := by
              intro t ht
              refine px_iinc dX5_gather_92 rfl (pn_i1 _) (by decide) ?_
              refine px_goto (tgt := 46) dX5_gather_95 (by decide) ?_
              exact px_sub (ihv (i + 1) t (by omega) (by omega) ht) rfl
            refine px_aload_n dX5_gather_55 rfl trivial ?_
            refine mm_get dX5_gather_56 F_RX5_23 rfl ?_
            refine px_iload dX5_gather_59 rfl ?_
            refine mm_ald dX5_gather_61 rfl (by first | rfl | assumption) (by (try simp only [mr_I2, mr_An, mr_Ae, mr_D2, mr_Rn, mr_Re, mr_T2, ne_eq, Nat.reduceEqDiff, not_false_eq_true]); rfl) (by first | assumption | omega) ?_
            refine px_iload_n dX5_gather_62 rfl ?_
            refine pn_icmp_ne (tgt := 92) dX5_gather_63 (by decide) (nI_eq (by omega) (by omega)) (fun z3 => ?_) (fun z3 => ?_)
            · rw [r7] at z3
              refine px_sub (next t (ht.congr fun c e => ⟨?_, ?_⟩)) rfl
              · rintro ⟨i', w0, w1, w2, w3, w4⟩
                refine ⟨i', ?_, w1, w2, w3, w4⟩
                have : i' ≠ i := fun z => z3 (z ▸ w2)
                omega
              · rintro ⟨i', w0, w1, w2, w3, w4⟩
                exact ⟨i', by omega, w1, w2, w3, w4⟩
            · rw [r7] at z3
              have hmt := mm_mt_le s (g n) (Nat.zero_le 10)
              obtain ⟨L, l1, l2⟩ := ht.2.2.2.1 (mm_mt s (g n) 0) hmt
              have hOF : ∀ c e, mm_OS s (g n) i c e → mm_F s (g n) c e := fun c e h => h.F
              have hFx : mm_F s (g n) (mm_mt s (g n) 0) (s.2.2 8 i, i, []) := ⟨⟨hi, z3⟩, by show mm_mt s (s.2.1 7 i) 0 = _; rw [z3], rfl⟩
              have hnew : ¬ mm_OS s (g n) i (mm_mt s (g n) 0) (s.2.2 8 i, i, []) := by
                rintro ⟨i', w0, w1, w2, w3, w4⟩
                have := (Prod.mk.inj (Prod.mk.inj w4).2).1
                omega
              have hP : (11 * g n + mm_mt s (g n) 0) / 11 = g n := by omega
              have hfr : ∀ e, mm_F s (g n) (mm_mt s (g n) 0) e → ∀ a' ∈ e.2.2, t.2.1 3 a' ≠ (11 * g n + mm_mt s (g n) 0) / 11 := by
                intro e he a' ha'
                obtain ⟨j', w1, w2⟩ := he.1.dn ho hn a' ha'
                rw [hP, r3, ← w2]
                exact ho.2.2.1 j' n w1 hn
              have hcome := me_come t X (11 * g n + mm_mt s (g n) 0) m 0 i L (s.2.2 8 i) i [] (by omega) hm hm0 (by omega) l2.2.2.1 l1 (fun e he => (hOF _ e (l2.2.1 e he)).eok ok) (hFx.eok ok) ⟨rfl, rfl⟩ (fun e he => by
                rcases List.mem_cons.mp he with z | z
                · rw [z]; exact hfr _ hFx
                · exact hfr e (hOF _ e (l2.2.1 e z)))
              have dd8 : t.2.2 8 i = s.2.2 8 i := by rw [d8]
              refine px_aload_n dX5_gather_66 rfl trivial ?_
              refine px_bipush (v := nI 11) dX5_gather_67 (by decide) ?_
              refine px_iload_n dX5_gather_69 rfl ?_
              refine pn_imul dX5_gather_70 (by first | exact pk_mul _ _ | rfl) ?_
              refine px_aload_n dX5_gather_71 rfl trivial ?_
              refine px_iload_n dX5_gather_72 rfl ?_
              refine px_iconst (v := nI 0) dX5_gather_73 (by decide) ?_
              refine px_callVr ((me_met' X ok ht.1 (g n) 0 hgn (by omega))) dX5_gather_74 L_RX5_134 (mm_rcv _ _) rfl rfl (by decide) (by omega) (by omega) (Nat.le_of_ble_eq_true rfl) ?_
              refine pn_iadd dX5_gather_77 (by first | exact nI_add _ _ | rfl) ?_
              refine px_iload_n dX5_gather_78 rfl ?_
              refine px_iconst (v := -1) dX5_gather_79 (by decide) ?_
              refine px_iload dX5_gather_80 rfl ?_
              refine px_aload_n dX5_gather_82 rfl trivial ?_
              refine mm_get dX5_gather_83 F_RX5_26 rfl ?_
              refine px_iload dX5_gather_86 rfl ?_
              refine mm_ald_d dX5_gather_88 rfl (by first | rfl | assumption) (by (try simp only [mr_I3, mr_A3, mr_Dn, mr_De, mr_R3, mr_Tn, mr_Te, ne_eq, Nat.reduceEqDiff, not_false_eq_true]); rfl) (by first | assumption | omega) ?_
              rw [dd8]
              refine px_callV (hcome) dX5_gather_89 L_RX5_137 (mm_rcv _ _) rfl rfl (by decide) (by omega) (by omega) (Nat.le_of_ble_eq_true rfl) (fun v9 M9 hq => ?_) (fun E9 M9 hq => ?_)
              · obtain ⟨hz, t', A, B, hL, hA, hB, rfl, hcq, hpl⟩ := hq
                cases hz
                rw [hL] at l2
                have hst := ht.step ok hm ho hn hOF hmt hnew l2 hA hB hcq hpl
                refine px_sub (next t' (hst.congr fun c e => ?_)) rfl
                constructor
                · rintro ⟨i', w0, w1, w2, w3, w4⟩
                  by_cases e3 : i' = i
                  · subst e3
                    exact Or.inr ⟨w3, w4⟩
                  · exact Or.inl ⟨i', by omega, w1, w2, w3, w4⟩
                · rintro (⟨i', w0, w1, w2, w3, w4⟩ | ⟨w1, w2⟩)
                  · exact ⟨i', by omega, w1, w2, w3, w4⟩
                  · exact ⟨i, by omega, hi, z3, w1, w2⟩
              · exact absurd hq.1 (fun z => by cases z)
      have hbeg := mm_gs.beg hq hd h0 hg (show g n < 60 by omega) (fun j hj => ho.2.2.1 j n hj hn)
      refine px_aload_n dX5_gather_36 rfl trivial ?_
      refine mm_get dX5_gather_37 F_RX5_75 rfl ?_
      refine px_iload_n dX5_gather_40 rfl ?_
      refine mm_ald dX5_gather_41 rfl (by first | rfl | assumption) (by (try simp only [mr_I2, mr_An, mr_Ae, mr_D2, mr_Rn, mr_Re, mr_T2, ne_eq, Nat.reduceEqDiff, not_false_eq_true]); rfl) (by first | assumption | omega) ?_
      rw [hg]
      refine px_istore_n dX5_gather_42 (by decide) ?_
      refine px_iconst (v := nI 0) dX5_gather_43 (by decide) ?_
      refine px_istore dX5_gather_44 (by decide) ?_
      exact px_sub (loopS (s.1 9 + 1) 0 t (by omega) (by omega) (hbeg.congr fun c e => ⟨fun ⟨i', w0, _⟩ => by omega, False.elim⟩)) rfl
set_option maxRecDepth 100000 in
set_option maxHeartbeats 8000000 in
theorem me_gather (s : mm_S) (X : px_M) (ok : mm_ok s) (m : Nat) (hm : m ≤ 40) (hm0 : 0 < m) : px_Met 3 0 0 mX5_gather [.inr (1, 0), .inl (.int (nI m))] (mm_M s X) (mq_gat s X m) := by
  have h1 := ok.1.1
  refine px_ofW (by decide) W_mX5_gather (Nat.le_of_ble_eq_true rfl) ?_
  have init : ∀ (u k : Nat) (c : Nat → Nat), k ≤ 660 → 660 < k + u → (∀ q, q < k → c q = 0) → px_W 3 0 0 mX5_gather (mq_gat s X m) 2 [(0, .inr (1, 0)), (1, .inl (.int (nI m))), (2, .inl (.int (nI k)))] [] (mm_M (mm_R s 21 c) X) 0 0 := by
    intro u
    induction u with
    | zero => intro k c g1 g2; omega
    | succ u ih =>
      intro k c g1 g2 hc
      refine px_iload_n dX5_gather_2 rfl ?_
      refine px_sipush (v := nI 660) dX5_gather_3 (by decide) ?_
      refine pn_icmp_ge (tgt := 22) dX5_gather_6 (by decide) (nI_leI (by omega) (by omega)) (fun z1 => ?_) (fun z1 => ?_)
      · have okc : mm_ok (mm_R s 21 c) := ok
        refine px_aload_n dX5_gather_22 rfl trivial ?_
        refine px_callV ((me_arrange (mm_R s 21 c) X okc)) dX5_gather_23 L_RX5_131 (mm_rcv _ _) rfl rfl (by decide) (by omega) (by omega) (Nat.le_of_ble_eq_true rfl) (fun v9 M9 hq => ?_) (fun E9 M9 hq => ?_)
        · obtain ⟨hz, t, f, g, rfl, hK, ho⟩ := hq
          cases hz
          have hgq : mm_gq s t := ⟨hK.1, fun k k1 k2 k3 k4 k5 k6 k7 => (hK.2.1 k k4 k7).trans (if_neg k3), fun k _ => by rw [hK.2.2.1]; rfl⟩
          have ho' : mm_ord s f g (s.1 1) := ho
          refine px_iconst (v := nI 0) dX5_gather_26 (by decide) ?_
          refine px_istore_n dX5_gather_27 (by decide) ?_
          refine px_sub (me_gather_p s X ok m hm hm0 f g ho' (s.1 1 + 1) 0 (fun _ _ => []) t (by omega) (by omega) hgq (fun j hj => by omega) (fun q hq _ c' hc' => ?_) hK.2.2.2.2) rfl
          rw [hK.2.1 21 (by decide) (by decide), mr_Re]
          exact hc _ (by omega)
        · exact absurd hq.1 (fun z => by cases z)
      · refine px_aload_n dX5_gather_9 rfl trivial ?_
        refine mm_get dX5_gather_10 F_RX5_56 rfl ?_
        refine px_iload_n dX5_gather_13 rfl ?_
        refine px_iconst (v := nI 0) dX5_gather_14 (by decide) ?_
        refine mm_ast dX5_gather_15 rfl (by first | rfl | assumption) (by first | rfl | assumption) (by first | assumption | omega) ?_
        refine px_iinc dX5_gather_16 rfl (pn_i1 _) (by decide) ?_
        refine px_goto (tgt := 2) dX5_gather_19 (by decide) ?_
        rw [mr_RA]
        refine px_sub (ih (k + 1) _ (by omega) (by omega) fun q hq => ?_) rfl
        unfold px_upN
        split
        · rfl
        · exact hc q (by omega)
  refine px_iconst (v := nI 0) dX5_gather_0 (by decide) ?_
  refine px_istore_n dX5_gather_1 (by decide) ?_
  have := init 661 0 (s.2.1 21) (by omega) (by omega) (fun q h => by omega)
  rw [mr_R0] at this
  exact px_sub this rfl
