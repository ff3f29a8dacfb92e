/-! ===== a row comes: the whole call ===== -/
theorem px_cI_ge (n : Nat) : 0 ≤ px_cI n ↔ n ≠ 0 := by
  match n with
  | 0 => exact ⟨fun h => absurd h (by decide), fun h => absurd rfl h⟩
  | 1 => exact ⟨fun _ => by decide, fun _ => by decide⟩
  | n + 2 => exact ⟨fun _ => by omega, fun _ => by show (0 : Int32) ≤ 1; decide⟩
set_option maxRecDepth 100000 in
set_option maxHeartbeats 8000000 in
theorem me_come (s : mm_S) (X : px_M) (P m b w : Nat) (L : List mm_E) (ti : Int) (i : Nat) (as : List Nat) (hP : P < 660) (hm : m ≤ 40) (hm0 : 0 < m) (hw : w < 150) (hL : L.length ≤ m) (hpl : mm_pl s P L) (hok : ∀ e ∈ L, mm_eok e) (hy : mm_eok (ti, i, as)) (htl : mm_tl s b w i as) (hF : ∀ e ∈ (ti, i, as) :: L, ∀ a ∈ e.2.2, s.2.1 3 a ≠ P / 11) :
    px_Met 2 0 0 mX5_come [.inr (1, 0), .inl (.int (nI P)), .inl (.int (nI m)), .inl (.int (px_o b)), .inl (.int (nI w)), .inl (.double (dz ti))] (mm_M s X) (mq_come s X P m L (ti, i, as)) := by
  refine px_ofW (by decide) W_mX5_come (Nat.le_of_ble_eq_true rfl) ?_
  have hn := hpl.1
  have loop : ∀ (u k : Nat) (t : mm_S), k ≤ L.length → L.length < k + u → mm_K s (px_upN (s.2.1 18) 26400 b) (px_upN (s.2.1 19) 26400 w) (px_upN (s.2.2 20) 26400 ti) t → (∀ e ∈ L.take k, mm_eR e (ti, i, as)) →
      px_W 2 0 0 mX5_come (mq_come s X P m L (ti, i, as)) 48 [(0, .inr (1, 0)), (1, .inl (.int (nI P))), (2, .inl (.int (nI m))), (3, .inl (.int (px_o b))), (4, .inl (.int (nI w))), (5, .inl (.double (dz ti))), (7, .inl (.int (nI (40 * P)))), (8, .inl (.int (nI L.length))), (9, .inl (.int (nI 26400))), (10, .inl (.int (nI k)))] [] (mm_M t X) 0 0 := by
    intro u
    induction u with
    | zero => intro k t h1 h2; omega
    | succ u ih =>
      intro k t h1 h2 ht hA
      have htk : (L.take k).length = k := by rw [List.length_take]; omega
      have exit : ∀ t, mm_K s (px_upN (s.2.1 18) 26400 b) (px_upN (s.2.1 19) 26400 w) (px_upN (s.2.2 20) 26400 ti) t → (∀ e, (L.drop k).head? = some e → ¬ mm_eR e (ti, i, as)) → px_W 2 0 0 mX5_come (mq_come s X P m L (ti, i, as)) 107 [(0, .inr (1, 0)), (1, .inl (.int (nI P))), (2, .inl (.int (nI m))), (3, .inl (.int (px_o b))), (4, .inl (.int (nI w))), (5, .inl (.double (dz ti))), (7, .inl (.int (nI (40 * P)))), (8, .inl (.int (nI L.length))), (9, .inl (.int (nI 26400))), (10, .inl (.int (nI k)))] [] (mm_M t X) 0 0 := by
        intro t ht hB
        have agree : ∀ r, r < 26400 → t.2.1 18 r = s.2.1 18 r ∧ t.2.1 19 r = s.2.1 19 r ∧ t.2.2 20 r = s.2.2 20 r := by
          intro r hr
          rw [ht.2.2.2.1, ht.2.2.2.2.1, ht.2.2.2.2.2]
          exact ⟨if_neg (by omega), if_neg (by omega), if_neg (by omega)⟩
        refine px_iload dX5_come_107 rfl ?_
        refine px_iload_n dX5_come_109 rfl ?_
        refine pn_icmp_ne (tgt := 114) dX5_come_110 (by decide) (nI_eq (by omega) (by omega)) (fun z1 => ?_) (fun z1 => ?_)
        · refine px_sub (me_come_2 s X P m b w ti _ _ _ k L.length (mq_come s X P m L (ti, i, as)) hP hm hm0 h1 hL z1 ?_ t ht) rfl
          intro last s' hl q1 q2 q3 q4 q5 q6 q7
          have l1 : last < 40 ∧ k ≤ last ∧ L.length ≤ last + 1 := by
            rw [hl]; split <;> omega
          refine ⟨rfl, s', L.take k, L.drop k, (List.take_append_drop k L).symm, hA, hB, rfl, ⟨q1, q2, q3, ?_, ?_⟩, ?_, ?_⟩
          · intro r r1 r2
            rw [q5, q6, q7, if_neg (by omega), if_neg (by omega), if_neg (by omega), if_neg (by omega), if_neg (by omega), if_neg (by omega)]
            exact ⟨if_neg (by omega), if_neg (by omega), if_neg (by omega)⟩
          · intro p hp; rw [q4, if_neg hp]
          · rw [q4, if_pos rfl, List.length_take, List.length_append, List.length_cons, htk, List.length_drop]
            rw [hl]; split <;> omega
          · intro j e he
            have hj : j < ((L.take k ++ (ti, i, as) :: L.drop k).take m).length := by
              obtain ⟨h, -⟩ := List.getElem?_eq_some_iff.mp he; exact h
            rw [List.length_take, List.length_append, List.length_cons, htk, List.length_drop] at hj
            have hj' : j ≤ last := by rw [hl]; split <;> omega
            have e3 : s'.2.1 3 = s.2.1 3 := q2 3 (by decide) (by decide) (by decide) (by decide) (by decide)
            have fr : ∀ r, r < 26400 → r / 440 ≠ P / 11 → s'.2.1 18 r = s.2.1 18 r ∧ s'.2.1 19 r = s.2.1 19 r := by
              intro r r1 r2
              rw [q5, q6, if_neg (by omega), if_neg (by omega), if_neg (by omega), if_neg (by omega)]
              exact ⟨if_neg (by omega), if_neg (by omega)⟩
            have frt : ∀ {as' : List Nat} {i' b' w' : Nat}, (∀ a ∈ as', s.2.1 3 a ≠ P / 11) → mm_tl s b' w' i' as' → mm_tl s' b' w' i' as' := by
              intro as' i' b' w' ha h
              refine h.fr e3 fun r r1 r2 => fr r r1 ?_
              obtain ⟨a, a1, a2⟩ := r2
              rw [a2]; exact ha a a1
            rcases mm_ins_get h1 he with ⟨c1, c2⟩ | ⟨c1, c2⟩ | ⟨c1, c2⟩
            · obtain ⟨d1, d2⟩ := hpl.2 j e c2
              refine ⟨?_, mm_row_tl.mpr ?_⟩
              · rw [q7, if_neg (by omega), if_neg (by omega)]; exact (if_neg (by omega)).trans d1
              · rw [q5, q6, if_neg (by omega), if_neg (by omega), if_neg (by omega), if_neg (by omega)]
                rw [show px_upN (s.2.1 18) 26400 b (40 * P + j) = s.2.1 18 (40 * P + j) from if_neg (by omega), show px_upN (s.2.1 19) 26400 w (40 * P + j) = s.2.1 19 (40 * P + j) from if_neg (by omega)]
                exact frt (hF e (List.mem_cons_of_mem _ (List.mem_of_getElem? c2))) (mm_row_tl.mp d2)
            · subst c1 c2
              refine ⟨by rw [q7, if_pos rfl], mm_row_tl.mpr ?_⟩
              rw [q5, q6, if_pos rfl, if_pos rfl]
              exact frt (hF _ List.mem_cons_self) htl
            · obtain ⟨d1, d2⟩ := hpl.2 (j - 1) e c2
              rw [show 40 * P + (j - 1) = 40 * P + j - 1 by omega] at d1 d2
              refine ⟨?_, mm_row_tl.mpr ?_⟩
              · rw [q7, if_neg (by omega), if_pos (by omega)]; exact (if_neg (by omega)).trans d1
              · rw [q5, q6, if_neg (by omega), if_pos (by omega), if_neg (by omega), if_pos (by omega)]
                rw [show px_upN (s.2.1 18) 26400 b (40 * P + j - 1) = s.2.1 18 (40 * P + j - 1) from if_neg (by omega), show px_upN (s.2.1 19) 26400 w (40 * P + j - 1) = s.2.1 19 (40 * P + j - 1) from if_neg (by omega)]
                exact frt (hF e (List.mem_cons_of_mem _ (List.mem_of_getElem? c2))) (mm_row_tl.mp d2)
        · refine px_vret dX5_come_113 rfl ⟨rfl, t, L.take k, L.drop k, (List.take_append_drop k L).symm, hA, hB, rfl, ⟨ht.1, fun k' k1 k2 k3 k4 k5 => ht.2.1 k' k1 k2 k4 k5, ht.2.2.1, fun r r1 r2 => agree r r1, fun p hp => congrFun (ht.2.1 21 (by decide) (by decide) (by decide) (by decide)) p⟩, ?_⟩ (by omega) (by omega)
          have e : (L.take k ++ (ti, i, as) :: L.drop k).take m = L := by
            rw [List.take_append_of_le_length (by omega), List.take_take, List.take_of_length_le (by omega)]
          rw [e]
          refine ⟨?_, fun j e' he => ?_⟩
          · rw [ht.2.1 21 (by decide) (by decide) (by decide) (by decide)]; exact hn
          · obtain ⟨d1, d2⟩ := hpl.2 j e' he
            have hj : j < L.length := by obtain ⟨h, -⟩ := List.getElem?_eq_some_iff.mp he; exact h
            obtain ⟨a1, a2, a3⟩ := agree (40 * P + j) (by omega)
            refine ⟨a3.trans d1, mm_row_tl.mpr ?_⟩
            rw [a1, a2]
            exact (mm_row_tl.mp d2).fr (ht.2.1 3 (by decide) (by decide) (by decide) (by decide)) fun r r1 _ => ⟨(agree r r1).1, (agree r r1).2.1⟩
      refine px_iload dX5_come_48 rfl ?_
      refine px_iload dX5_come_50 rfl ?_
      refine pn_icmp_ge (tgt := 107) dX5_come_52 (by decide) (nI_leI (by omega) (by omega)) (fun z1 => ?_) (fun z1 => ?_)
      · refine px_sub (exit t ht fun e he => ?_) rfl
        rw [List.drop_eq_nil_of_le (by omega)] at he
        cases he
      · obtain ⟨e, he⟩ : ∃ e, L[k]? = some e := ⟨_, List.getElem?_eq_getElem (by omega)⟩
        obtain ⟨d1, d2⟩ := hpl.2 k e he
        have eM := List.mem_of_getElem? he
        obtain ⟨o1, o2, o3, o4⟩ := hok e eM
        obtain ⟨y1, y2, y3, y4⟩ := hy
        have y4' : ti.natAbs ≤ 2 ^ 40 := y4
        have hd : L.drop k = e :: L.drop (k + 1) := by
          obtain ⟨g1, g2⟩ := List.getElem?_eq_some_iff.mp he
          rw [List.drop_eq_getElem_cons g1, g2]
        have eT : t.2.2 20 (40 * P + k) = e.1 := by
          rw [ht.2.2.2.2.2]; exact (if_neg (by omega)).trans d1
        have next : mm_eR e (ti, i, as) → ∀ t', mm_K s (px_upN (s.2.1 18) 26400 b) (px_upN (s.2.1 19) 26400 w) (px_upN (s.2.2 20) 26400 ti) t' → px_W 2 0 0 mX5_come (mq_come s X P m L (ti, i, as)) 101 [(0, .inr (1, 0)), (1, .inl (.int (nI P))), (2, .inl (.int (nI m))), (3, .inl (.int (px_o b))), (4, .inl (.int (nI w))), (5, .inl (.double (dz ti))), (7, .inl (.int (nI (40 * P)))), (8, .inl (.int (nI L.length))), (9, .inl (.int (nI 26400))), (10, .inl (.int (nI k)))] [] (mm_M t' X) 0 0 := by
          intro hR t' ht'
          refine px_iinc dX5_come_101 rfl (pn_i1 _) (by decide) ?_
          refine px_goto (tgt := 48) dX5_come_104 (by decide) ?_
          refine px_sub (ih (k + 1) t' (by omega) (by omega) ht' fun e' he' => ?_) rfl
          rw [List.take_succ, he] at he'
          rcases List.mem_append.mp he' with h | h
          · exact hA e' h
          · have h' : e' = e := by simpa using h
            rw [h']; exact hR
        have he1 : ∀ e', (L.drop k).head? = some e' → e' = e := by
          intro e' he'
          rw [hd] at he'
          exact (Option.some.inj he').symm
        refine px_aload_n dX5_come_55 rfl trivial ?_
        refine mm_get dX5_come_56 F_RX5_53 rfl ?_
        refine px_iload dX5_come_59 rfl ?_
        refine px_iload dX5_come_61 rfl ?_
        refine pn_iadd dX5_come_63 (by first | exact nI_add _ _ | rfl) ?_
        refine mm_ald_d dX5_come_64 rfl (by first | rfl | assumption) (by (try simp only [mr_I3, mr_A3, mr_Dn, mr_De, mr_R3, mr_Tn, mr_Te, ne_eq, Nat.reduceEqDiff, not_false_eq_true]); rfl) (by first | assumption | omega) ?_
        refine px_dload dX5_come_65 rfl ?_
        refine pn_dcmp dX5_come_67 rfl rfl (by omega) (by omega) ?_
        refine pn_if_gt (tgt := 101) dX5_come_68 (by decide) (dz_c_gt _ _) (fun z2 => ?_) (fun z2 => ?_)
        · rw [eT] at z2
          exact px_sub (next (Or.inl z2) t ht) rfl
        · rw [eT] at z2
          refine px_aload_n dX5_come_71 rfl trivial ?_
          refine mm_get dX5_come_72 F_RX5_53 rfl ?_
          refine px_iload dX5_come_75 rfl ?_
          refine px_iload dX5_come_77 rfl ?_
          refine pn_iadd dX5_come_79 (by first | exact nI_add _ _ | rfl) ?_
          refine mm_ald_d dX5_come_80 rfl (by first | rfl | assumption) (by (try simp only [mr_I3, mr_A3, mr_Dn, mr_De, mr_R3, mr_Tn, mr_Te, ne_eq, Nat.reduceEqDiff, not_false_eq_true]); rfl) (by first | assumption | omega) ?_
          refine px_dload dX5_come_81 rfl ?_
          refine pn_dcmp dX5_come_83 rfl rfl (by omega) (by omega) ?_
          refine pn_if_ne (tgt := 107) dX5_come_84 (by decide) (dz_c_eq _ _) (fun z3 => ?_) (fun z3 => ?_)
          · rw [eT] at z3
            refine px_sub (exit t ht fun e' he' => ?_) rfl
            rw [he1 e' he']
            rintro (h | ⟨h, -⟩)
            · exact z2 h
            · exact z3 h
          · rw [eT] at z3
            have fr : ∀ r, r < 26400 → t.2.1 18 r = s.2.1 18 r ∧ t.2.1 19 r = s.2.1 19 r := by
              intro r hr
              rw [ht.2.2.2.1, ht.2.2.2.2.1]
              exact ⟨if_neg (by omega), if_neg (by omega)⟩
            have e3 : t.2.1 3 = s.2.1 3 := ht.2.1 3 (by decide) (by decide) (by decide) (by decide)
            have r1 : mm_row t e.2.1 e.2.2 (40 * P + k) := by
              refine mm_row_tl.mpr ?_
              rw [(fr _ (by omega)).1, (fr _ (by omega)).2]
              exact (mm_row_tl.mp d2).fr e3 fun r hr _ => fr r hr
            have r2 : mm_row t i as 26400 := by
              refine mm_row_tl.mpr ?_
              rw [ht.2.2.2.1, ht.2.2.2.2.1, show px_upN (s.2.1 18) 26400 b 26400 = b from if_pos rfl, show px_upN (s.2.1 19) 26400 w 26400 = w from if_pos rfl]
              exact htl.fr e3 fun r hr _ => fr r hr
            refine px_aload_n dX5_come_87 rfl trivial ?_
            refine px_iload dX5_come_88 rfl ?_
            refine px_iload dX5_come_90 rfl ?_
            refine pn_iadd dX5_come_92 (by first | exact nI_add _ _ | rfl) ?_
            refine px_iload dX5_come_93 rfl ?_
            refine px_callV ((me_compareRows t X e.2.1 i (40 * P + k) 26400 e.2.2 as (by omega) (by omega) o1 y1 r1 r2 o2 y2 o3 y3)) dX5_come_95 L_RX5_127 (mm_rcv _ _) rfl rfl (by decide) (by omega) (by omega) (Nat.le_of_ble_eq_true rfl) (fun v9 M9 hq => ?_) (fun E9 M9 hq => ?_)
            · obtain ⟨h0, f, g, rfl⟩ := hq
              cases h0
              refine pn_if_ge (tgt := 107) dX5_come_98 (by decide) (px_cI_ge _) (fun z4 => ?_) (fun z4 => ?_)
              · refine px_sub (exit _ (ht.R f g) fun e' he' => ?_) rfl
                rw [he1 e' he']
                rintro (h | ⟨-, h⟩)
                · exact z2 h
                · exact z4 h
              · exact px_sub (next (Or.inr ⟨z3, Decidable.of_not_not z4⟩) _ (ht.R f g)) rfl
            · exact absurd hq.1 (fun z => by cases z)
  refine px_bipush (v := nI 40) dX5_come_0 (by decide) ?_
  refine px_iload_n dX5_come_2 rfl ?_
  refine pn_imul dX5_come_3 (by first | exact pk_mul _ _ | rfl) ?_
  refine px_istore dX5_come_4 (by decide) ?_
  refine px_aload_n dX5_come_6 rfl trivial ?_
  refine mm_get dX5_come_7 F_RX5_56 rfl ?_
  refine px_iload_n dX5_come_10 rfl ?_
  refine mm_ald dX5_come_11 rfl (by first | rfl | assumption) (by (try simp only [mr_I2, mr_An, mr_Ae, mr_D2, mr_Rn, mr_Re, mr_T2, ne_eq, Nat.reduceEqDiff, not_false_eq_true]); rfl) (by first | assumption | omega) ?_
  rw [hn]
  refine px_istore dX5_come_12 (by decide) ?_
  refine px_sipush (v := nI 26400) dX5_come_14 (by decide) ?_
  refine px_istore dX5_come_17 (by decide) ?_
  refine px_aload_n dX5_come_19 rfl trivial ?_
  refine mm_get dX5_come_20 F_RX5_47 rfl ?_
  refine px_iload dX5_come_23 rfl ?_
  refine px_iload_n dX5_come_25 rfl ?_
  refine mm_ast_o dX5_come_26 rfl (by first | rfl | assumption) (by first | exact px_o_n | exact px_o_s _ | rfl | assumption) (by first | assumption | omega) ?_
  refine px_aload_n dX5_come_27 rfl trivial ?_
  refine mm_get dX5_come_28 F_RX5_50 rfl ?_
  refine px_iload dX5_come_31 rfl ?_
  refine px_iload dX5_come_33 rfl ?_
  refine mm_ast dX5_come_35 rfl (by first | rfl | assumption) (by first | rfl | assumption) (by first | assumption | omega) ?_
  refine px_aload_n dX5_come_36 rfl trivial ?_
  refine mm_get dX5_come_37 F_RX5_53 rfl ?_
  refine px_iload dX5_come_40 rfl ?_
  refine px_dload dX5_come_42 rfl ?_
  refine mm_ast_d dX5_come_44 rfl (by first | rfl | assumption) (by first | rfl | assumption) (by first | assumption | omega) ?_
  refine px_iconst (v := nI 0) dX5_come_45 (by decide) ?_
  refine px_istore dX5_come_46 (by decide) ?_
  exact px_sub (loop (L.length + 1) 0 _ (by omega) (by omega) ((((mm_K.rf s).B _ _).W _ _).T _ _) (fun e he => absurd he (by simp))) rfl
