/-! ===== a way is listed ===== -/
def mm_pos (n k : Nat) (B : Nat → Nat) (r : Nat) (j : Nat) : Nat := if j < k then B j else if j = k then r else if j ≤ n then B (j - 1) else B j
def mq_enl (s : mm_S) (X : px_M) (B E : Nat → Nat) (n F m r e : Nat) (A : List mm_P) (y : mm_P) : px_Q := fun o M' => o = .inl none ∧ ∃ (t' : mm_S) (k : Nat), F ≤ k ∧ k ≤ n ∧ (∀ j x, k ≤ j → A[j]? = some x → mm_pR y x) ∧ (k = F ∨ ∃ x, 0 < k ∧ A[k - 1]? = some x ∧ ¬ mm_pR y x) ∧ M' = mm_M t' X ∧ mm_K3 s (mm_pos n k B r) (mm_pos n k E e) (if n - F < m then n + 1 else n) t'
theorem mm_pos_eq (n k : Nat) (B : Nat → Nat) (r : Nat) : mm_pos n k B r k = r := by unfold mm_pos; rw [if_neg (Nat.lt_irrefl _), if_pos rfl]
theorem mm_pos_lt (n k : Nat) (B : Nat → Nat) (r : Nat) {j : Nat} (h : j < k) : mm_pos n k B r j = B j := by unfold mm_pos; rw [if_pos h]
theorem mm_pos_gt (n k : Nat) (B : Nat → Nat) (r : Nat) {j : Nat} (h : k < j) (hn : j ≤ n) : mm_pos n k B r j = B (j - 1) := by unfold mm_pos; rw [if_neg (by omega), if_neg (by omega), if_pos hn]
theorem mm_pos_out (n k : Nat) (B : Nat → Nat) (r : Nat) {j : Nat} (hk : k ≤ n) (hn : n < j) : mm_pos n k B r j = B j := by unfold mm_pos; rw [if_neg (by omega), if_neg (by omega), if_neg (by omega)]
theorem mm_pos_sw {n k : Nat} (B : Nat → Nat) (r : Nat) (hk : 0 < k) (hn : k ≤ n) : px_upN (px_upN (mm_pos n k B r) k (B (k - 1))) (k - 1) r = mm_pos n (k - 1) B r := by
  funext j
  unfold px_upN
  by_cases h1 : j = k - 1
  · rw [if_pos h1, h1, mm_pos_eq]
  · rw [if_neg h1]
    by_cases h2 : j = k
    · rw [if_pos h2, mm_pos_gt _ _ _ _ (by omega) (by omega), h2]
    · rw [if_neg h2]
      by_cases h3 : j < k
      · rw [mm_pos_lt _ _ _ _ h3, mm_pos_lt _ _ _ _ (by omega)]
      · by_cases h4 : j ≤ n
        · rw [mm_pos_gt _ _ _ _ (by omega) h4, mm_pos_gt _ _ _ _ (by omega) h4]
        · rw [mm_pos_out _ _ _ _ (by omega) (by omega), mm_pos_out _ _ _ _ (by omega) (by omega)]
theorem mm_pos_0 (n : Nat) (B : Nat → Nat) (r : Nat) : px_upN B n r = mm_pos n n B r := by
  funext j
  unfold px_upN
  by_cases h : j = n
  · rw [if_pos h, h, mm_pos_eq]
  · rw [if_neg h]
    by_cases h2 : j < n
    · rw [mm_pos_lt _ _ _ _ h2]
    · rw [mm_pos_out _ _ _ _ (Nat.le_refl _) (by omega)]
set_option maxRecDepth 100000 in
set_option maxHeartbeats 8000000 in
theorem me_enlist (s t : mm_S) (X : px_M) (ok : mm_ok s) {B E : Nat → Nat} {n : Nat} (ht : mm_K3 s B E n t) (F m r e : Nat) (A : List mm_P) (y : mm_P) (hn : n ≤ 320) (hF : F ≤ n) (hm : m ≤ 400) (hA : A.length = n) (hd : ∀ k x, A[k]? = some x → mm_pq s (B k) (E k) x) (hy : mm_pq s r e y) : px_Met 3 0 0 mX5_enlist [.inr (1, 0), .inl (.int (nI F)), .inl (.int (nI m)), .inl (.int (nI r)), .inl (.int (nI e))] (mm_M t X) (mq_enl s X B E n F m r e A y) := by
  have h13 := ok.1.2.2.2.1
  have hr := hy.2.2.1
  have he := hy.2.1
  refine px_ofW (by decide) W_mX5_enlist (Nat.le_of_ble_eq_true rfl) ?_
  have exit : ∀ (k : Nat) (t : mm_S), F ≤ k → k ≤ n → mm_K3 s (mm_pos n k B r) (mm_pos n k E e) n t → (∀ j x, k ≤ j → A[j]? = some x → mm_pR y x) → (k = F ∨ ∃ x, 0 < k ∧ A[k - 1]? = some x ∧ ¬ mm_pR y x) → px_W 3 0 0 mX5_enlist (mq_enl s X B E n F m r e A y) 124 [(0, .inr (1, 0)), (1, .inl (.int (nI F))), (2, .inl (.int (nI m)))] [] (mm_M t X) 0 0 := by
    intro k t k1 k2 ht hS hk
    refine px_aload_n dX5_enlist_124 rfl trivial ?_
    refine px_aload_n dX5_enlist_125 rfl trivial ?_
    refine mm_gets dX5_enlist_126 F_RX5_145 (by decide) (by (try simp only [mr_In, mr_Ie, mr_A1, mr_D1, mr_R1, mr_T1, ne_eq, Nat.reduceEqDiff, not_false_eq_true]); rfl) ?_
    rw [ht.2.1]
    refine px_iload_n dX5_enlist_129 rfl ?_
    refine pn_isub dX5_enlist_130 (by first | exact pk_sub (by omega) | rfl) ?_
    refine px_iload_n dX5_enlist_131 rfl ?_
    refine pn_icmp_ge (tgt := 144) dX5_enlist_132 (by decide) (nI_leI (by omega) (by omega)) (fun z => ?_) (fun z => ?_)
    · refine px_aload_n dX5_enlist_144 rfl trivial ?_
      refine mm_gets dX5_enlist_145 F_RX5_145 (by decide) (by (try simp only [mr_In, mr_Ie, mr_A1, mr_D1, mr_R1, mr_T1, ne_eq, Nat.reduceEqDiff, not_false_eq_true]); rfl) ?_
      rw [ht.2.1]
      refine mm_put dX5_enlist_148 F_RX5_145 nf_5_24 (by decide) (by first | exact ⟨rfl, rfl⟩ | decide) ?_
      refine px_vret dX5_enlist_151 rfl ⟨rfl, _, k, k1, k2, hS, hk, rfl, ?_⟩ (by omega) (by omega)
      rw [if_neg (by omega)]
      exact ht.N n
    · refine px_aload_n dX5_enlist_135 rfl trivial ?_
      refine mm_gets dX5_enlist_136 F_RX5_145 (by decide) (by (try simp only [mr_In, mr_Ie, mr_A1, mr_D1, mr_R1, mr_T1, ne_eq, Nat.reduceEqDiff, not_false_eq_true]); rfl) ?_
      rw [ht.2.1]
      refine px_iconst (v := nI 1) dX5_enlist_139 (by decide) ?_
      refine pn_iadd dX5_enlist_140 (by first | exact nI_add _ _ | rfl) ?_
      refine px_goto (tgt := 148) dX5_enlist_141 (by decide) ?_
      refine mm_put dX5_enlist_148 F_RX5_145 nf_5_24 (by decide) (by first | exact ⟨rfl, rfl⟩ | decide) ?_
      refine px_vret dX5_enlist_151 rfl ⟨rfl, _, k, k1, k2, hS, hk, rfl, ?_⟩ (by omega) (by omega)
      rw [if_pos (by omega)]
      exact ht.N (n + 1)
  have loop : ∀ (u k : Nat) (t : mm_S), k = F + u → k ≤ n → mm_K3 s (mm_pos n k B r) (mm_pos n k E e) n t → (∀ j x, k ≤ j → A[j]? = some x → mm_pR y x) → px_W 3 0 0 mX5_enlist (mq_enl s X B E n F m r e A y) 27 [(0, .inr (1, 0)), (1, .inl (.int (nI F))), (2, .inl (.int (nI m))), (5, .inl (.int (nI k)))] [] (mm_M t X) 0 0 := by
    intro u
    induction u with
    | zero =>
      intro k t hk hkn ht hS
      refine px_iload dX5_enlist_27 rfl ?_
      refine px_iload_n dX5_enlist_29 rfl ?_
      refine pn_icmp_le (tgt := 124) dX5_enlist_30 (by decide) (nI_leI (by omega) (by omega)) (fun z => ?_) (fun z => ?_)
      · exact px_sub (exit k t (by omega) hkn ht hS (Or.inl hk)) rfl
      · omega
    | succ u ih =>
      intro k t hk hkn ht hS
      refine px_iload dX5_enlist_27 rfl ?_
      refine px_iload_n dX5_enlist_29 rfl ?_
      refine pn_icmp_le (tgt := 124) dX5_enlist_30 (by decide) (nI_leI (by omega) (by omega)) (fun z => ?_) (fun z => ?_)
      · omega
      · obtain ⟨x, hx⟩ : ∃ x, A[k - 1]? = some x := ⟨_, List.getElem?_eq_getElem (by omega)⟩
        have h1 : mm_pq s (mm_pos n k B r k) (mm_pos n k E e k) y := by rw [mm_pos_eq, mm_pos_eq]; exact hy
        have h2 : mm_pq s (mm_pos n k B r (k - 1)) (mm_pos n k E e (k - 1)) x := by rw [mm_pos_lt _ _ _ _ (by omega), mm_pos_lt _ _ _ _ (by omega)]; exact hd _ _ hx
        refine px_aload_n dX5_enlist_33 rfl trivial ?_
        refine px_iload dX5_enlist_34 rfl ?_
        refine px_iload dX5_enlist_36 rfl ?_
        refine px_iconst (v := nI 1) dX5_enlist_38 (by decide) ?_
        refine pn_isub dX5_enlist_39 (by first | exact pk_sub (by omega) | rfl) ?_
        refine px_callV ((me_isBefore s t X ok ht k (k - 1) (by omega) (by omega) y x h1 h2)) dX5_enlist_40 L_RX5_148 (mm_rcv _ _) rfl rfl (by decide) (by omega) (by omega) (Nat.le_of_ble_eq_true rfl) (fun v9 M9 hq => ?_) (fun E9 M9 hq => ?_)
        · obtain ⟨h0, f, g, rfl⟩ := hq
          cases h0
          have ht' := ht.R f g
          generalize mm_R (mm_R t 27 f) 28 g = t' at ht' ⊢
          refine pn_if_eq (tgt := 124) dX5_enlist_43 (by decide) (px_ch_z _) (fun z2 => ?_) (fun z2 => ?_)
          · exact px_sub (exit k t' (by omega) hkn ht' hS (Or.inr ⟨x, by omega, hx, z2⟩)) rfl
          · have hb := Classical.not_not.mp z2
            have b1 : t'.2.1 22 k = r := by rw [ht'.2.2.2.2.1, mm_pos_eq]
            have b2 : t'.2.1 22 (k - 1) = B (k - 1) := by rw [ht'.2.2.2.2.1, mm_pos_lt _ _ _ _ (by omega)]
            have e1 : t'.2.1 23 k = e := by rw [ht'.2.2.2.2.2, mm_pos_eq]
            have e2 : t'.2.1 23 (k - 1) = E (k - 1) := by rw [ht'.2.2.2.2.2, mm_pos_lt _ _ _ _ (by omega)]
            refine px_aload_n dX5_enlist_46 rfl trivial ?_
            refine mm_get dX5_enlist_47 F_RX5_59 rfl ?_
            refine px_iload dX5_enlist_50 rfl ?_
            refine mm_ald dX5_enlist_52 rfl (by first | rfl | assumption) (by (try simp only [mr_I2, mr_An, mr_Ae, mr_D2, mr_Rn, mr_Re, mr_T2, ne_eq, Nat.reduceEqDiff, not_false_eq_true]); rfl) (by first | assumption | omega) ?_
            rw [b1]
            refine px_istore dX5_enlist_53 (by decide) ?_
            refine px_aload_n dX5_enlist_55 rfl trivial ?_
            refine mm_get dX5_enlist_56 F_RX5_62 rfl ?_
            refine px_iload dX5_enlist_59 rfl ?_
            refine mm_ald dX5_enlist_61 rfl (by first | rfl | assumption) (by (try simp only [mr_I2, mr_An, mr_Ae, mr_D2, mr_Rn, mr_Re, mr_T2, ne_eq, Nat.reduceEqDiff, not_false_eq_true]); rfl) (by first | assumption | omega) ?_
            rw [e1]
            refine px_istore dX5_enlist_62 (by decide) ?_
            refine px_aload_n dX5_enlist_64 rfl trivial ?_
            refine mm_get dX5_enlist_65 F_RX5_59 rfl ?_
            refine px_iload dX5_enlist_68 rfl ?_
            refine px_aload_n dX5_enlist_70 rfl trivial ?_
            refine mm_get dX5_enlist_71 F_RX5_59 rfl ?_
            refine px_iload dX5_enlist_74 rfl ?_
            refine px_iconst (v := nI 1) dX5_enlist_76 (by decide) ?_
            refine pn_isub dX5_enlist_77 (by first | exact pk_sub (by omega) | rfl) ?_
            refine mm_ald dX5_enlist_78 rfl (by first | rfl | assumption) (by (try simp only [mr_I2, mr_An, mr_Ae, mr_D2, mr_Rn, mr_Re, mr_T2, ne_eq, Nat.reduceEqDiff, not_false_eq_true]); rfl) (by first | assumption | omega) ?_
            rw [b2]
            refine mm_ast dX5_enlist_79 rfl (by first | rfl | assumption) (by first | rfl | assumption) (by first | assumption | omega) ?_
            refine px_aload_n dX5_enlist_80 rfl trivial ?_
            refine mm_get dX5_enlist_81 F_RX5_62 rfl ?_
            refine px_iload dX5_enlist_84 rfl ?_
            refine px_aload_n dX5_enlist_86 rfl trivial ?_
            refine mm_get dX5_enlist_87 F_RX5_62 rfl ?_
            refine px_iload dX5_enlist_90 rfl ?_
            refine px_iconst (v := nI 1) dX5_enlist_92 (by decide) ?_
            refine pn_isub dX5_enlist_93 (by first | exact pk_sub (by omega) | rfl) ?_
            refine mm_ald dX5_enlist_94 rfl (by first | rfl | assumption) (by (try simp only [mr_I2, mr_An, mr_Ae, mr_D2, mr_Rn, mr_Re, mr_T2, ne_eq, Nat.reduceEqDiff, not_false_eq_true]); rfl) (by first | assumption | omega) ?_
            rw [e2]
            refine mm_ast dX5_enlist_95 rfl (by first | rfl | assumption) (by first | rfl | assumption) (by first | assumption | omega) ?_
            refine px_aload_n dX5_enlist_96 rfl trivial ?_
            refine mm_get dX5_enlist_97 F_RX5_59 rfl ?_
            refine px_iload dX5_enlist_100 rfl ?_
            refine px_iconst (v := nI 1) dX5_enlist_102 (by decide) ?_
            refine pn_isub dX5_enlist_103 (by first | exact pk_sub (by omega) | rfl) ?_
            refine px_iload dX5_enlist_104 rfl ?_
            refine mm_ast dX5_enlist_106 rfl (by first | rfl | assumption) (by first | rfl | assumption) (by first | assumption | omega) ?_
            refine px_aload_n dX5_enlist_107 rfl trivial ?_
            refine mm_get dX5_enlist_108 F_RX5_62 rfl ?_
            refine px_iload dX5_enlist_111 rfl ?_
            refine px_iconst (v := nI 1) dX5_enlist_113 (by decide) ?_
            refine pn_isub dX5_enlist_114 (by first | exact pk_sub (by omega) | rfl) ?_
            refine px_iload dX5_enlist_115 rfl ?_
            refine mm_ast dX5_enlist_117 rfl (by first | rfl | assumption) (by first | rfl | assumption) (by first | assumption | omega) ?_
            refine px_iinc dX5_enlist_118 rfl (pn_im1 (by omega)) (by decide) ?_
            refine px_goto (tgt := 27) dX5_enlist_121 (by decide) ?_
            have hK := (((ht'.B k (B (k - 1))).E k (E (k - 1))).B (k - 1) r).E (k - 1) e
            rw [mm_pos_sw B r (by omega) hkn, mm_pos_sw E e (by omega) hkn] at hK
            refine px_sub (ih (k - 1) _ (by omega) (by omega) hK fun j x' hj hx' => ?_) rfl
            by_cases ej : j = k - 1
            · rw [ej, hx] at hx'
              cases hx'
              exact hb
            · exact hS j x' (by omega) hx'
        · exact absurd hq.1 (fun z => by cases z)
  refine px_aload_n dX5_enlist_0 rfl trivial ?_
  refine mm_get dX5_enlist_1 F_RX5_59 rfl ?_
  refine px_aload_n dX5_enlist_4 rfl trivial ?_
  refine mm_gets dX5_enlist_5 F_RX5_145 (by decide) (by (try simp only [mr_In, mr_Ie, mr_A1, mr_D1, mr_R1, mr_T1, ne_eq, Nat.reduceEqDiff, not_false_eq_true]); rfl) ?_
  rw [ht.2.1]
  refine px_iload_n dX5_enlist_8 rfl ?_
  refine mm_ast dX5_enlist_9 rfl (by first | rfl | assumption) (by first | rfl | assumption) (by first | assumption | omega) ?_
  refine px_aload_n dX5_enlist_10 rfl trivial ?_
  refine mm_get dX5_enlist_11 F_RX5_62 rfl ?_
  refine px_aload_n dX5_enlist_14 rfl trivial ?_
  refine mm_gets dX5_enlist_15 F_RX5_145 (by decide) (by (try simp only [mr_In, mr_Ie, mr_A1, mr_D1, mr_R1, mr_T1, ne_eq, Nat.reduceEqDiff, not_false_eq_true]); rfl) ?_
  rw [ht.2.1]
  refine px_iload dX5_enlist_18 rfl ?_
  refine mm_ast dX5_enlist_20 rfl (by first | rfl | assumption) (by first | rfl | assumption) (by first | assumption | omega) ?_
  refine px_aload_n dX5_enlist_21 rfl trivial ?_
  refine mm_gets dX5_enlist_22 F_RX5_145 (by decide) (by (try simp only [mr_In, mr_Ie, mr_A1, mr_D1, mr_R1, mr_T1, ne_eq, Nat.reduceEqDiff, not_false_eq_true]); rfl) ?_
  rw [ht.2.1]
  refine px_istore dX5_enlist_25 (by decide) ?_
  have hK := (ht.B n r).E n e
  rw [mm_pos_0, mm_pos_0] at hK
  refine px_sub (loop (n - F) n _ (by omega) (Nat.le_refl _) hK fun j x hj hx => ?_) rfl
  obtain ⟨hl, -⟩ := List.getElem?_eq_some_iff.mp hx
  omega
