/-! ===== budget ===== -/
def mm_own (s : mm_S) (b : Nat) : List Nat → Int
  | [] => 0
  | a :: as => (if s.2.1 2 (s.2.1 4 a) = b then s.2.2 5 a else 0) + mm_own s b as
theorem mm_own_ap (s : mm_S) (b : Nat) (as bs : List Nat) : mm_own s b (as ++ bs) = mm_own s b as + mm_own s b bs := by
  induction as with
  | nil => exact (Int.zero_add _).symm
  | cons a as ih => show _ + mm_own s b (as ++ bs) = _ + mm_own s b as + mm_own s b bs; rw [ih]; omega
theorem mm_own_bd {s : mm_S} (ok : mm_ok s) (b : Nat) : ∀ (as : List Nat), (∀ a ∈ as, a < s.1 6) → 0 ≤ mm_own s b as ∧ mm_own s b as ≤ as.length * 8388608 := by
  intro as
  induction as with
  | nil => intro _; exact ⟨Int.le_refl _, by show (0 : Int) ≤ _; simp⟩
  | cons a as ih =>
    intro h
    have := ih fun b hb => h b (List.mem_cons_of_mem _ hb)
    have h2 := (ok.2.1 a (h a List.mem_cons_self)).2.2
    show 0 ≤ (if s.2.1 2 (s.2.1 4 a) = b then s.2.2 5 a else 0) + mm_own s b as ∧ (if s.2.1 2 (s.2.1 4 a) = b then s.2.2 5 a else 0) + mm_own s b as ≤ ((as.length + 1 : Nat) : Int) * 8388608
    split <;> omega
def kc_budget (s : mm_S) (x y : Int32) : Nat := if s.1 25 = 0 then 1 else if ¬ px_ix x 8 then 2 else if ¬ px_ix y (s.1 24) then 2 else 0
def vr_budget (s : mm_S) (b : Nat) (z : mm_P) : UInt64 := if mm_ln s z.2.2.1.reverse = 0 then dz 0 else FP.ddiv (FP.dmul (dz z.1) (dz (mm_own s b z.2.2.1.reverse))) (dz (mm_ln s z.2.2.1.reverse))
theorem kc_budget0 {s : mm_S} {x y : Int32} (h : kc_budget s x y = 0) : s.1 25 ≠ 0 ∧ px_ix x 8 ∧ px_ix y (s.1 24) := by
  unfold kc_budget at h
  by_cases h1 : s.1 25 = 0
  · rw [if_pos h1] at h; omega
  · rw [if_neg h1] at h
    by_cases h2 : px_ix x 8
    · rw [if_neg (fun z => z h2)] at h
      by_cases h3 : px_ix y (s.1 24)
      · exact ⟨h1, h2, h3⟩
      · rw [if_pos h3] at h; omega
    · rw [if_pos h2] at h; omega
set_option maxRecDepth 100000 in
set_option maxHeartbeats 8000000 in
/-- the sums along the way, and the end -/
theorem me_budget_l (s t : mm_S) (X : px_M) (ok : mm_ok s) (x y : Int32) (hx : px_ix x 8) (z : mm_P) (f : Nat → Nat) (Q : px_Q) (ht : mm_nq s t) (t27 : t.2.1 27 = f) (hf : ∀ k, k < z.2.2.1.length → z.2.2.1.reverse[k]? = some (f k)) (hl : z.2.2.1.length ≤ 64) (ha : ∀ a ∈ z.2.2.1, a < s.1 6) (hz : z.1.natAbs ≤ 2 ^ 41)
    (hs : px_Met 0 0 0 mX5_slackOf [.inr (1, 0), .inl (.int y)] (mm_M t X) (px_rt (some (.inl (.double (dz z.1)))) (mm_M t X)))
    (hQ : Q (.inl (some (.inl (.double (vr_budget s (px_oc x) z))))) (mm_M t X)) :
    px_W 1 0 0 mX5_budget Q 62 [(0, .inr (1, 0)), (1, .inl (.int x)), (2, .inl (.int y))] [.inl (.int (nI z.2.2.1.length))] (mm_M t X) 0 0 := by
  have r2 := (ht.2 2 (by decide)).1
  have r4 := (ht.2 4 (by decide)).1
  have d5 := (ht.2 5 (by decide)).2
  have h1 := ok.1.1
  have h6 := ok.1.2.1
  have loop : ∀ (u i : Nat), i ≤ z.2.2.1.length → z.2.2.1.length < i + u → px_W 1 0 0 mX5_budget Q 72 [(0, .inr (1, 0)), (1, .inl (.int x)), (2, .inl (.int y)), (3, .inl (.int (nI z.2.2.1.length))), (4, .inl (.double (dz (mm_own s (px_oc x) (z.2.2.1.reverse.take i))))), (6, .inl (.double (dz (mm_ln s (z.2.2.1.reverse.take i))))), (8, .inl (.int (nI i)))] [] (mm_M t X) 0 0 := by
    intro u
    induction u with
    | zero => intro i g1 g2; omega
    | succ u ih =>
      intro i g1 g2
      have hm : ∀ a ∈ z.2.2.1.reverse.take i, a < s.1 6 := fun a hm => ha a (List.mem_reverse.mp (List.mem_of_mem_take hm))
      have hb1 := mm_own_bd ok (px_oc x) _ hm
      have hb2 := mm_ln_bd ok _ hm
      have hlt : (z.2.2.1.reverse.take i).length ≤ 64 := by rw [List.length_take, List.length_reverse]; omega
      refine px_iload dX5_budget_72 rfl ?_
      refine px_iload_n dX5_budget_74 rfl ?_
      refine pn_icmp_ge (tgt := 143) dX5_budget_75 (by decide) (nI_leI (by omega) (by omega)) (fun h3 => ?_) (fun h3 => ?_)
      · have hi : z.2.2.1.reverse.take i = z.2.2.1.reverse := List.take_of_length_le (by rw [List.length_reverse]; omega)
        rw [hi] at hb1 hb2 hlt ⊢
        have hv : vr_budget s (px_oc x) z = (if mm_ln s z.2.2.1.reverse = 0 then dz 0 else FP.ddiv (FP.dmul (dz z.1) (dz (mm_own s (px_oc x) z.2.2.1.reverse))) (dz (mm_ln s z.2.2.1.reverse))) := rfl
        refine px_dload dX5_budget_143 rfl ?_
        refine pn_dconst0 dX5_budget_145 ?_
        refine pn_dcmp dX5_budget_146 rfl rfl (by omega) (by omega) ?_
        refine pn_if_ne (tgt := 154) dX5_budget_147 (by decide) (dz_c_eq _ _) (fun h4 => ?_) (fun h4 => ?_)
        · rw [if_neg h4] at hv
          refine px_aload_n dX5_budget_154 rfl trivial ?_
          refine px_iload_n dX5_budget_155 rfl ?_
          refine px_callVr (hs) dX5_budget_156 L_RX5_141 (mm_rcv _ _) rfl rfl (by decide) (by omega) (by omega) (Nat.le_of_ble_eq_true rfl) ?_
          refine px_dload dX5_budget_159 rfl ?_
          refine px_dmul dX5_budget_161 rfl (dz_num (dz_mul_num _ _ (by omega) (by omega))) ?_
          refine px_dload dX5_budget_162 rfl ?_
          refine px_ddiv dX5_budget_164 rfl (dz_div_vf (dz_mul_num _ _ (by omega) (by omega)) (by omega) h4) ?_
          refine px_dret dX5_budget_165 rfl ?_ (by omega) (by omega)
          rw [← hv]; exact hQ
        · rw [if_pos h4] at hv
          refine pn_dconst0 dX5_budget_150 ?_
          refine px_goto (tgt := 165) dX5_budget_151 (by decide) ?_
          refine px_dret dX5_budget_165 rfl ?_ (by omega) (by omega)
          rw [← hv]; exact hQ
      · have hfi := hf i (by omega)
        obtain ⟨q, -⟩ := List.getElem?_eq_some_iff.mp hfi
        have hai := ha _ (List.mem_reverse.mp (List.mem_of_getElem? hfi))
        obtain ⟨b1, b2, b3, b4⟩ := ok.2.1 _ hai
        have c4 := ok.2.2.2.2.2.1 _ b2
        have ef : t.2.1 27 i = f i := by rw [t27]
        have e4 : t.2.1 4 (f i) = s.2.1 4 (f i) := by rw [r4]
        have e2 : t.2.1 2 (s.2.1 4 (f i)) = s.2.1 2 (s.2.1 4 (f i)) := by rw [r2]
        have e5 : t.2.2 5 (f i) = s.2.2 5 (f i) := by rw [d5]
        have hto : mm_own s (px_oc x) (z.2.2.1.reverse.take (i + 1)) = mm_own s (px_oc x) (z.2.2.1.reverse.take i) + (if s.2.1 2 (s.2.1 4 (f i)) = px_oc x then s.2.2 5 (f i) else 0) := by
          rw [List.take_succ, hfi, mm_own_ap]
          show _ + ((if s.2.1 2 (s.2.1 4 (f i)) = px_oc x then s.2.2 5 (f i) else 0) + 0) = _
          omega
        have hta : mm_ln s (z.2.2.1.reverse.take (i + 1)) = mm_ln s (z.2.2.1.reverse.take i) + s.2.2 5 (f i) := by
          rw [List.take_succ, hfi, mm_ln_ap]
          show _ + (s.2.2 5 (f i) + 0) = _
          omega
        have rest : ∀ v : Int, mm_own s (px_oc x) (z.2.2.1.reverse.take (i + 1)) = mm_own s (px_oc x) (z.2.2.1.reverse.take i) + v → 0 ≤ v → v ≤ 8388608 → px_W 1 0 0 mX5_budget Q 117 [(0, .inr (1, 0)), (1, .inl (.int x)), (2, .inl (.int y)), (3, .inl (.int (nI z.2.2.1.length))), (6, .inl (.double (dz (mm_ln s (z.2.2.1.reverse.take i))))), (8, .inl (.int (nI i)))] [.inl (.double (dz v)), .inl (.double (dz (mm_own s (px_oc x) (z.2.2.1.reverse.take i))))] (mm_M t X) 0 0 := by
          intro v hv v0 v1
          refine pn_dadd dX5_budget_117 (by omega) (by omega) (by first | exact Int.add_zero _ | rfl) ?_
          refine px_dstore dX5_budget_118 (by decide) ?_
          refine px_dload dX5_budget_120 rfl ?_
          refine px_aload_n dX5_budget_122 rfl trivial ?_
          refine mm_get dX5_budget_123 F_RX5_19 rfl ?_
          refine px_aload_n dX5_budget_126 rfl trivial ?_
          refine mm_get dX5_budget_127 F_RX5_69 rfl ?_
          refine px_iload dX5_budget_130 rfl ?_
          refine mm_ald dX5_budget_132 rfl (by first | rfl | assumption) (by (try simp only [mr_I2, mr_An, mr_Ae, mr_D2, mr_Rn, mr_Re, mr_T2, ne_eq, Nat.reduceEqDiff, not_false_eq_true]); rfl) (by first | assumption | omega) ?_
          rw [ef]
          refine mm_ald_d dX5_budget_133 rfl (by first | rfl | assumption) (by (try simp only [mr_I3, mr_A3, mr_Dn, mr_De, mr_R3, mr_Tn, mr_Te, ne_eq, Nat.reduceEqDiff, not_false_eq_true]); rfl) (by first | assumption | omega) ?_
          rw [e5]
          refine pn_dadd dX5_budget_134 (by omega) (by omega) (by first | exact Int.add_zero _ | rfl) ?_
          refine px_dstore dX5_budget_135 (by decide) ?_
          refine px_iinc dX5_budget_137 rfl (pn_i1 _) (by decide) ?_
          refine px_goto (tgt := 72) dX5_budget_140 (by decide) ?_
          rw [← hv, ← hta]
          exact px_sub (ih (i + 1) (by omega) (by omega)) rfl
        refine px_dload dX5_budget_78 rfl ?_
        refine px_aload_n dX5_budget_80 rfl trivial ?_
        refine mm_get dX5_budget_81 F_RX5_7 rfl ?_
        refine px_aload_n dX5_budget_84 rfl trivial ?_
        refine mm_get dX5_budget_85 F_RX5_16 rfl ?_
        refine px_aload_n dX5_budget_88 rfl trivial ?_
        refine mm_get dX5_budget_89 F_RX5_69 rfl ?_
        refine px_iload dX5_budget_92 rfl ?_
        refine mm_ald dX5_budget_94 rfl (by first | rfl | assumption) (by (try simp only [mr_I2, mr_An, mr_Ae, mr_D2, mr_Rn, mr_Re, mr_T2, ne_eq, Nat.reduceEqDiff, not_false_eq_true]); rfl) (by first | assumption | omega) ?_
        rw [ef]
        refine mm_ald dX5_budget_95 rfl (by first | rfl | assumption) (by (try simp only [mr_I2, mr_An, mr_Ae, mr_D2, mr_Rn, mr_Re, mr_T2, ne_eq, Nat.reduceEqDiff, not_false_eq_true]); rfl) (by first | assumption | omega) ?_
        rw [e4]
        refine mm_ald_o dX5_budget_96 rfl (by first | rfl | assumption) (by (try simp only [mr_I2, mr_An, mr_Ae, mr_D2, mr_Rn, mr_Re, mr_T2, ne_eq, Nat.reduceEqDiff, not_false_eq_true]); rfl) (by first | assumption | omega) ?_
        rw [e2]
        refine px_iload_n dX5_budget_97 rfl ?_
        refine pn_icmp_ne (tgt := 116) dX5_budget_98 (by decide) (px_eqo (n:=8) (by omega) (by omega) (fun _ => hx)) (fun h4 => ?_) (fun h4 => ?_)
        · refine pn_dconst0 dX5_budget_116 ?_
          exact px_sub (rest 0 (by rw [hto, if_neg h4]) (by omega) (by omega)) rfl
        · refine px_aload_n dX5_budget_101 rfl trivial ?_
          refine mm_get dX5_budget_102 F_RX5_19 rfl ?_
          refine px_aload_n dX5_budget_105 rfl trivial ?_
          refine mm_get dX5_budget_106 F_RX5_69 rfl ?_
          refine px_iload dX5_budget_109 rfl ?_
          refine mm_ald dX5_budget_111 rfl (by first | rfl | assumption) (by (try simp only [mr_I2, mr_An, mr_Ae, mr_D2, mr_Rn, mr_Re, mr_T2, ne_eq, Nat.reduceEqDiff, not_false_eq_true]); rfl) (by first | assumption | omega) ?_
          rw [ef]
          refine mm_ald_d dX5_budget_112 rfl (by first | rfl | assumption) (by (try simp only [mr_I3, mr_A3, mr_Dn, mr_De, mr_R3, mr_Tn, mr_Te, ne_eq, Nat.reduceEqDiff, not_false_eq_true]); rfl) (by first | assumption | omega) ?_
          refine px_goto (tgt := 117) dX5_budget_113 (by decide) ?_
          rw [e5]
          exact px_sub (rest _ (by rw [hto, if_pos h4]) b3 b4) rfl
  refine px_istore_n dX5_budget_62 (by decide) ?_
  refine pn_dconst0 dX5_budget_63 ?_
  refine px_dstore dX5_budget_64 (by decide) ?_
  refine pn_dconst0 dX5_budget_66 ?_
  refine px_dstore dX5_budget_67 (by decide) ?_
  refine px_iconst (v := nI 0) dX5_budget_69 (by decide) ?_
  refine px_istore dX5_budget_70 (by decide) ?_
  exact px_sub (loop (z.2.2.1.length + 1) 0 (by omega) (by omega)) rfl
