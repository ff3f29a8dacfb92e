/-! ===== budget ===== -/
def mm_own (s : mm_S) (b : Nat) : List Nat → Int
  | [] => 0
  | a :: as => (if s.2.1 2 (s.2.1 4 a) = b then s.2.2 5 a else 0) + mm_own s b as
theorem mm_own_ap (s : mm_S) (b : Nat) (as bs : List Nat) : mm_own s b (as ++ bs) = mm_own s b as + mm_own s b bs := by
  induction as with
  | nil => exact (Int.zero_add _).symm
  | cons a as ih => show _ + mm_own s b (as ++ bs) = _ + mm_own s b as + mm_own s b bs; rw [ih]; omega
theorem mm_own_bd {s : mm_S} (ok : mm_ok s) (b : Nat) : ∀ (as : List Nat), (∀ a ∈ as, a < s.1 6) → 0 ≤ mm_own s b as ∧ mm_own s b as ≤ as.length * 8388608 := by
  intro as
  induction as with
  | nil => intro _; exact ⟨Int.le_refl _, by show (0 : Int) ≤ _; simp⟩
  | cons a as ih =>
    intro h
    have := ih fun b hb => h b (List.mem_cons_of_mem _ hb)
    have h2 := (ok.2.1 a (h a List.mem_cons_self)).2.2
    show 0 ≤ (if s.2.1 2 (s.2.1 4 a) = b then s.2.2 5 a else 0) + mm_own s b as ∧ (if s.2.1 2 (s.2.1 4 a) = b then s.2.2 5 a else 0) + mm_own s b as ≤ ((as.length + 1 : Nat) : Int) * 8388608
    split <;> omega
def kc_budget (s : mm_S) (x y : Int32) : Nat := if s.1 25 = 0 then 1 else if ¬ px_ix x 8 then 2 else if ¬ px_ix y (s.1 24) then 2 else 0
def vr_budget (s : mm_S) (b : Nat) (z : mm_P) : UInt64 := if mm_ln s z.2.2.1.reverse = 0 then dz 0 else FP.ddiv (FP.dmul (dz z.1) (dz (mm_own s b z.2.2.1.reverse))) (dz (mm_ln s z.2.2.1.reverse))
theorem kc_budget0 {s : mm_S} {x y : Int32} (h : kc_budget s x y = 0) : s.1 25 ≠ 0 ∧ px_ix x 8 ∧ px_ix y (s.1 24) := by
  unfold kc_budget at h
  by_cases h1 : s.1 25 = 0
  · rw [if_pos h1] at h; omega
  · rw [if_neg h1] at h
    by_cases h2 : px_ix x 8
    · rw [if_neg (fun z => z h2)] at h
      by_cases h3 : px_ix y (s.1 24)
      · exact ⟨h1, h2, h3⟩
      · rw [if_pos h3] at h; omega
    · rw [if_pos h2] at h; omega
set_option maxRecDepth 100000 in
set_option maxHeartbeats 8000000 in
/-- the sums along the way, and the end -/
theorem me_budget_l (s t : mm_S) (X : px_M) (ok : mm_ok s) (x y : Int32) (hx : px_ix x 8) (z : mm_P) (f : Nat → Nat) (Q : px_Q) (ht : mm_nq s t) (t27 : t.2.1 27 = f) (hf : ∀ k, k < z.2.2.1.length → z.2.2.1.reverse[k]? = some (f k)) (hl : z.2.2.1.length ≤ 64) (ha : ∀ a ∈ z.2.2.1, a < s.1 6) (hz : z.1.natAbs ≤ 2 ^ 41)
    (hs : px_Met 0 0 0 mX5_slackOf [.inr (1, 0), .inl (.int y)] (mm_M t X) (px_rt (some (.inl (.double (dz z.1)))) (mm_M t X)))
    (hQ : Q (.inl (some (.inl (.double (vr_budget s (px_oc x) z))))) (mm_M t X)) :
    px_W 1 0 0 mX5_budget Q 62 [(0, .inr (1, 0)), (1, .inl (.int x)), (2, .inl (.int y))] [.inl (.int (nI z.2.2.1.length))] (mm_M t X) 0 0 := by
  have r2 := (ht.2 2 (by decide)).1
  have r4 := (ht.2 4 (by decide)).1
  have d5 := (ht.2 5 (by decide)).2
  have h1 := ok.1.1
  have h6 := ok.1.2.1
  have loop : ∀ (u i : Nat), i ≤ z.2.2.1.length → z.2.2.1.length < i + u → px_W 1 0 0 mX5_budget Q 72 [(0, .inr (1, 0)), (1, .inl (.int x)), (2, .inl (.int y)), (3, .inl (.int (nI z.2.2.1.length))), (4, .inl (.double (dz (mm_own s (px_oc x) (z.2.2.1.reverse.take i))))), (6, .inl (.double (dz (mm_ln s (z.2.2.1.reverse.take i))))), (8, .inl (.int (nI i)))] [] (mm_M t X) 0 0 := by
    intro u
    induction u with
    | zero => intro i g1 g2; omega
    | succ u ih =>
      intro i g1 g2
      have hm : ∀ a ∈ z.2.2.1.reverse.take i, a < s.1 6 := fun a hm => ha a (List.mem_reverse.mp (List.mem_of_mem_take hm))
      have hb1 := mm_own_bd ok (px_oc x) _ hm
      have hb2 := mm_ln_bd ok _ hm
      have hlt : (z.2.2.1.reverse.take i).length ≤ 64 := by rw [List.length_take, List.length_reverse]; omega
      refine px_iload dX5_budget_72 rfl ?_
      refine px_iload_n dX5_budget_74 rfl ?_
      refine pn_icmp_ge (tgt := 143) dX5_budget_75 (by decide) (nI_leI (by omega) (by omega)) (fun h3 => ?_) (fun h3 => ?_)
      · have hi : z.2.2.1.reverse.take i = z.2.2.1.reverse := List.take_of_length_le (by rw [List.length_reverse]; omega)
        rw [hi] at hb1 hb2 hlt ⊢
        have hv : vr_budget s (px_oc x) z = (if mm_ln s z.2.2.1.reverse = 0 then dz 0 else FP.ddiv (FP.dmul (dz z.1) (dz (mm_own s (px_oc x) z.2.2.1.reverse))) (dz (mm_ln s z.2.2.1.reverse))) := rfl
        refine px_dload dX5_budget_143 rfl ?_
        refine pn_dconst0 dX5_budget_145 ?_
        refine pn_dcmp dX5_budget_146 rfl rfl (by omega) (by omega) ?_
        refine pn_if_ne (tgt := 154) dX5_budget_147 (by decide) (dz_c_eq _ _) (fun h4 => ?_) (fun h4 => ?_)
        · rw [if_neg h4] at hv
          refine px_aload_n dX5_budget_154 rfl trivial ?_
          refine px_iload_n dX5_budget_155 rfl ?_
          refine px_callVr (hs) dX5_budget_156 L_RX5_141 (mm_rcv _ _) rfl rfl (by decide) (by omega) (by omega) (Nat.le_of_ble_eq_true rfl) ?_
          refine px_dload dX5_budget_159 rfl ?_
          refine px_dmul dX5_budget_161 rfl (dz_num (dz_mul_num _ _ (by omega) (by omega))) ?_
          refine px_dload dX5_budget_162 rfl ?_
          refine px_ddiv dX5_budget_164 rfl (dz_div_vf (dz_mul_num _ _ (by omega) (by omega)) (by omega) h4) ?_
          refine px_dret dX5_budget_165 rfl ?_ (by omega) (by omega)
          rw [← hv]; exact hQ
        · rw [if_pos h4] at hv
          refine pn_dconst0 dX5_budget_150 ?_
          refine px_goto (tgt := 165) dX5_budget_151 (by decide) ?_
          refine px_dret dX5_budget_165 rfl ?_ (by omega) (by omega)
          rw [← hv]; exact hQ
      · have hfi := hf i (by omega)
        obtain ⟨q, -⟩ := List.getElem?_eq_some_iff.mp hfi
        have hai := ha _ (List.mem_reverse.mp (List.mem_of_getElem? hfi))
        obtain ⟨b1, b2, b3, b4⟩ := ok.2.1 _ hai
        have c4 := ok.2.2.2.2.2.1 _ b2
        have ef : t.2.1 27 i = f i := by rw [t27]
        have e4 : t.2.1 4 (f i) = s.2.1 4 (f i) := by rw [r4]
        have e2 : t.2.1 2 (s.2.1 4 (f i)) = s.2.1 2 (s.2.1 4 (f i)) := by rw [r2]
        have e5 : t.2.2 5 (f i) = s.2.2 5 (f i) := by rw [d5]
        have hto : mm_own s (px_oc x) (z.2.2.1.reverse.take (i + 1)) = mm_own s (px_oc x) (z.2.2.1.reverse.take i) + (if s.2.1 2 (s.2.1 4 (f i)) = px_oc x then s.2.2 5 (f i) else 0) := by
          rw [List.take_succ, hfi, mm_own_ap]
          show _ + ((if s.2.1 2 (s.2.1 4 (f i)) = px_oc x then s.2.2 5 (f i) else 0) + 0) = _
          omega
        have hta : mm_ln s (z.2.2.1.reverse.take (i + 1)) = mm_ln s (z.2.2.1.reverse.take i) + s.2.2 5 (f i) := by
          rw [List.take_succ, hfi, mm_ln_ap]
          show _ + (s.2.2 5 (f i) + 0) = _
          omega
        have rest : ∀ v : Int, mm_own s (px_oc x) (z.2.2.1.reverse.take (i + 1)) = mm_own s (px_oc x) (z.2.2.1.reverse.take i) + v → 0 ≤ v → v ≤ 8388608 → px_W 1 0 0 mX5_budget Q 117 [(0, .inr (1, 0)), (1, .inl (.int x)), (2, .inl (.int y)), (3, .inl (.int (nI z.2.2.1.length))), (6, .inl (.double (dz (mm_ln s (z.2.2.1.reverse.take i))))), (8, .inl (.int (nI i)))] [.inl (.double (dz v)), .inl (.double (dz (mm_own s (px_oc x) (z.2.2.1.reverse.take i))))] (mm_M t X) 0 0 := by
          intro v hv v0 v1
          refine pn_dadd dX5_budget_117 (by omega) (by omega) (by first | exact Int.add_zero _ | rfl) ?_
          refine px_dstore dX5_budget_118 (by decide) ?_
          refine px_dload dX5_budget_120 rfl ?_
          refine px_aload_n dX5_budget_122 rfl trivial ?_
          refine mm_get dX5_budget_123 F_RX5_19 rfl ?_
          refine px_aload_n dX5_budget_126 rfl trivial ?_
          refine mm_get dX5_budget_127 F_RX5_69 rfl ?_
          refine px_iload dX5_budget_130 rfl ?_
          refine mm_ald dX5_budget_132 rfl (by first | rfl | assumption) (by (try simp only [mr_I2, mr_An, mr_Ae, mr_D2, mr_Rn, mr_Re, mr_T2, ne_eq, Nat.reduceEqDiff, not_false_eq_true]); rfl) (by first | assumption | omega) ?_
          rw [ef]
          refine mm_ald_d dX5_budget_133 rfl (by first | rfl | assumption) (by (try simp only [mr_I3, mr_A3, mr_Dn, mr_De, mr_R3, mr_Tn, mr_Te, ne_eq, Nat.reduceEqDiff, not_false_eq_true]); rfl) (by first | assumption | omega) ?_
          rw [e5]
          refine pn_dadd dX5_budget_134 (by omega) (by omega) (by first | exact Int.add_zero _ | rfl) ?_
          refine px_dstore dX5_budget_135 (by decide) ?_
          refine px_iinc dX5_budget_137 rfl (pn_i1 _) (by decide) ?_
          refine px_goto (tgt := 72) dX5_budget_140 (by decide) ?_
          rw [← hv, ← hta]
          exact px_sub (ih (i + 1) (by omega) (by omega)) rfl
        refine px_dload dX5_budget_78 rfl ?_
        refine px_aload_n dX5_budget_80 rfl trivial ?_
        refine mm_get dX5_budget_81 F_RX5_7 rfl ?_
        refine px_aload_n dX5_budget_84 rfl trivial ?_
        refine mm_get dX5_budget_85 F_RX5_16 rfl ?_
        refine px_aload_n dX5_budget_88 rfl trivial ?_
        refine mm_get dX5_budget_89 F_RX5_69 rfl ?_
        refine px_iload dX5_budget_92 rfl ?_
        refine mm_ald dX5_budget_94 rfl (by first | rfl | assumption) (by (try simp only [mr_I2, mr_An, mr_Ae, mr_D2, mr_Rn, mr_Re, mr_T2, ne_eq, Nat.reduceEqDiff, not_false_eq_true]); rfl) (by first | assumption | omega) ?_
        rw [ef]
        refine mm_ald dX5_budget_95 rfl (by first | rfl | assumption) (by (try simp only [mr_I2, mr_An, mr_Ae, mr_D2, mr_Rn, mr_Re, mr_T2, ne_eq, Nat.reduceEqDiff, not_false_eq_true]); rfl) (by first | assumption | omega) ?_
        rw [e4]
        refine mm_ald_o dX5_budget_96 rfl (by first | rfl | assumption) (by (try simp only [mr_I2, mr_An, mr_Ae, mr_D2, mr_Rn, mr_Re, mr_T2, ne_eq, Nat.reduceEqDiff, not_false_eq_true]); rfl) (by first | assumption | omega) ?_
        rw [e2]
        refine px_iload_n dX5_budget_97 rfl ?_
        refine pn_icmp_ne (tgt := 116) dX5_budget_98 (by decide) (px_eqo (n:=8) (by omega) (by omega) (fun _ => hx)) (fun h4 => ?_) (fun h4 => ?_)
        · refine pn_dconst0 dX5_budget_116 ?_
          exact px_sub (rest 0 (by rw [hto, if_neg h4]) (by omega) (by omega)) rfl
        · refine px_aload_n dX5_budget_101 rfl trivial ?_
          refine mm_get dX5_budget_102 F_RX5_19 rfl ?_
          refine px_aload_n dX5_budget_105 rfl trivial ?_
          refine mm_get dX5_budget_106 F_RX5_69 rfl ?_
          refine px_iload dX5_budget_109 rfl ?_
          refine mm_ald dX5_budget_111 rfl (by first | rfl | assumption) (by (try simp only [mr_I2, mr_An, mr_Ae, mr_D2, mr_Rn, mr_Re, mr_T2, ne_eq, Nat.reduceEqDiff, not_false_eq_true]); rfl) (by first | assumption | omega) ?_
          rw [ef]
          refine mm_ald_d dX5_budget_112 rfl (by first | rfl | assumption) (by (try simp only [mr_I3, mr_A3, mr_Dn, mr_De, mr_R3, mr_Tn, mr_Te, ne_eq, Nat.reduceEqDiff, not_false_eq_true]); rfl) (by first | assumption | omega) ?_
          refine px_goto (tgt := 117) dX5_budget_113 (by decide) ?_
          rw [e5]
          exact px_sub (rest _ (by rw [hto, if_pos h4]) b3 b4) rfl
  refine px_istore_n dX5_budget_62 (by decide) ?_
  refine pn_dconst0 dX5_budget_63 ?_
  refine px_dstore dX5_budget_64 (by decide) ?_
  refine pn_dconst0 dX5_budget_66 ?_
  refine px_dstore dX5_budget_67 (by decide) ?_
  refine px_iconst (v := nI 0) dX5_budget_69 (by decide) ?_
  refine px_istore dX5_budget_70 (by decide) ?_
  exact px_sub (loop (z.2.2.1.length + 1) 0 (by omega) (by omega)) rfl
set_option maxRecDepth 100000 in
set_option maxHeartbeats 8000000 in
theorem me_budget (s : mm_S) (X : px_M) (ok : mm_ok s) (Z : List mm_P) (hv : s.1 25 ≠ 0 → mm_vis s Z) (hZ : s.1 25 ≠ 0 → ∀ z ∈ Z, ∀ a ∈ z.2.2.1, a < s.1 6) (x y : Int32) : px_Met 1 0 0 mX5_budget [.inr (1, 0), .inl (.int x), .inl (.int y)] (mm_M s X) (mqd X (kc_budget s x y) (vr_budget s (px_oc x) (mm_zd Z y)) s) := by
  have h25 := ok.1.2.2.2.2.2.1
  have h24 := ok.1.2.2.2.2.2.2
  refine px_ofW (by decide) W_mX5_budget (Nat.le_of_ble_eq_true rfl) ?_
  have tail : ∀ c, c < 4 → kc_budget s x y = c → px_W 1 0 0 mX5_budget (mqd X (kc_budget s x y) (vr_budget s (px_oc x) (mm_zd Z y)) s) 39 [(0, .inr (1, 0)), (1, .inl (.int x)), (2, .inl (.int y))] [.inl (.int (nI c)), .inr (1, 0)] (mm_M s X) 0 0 := by
    intro c c4 hc
    refine mm_put dX5_budget_39 F_RX5_81 nf_5_0 (by decide) (by first | exact ⟨rfl, rfl⟩ | decide) ?_
    refine px_aload_n dX5_budget_42 rfl trivial ?_
    refine mm_gets dX5_budget_43 F_RX5_81 (by decide) (by (try simp only [mr_In, mr_Ie, mr_A1, mr_D1, mr_R1, mr_T1, ne_eq, Nat.reduceEqDiff, not_false_eq_true]); rfl) ?_
    refine pn_if_le (tgt := 51) dX5_budget_46 (by decide) (pn_lez (by omega)) (fun h => ?_) (fun h => ?_)
    · have c0 : kc_budget s x y = 0 := by omega
      obtain ⟨h1, h2, h3⟩ := kc_budget0 c0
      have tn : mm_nq s (mm_I s 0 c) := (mm_nq.rf s).I0 _
      have hs1 : (mm_I s 0 c).1 0 = c := mr_Ie
      generalize mm_I s 0 c = s1 at tn hs1 ⊢
      have okt := ok.nq tn
      obtain ⟨g1, g2, g3⟩ := ((hv h1).nq tn).get (x := y) (by rw [tn.1 24 (by decide)]; exact h3)
      have hza := hZ h1 _ (List.mem_of_getElem? g1)
      obtain ⟨e1, e2⟩ := px_ix_tn h3
      have g2' := g2
      obtain ⟨q1, q2, q3, ⟨q4, q5⟩, o1, o2, o3, o4⟩ := g2
      have o2' : (mm_zd Z y).2.2.1.length ≤ 64 := o2
      have o4' : (s1.2.2 11 (mm_zd Z y).2.2.2 - (mm_zd Z y).1).natAbs ≤ 2 ^ 40 := o4
      have hu := me_unroll1 s1 X (mm_zd Z y).2.1 (s1.2.1 22 (px_tn y)) (mm_zd Z y).2.2.1 (by omega) q5 o2 o3
      have h13 := okt.1.2.2.2.1
      have hrq := (okt.2.2.2.1 (mm_zd Z y).2.2.2 (by omega)).2.2
      refine px_aload_n dX5_budget_51 rfl trivial ?_
      refine px_aload_n dX5_budget_52 rfl trivial ?_
      refine mm_get dX5_budget_53 F_RX5_59 rfl ?_
      refine px_iload_n dX5_budget_56 rfl ?_
      refine mm_ald dX5_budget_57 rfl (by first | rfl | assumption) (by (try simp only [mr_I2, mr_An, mr_Ae, mr_D2, mr_Rn, mr_Re, mr_T2, ne_eq, Nat.reduceEqDiff, not_false_eq_true]); rfl) (by first | assumption | omega) ?_
      refine px_iconst (v := nI 1) dX5_budget_58 (by decide) ?_
      refine px_callVr (hu) dX5_budget_59 L_RX5_123 (mm_rcv _ _) rfl rfl (by decide) (by omega) (by omega) (Nat.le_of_ble_eq_true rfl) ?_
      have hf := px_fil_get (mm_zd Z y).2.2.1 (s1.2.1 27)
      generalize px_fil (mm_zd Z y).2.2.1 (s1.2.1 27) = f at hf ⊢
      have tn2 : mm_nq s (mm_R s1 27 f) := tn.R (by decide) f
      have hK : mm_K3 s1 (s1.2.1 22) (s1.2.1 23) (s1.1 24) (mm_R s1 27 f) := ⟨fun _ _ => rfl, rfl, fun k _ _ k3 _ => if_neg k3, rfl, rfl, rfl⟩
      have hs := me_slackOf s1 _ X okt hK (px_tn y) (by omega) _ g2'
      rw [← e1] at hs
      refine px_sub (me_budget_l s _ X ok x y h2 (mm_zd Z y) f _ tn2 (mr_Re _ _ _) hf o2' hza (by omega) hs ?_) rfl
      exact ⟨_, _, rfl, rfl, (show (mm_R s1 27 f).1 0 = c from hs1).trans hc.symm, tn2, fun _ => rfl⟩
    · refine pn_dconst0 dX5_budget_49 ?_
      refine px_dret dX5_budget_50 rfl ?_ (by omega) (by omega)
      exact ⟨_, _, rfl, rfl, hc.symm ▸ mr_Ie, (mm_nq.rf s).I0 _, fun z => by omega⟩
  have two : s.1 25 ≠ 0 → (¬ px_ix x 8 ∨ ¬ px_ix y (s.1 24)) → px_W 1 0 0 mX5_budget (mqd X (kc_budget s x y) (vr_budget s (px_oc x) (mm_zd Z y)) s) 34 [(0, .inr (1, 0)), (1, .inl (.int x)), (2, .inl (.int y))] [.inr (1, 0)] (mm_M s X) 0 0 := by
    intro h1 h2
    refine px_iconst (v := nI 2) dX5_budget_34 (by decide) ?_
    refine px_goto (tgt := 39) dX5_budget_35 (by decide) ?_
    refine px_sub (tail 2 (by decide) ?_) rfl
    unfold kc_budget
    rw [if_neg h1]
    by_cases z : px_ix x 8
    · rw [if_neg (fun w => w z), if_pos (h2.resolve_left fun w => w z)]
    · rw [if_pos z]
  refine px_aload_n dX5_budget_0 rfl trivial ?_
  refine px_aload_n dX5_budget_1 rfl trivial ?_
  refine mm_gets dX5_budget_2 F_RX5_92 (by decide) (by (try simp only [mr_In, mr_Ie, mr_A1, mr_D1, mr_R1, mr_T1, ne_eq, Nat.reduceEqDiff, not_false_eq_true]); rfl) ?_
  refine pn_if_ne (tgt := 12) dX5_budget_5 (by decide) (pn_z (by omega)) (fun h => ?_) (fun h => ?_)
  · refine px_iload_n dX5_budget_12 rfl ?_
    refine pn_if_lt (tgt := 34) dX5_budget_13 (by decide) (px_lt0 _) (fun h2 => ?_) (fun h2 => ?_)
    · exact px_sub (two h (Or.inl fun z => by have := z.1; omega)) rfl
    · refine px_iload_n dX5_budget_16 rfl ?_
      refine px_bipush (v := nI 8) dX5_budget_17 (by decide) ?_
      refine pn_icmp_ge (tgt := 34) dX5_budget_19 (by decide) (px_leN _ (by decide)) (fun h3 => ?_) (fun h3 => ?_)
      · exact px_sub (two h (Or.inl fun z => by have := z.2; omega)) rfl
      · refine px_iload_n dX5_budget_22 rfl ?_
        refine pn_if_lt (tgt := 34) dX5_budget_23 (by decide) (px_lt0 _) (fun h4 => ?_) (fun h4 => ?_)
        · exact px_sub (two h (Or.inr fun z => by have := z.1; omega)) rfl
        · refine px_iload_n dX5_budget_26 rfl ?_
          refine px_aload_n dX5_budget_27 rfl trivial ?_
          refine mm_gets dX5_budget_28 F_RX5_145 (by decide) (by (try simp only [mr_In, mr_Ie, mr_A1, mr_D1, mr_R1, mr_T1, ne_eq, Nat.reduceEqDiff, not_false_eq_true]); rfl) ?_
          refine pn_icmp_lt (tgt := 38) dX5_budget_31 (by decide) (px_ltN _ (by omega)) (fun h5 => ?_) (fun h5 => ?_)
          · refine px_iconst (v := nI 0) dX5_budget_38 (by decide) ?_
            refine px_sub (tail 0 (by decide) ?_) rfl
            unfold kc_budget
            rw [if_neg h, if_neg (fun w => w ⟨by omega, by omega⟩), if_neg (fun w => w ⟨by omega, by omega⟩)]
          · exact px_sub (two h (Or.inr fun z => by have := z.2; omega)) rfl
  · refine px_iconst (v := nI 1) dX5_budget_8 (by decide) ?_
    refine px_goto (tgt := 39) dX5_budget_9 (by decide) ?_
    exact px_sub (tail 1 (by decide) (if_pos h)) rfl
