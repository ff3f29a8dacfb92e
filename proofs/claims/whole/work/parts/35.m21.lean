/-! ===== listed ways: slack, start, arcs (the latest first), end; which stands before ===== -/
abbrev mm_P : Type := Int × Nat × List Nat × Nat
def mm_pk (x : mm_P) : List Nat := x.2.1 :: x.2.2.1.reverse
def mm_pR (x y : mm_P) : Prop := x.1 < y.1 ∨ x.1 = y.1 ∧ (px_cm (mm_pk x) (mm_pk y) = 0 ∨ mm_pk x = mm_pk y ∧ x.2.2.2 < y.2.2.2)
theorem mm_pk_inj {a b : mm_P} (h : mm_pk a = mm_pk b) : a.2.1 = b.2.1 ∧ a.2.2.1 = b.2.2.1 := by
  obtain ⟨h1, h2⟩ := List.cons.inj h
  exact ⟨h1, List.reverse_inj.mp h2⟩
theorem mm_pR_od : px_od mm_pR := by
  refine ⟨?_, ?_, ?_⟩
  · rintro a (h | ⟨-, h | ⟨-, h⟩⟩)
    · omega
    · have := (px_cm_eq (mm_pk a) (mm_pk a)).mpr rfl; omega
    · omega
  · rintro a b c (h | ⟨h0, h⟩) (g | ⟨g0, g⟩)
    · exact Or.inl (by omega)
    · exact Or.inl (by omega)
    · exact Or.inl (by omega)
    · refine Or.inr ⟨h0.trans g0, ?_⟩
      rcases h with h | ⟨h1, h2⟩
      · rcases g with g | ⟨g1, g2⟩
        · exact Or.inl (px_cm_tr _ _ _ h g)
        · exact Or.inl (g1 ▸ h)
      · rcases g with g | ⟨g1, g2⟩
        · exact Or.inl (h1 ▸ g)
        · exact Or.inr ⟨h1.trans g1, by omega⟩
  · intro a b h
    by_cases h1 : a.1 < b.1
    · exact Or.inl (Or.inl h1)
    · by_cases h2 : b.1 < a.1
      · exact Or.inr (Or.inl h2)
      · have e : a.1 = b.1 := by omega
        have h3 := px_cm_le (mm_pk a) (mm_pk b)
        have h4 := px_cm_eq (mm_pk a) (mm_pk b)
        have h5 := px_cm_sw (mm_pk a) (mm_pk b)
        rcases (show px_cm (mm_pk a) (mm_pk b) = 0 ∨ px_cm (mm_pk a) (mm_pk b) = 1 ∨ px_cm (mm_pk a) (mm_pk b) = 2 by omega) with z | z | z
        · exact Or.inl (Or.inr ⟨e, Or.inl z⟩)
        · have hk := h4.mp z
          by_cases g1 : a.2.2.2 < b.2.2.2
          · exact Or.inl (Or.inr ⟨e, Or.inr ⟨hk, g1⟩⟩)
          · by_cases g2 : b.2.2.2 < a.2.2.2
            · exact Or.inr (Or.inr ⟨e.symm, Or.inr ⟨hk.symm, g2⟩⟩)
            · exfalso
              obtain ⟨k1, k2⟩ := mm_pk_inj hk
              exact h (Prod.ext e (Prod.ext k1 (Prod.ext k2 (by omega))))
        · exact Or.inr (Or.inr ⟨e.symm, Or.inl (h5.mp z)⟩)
def mm_pe (s : mm_S) (x : mm_P) : mm_E := (s.2.2 11 x.2.2.2 - x.1, x.2.1, x.2.2.1)
def mm_pq (s : mm_S) (r e : Nat) (x : mm_P) : Prop := e = x.2.2.2 ∧ e < s.1 13 ∧ r < 26400 ∧ mm_en s r (mm_pe s x) ∧ mm_eok (mm_pe s x)
def mm_K3 (s : mm_S) (B E : Nat → Nat) (n : Nat) (t : mm_S) : Prop := (∀ k, k ≠ 24 → t.1 k = s.1 k) ∧ t.1 24 = n ∧ (∀ k, k ≠ 22 → k ≠ 23 → k ≠ 27 → k ≠ 28 → t.2.1 k = s.2.1 k) ∧ t.2.2 = s.2.2 ∧ t.2.1 22 = B ∧ t.2.1 23 = E
theorem mm_K3.R {s t : mm_S} {B E : Nat → Nat} {n : Nat} (h : mm_K3 s B E n t) (f g : Nat → Nat) : mm_K3 s B E n (mm_R (mm_R t 27 f) 28 g) :=
  ⟨h.1, h.2.1, fun k h1 h2 h3 h4 => ((if_neg h4).trans (if_neg h3)).trans (h.2.2.1 k h1 h2 h3 h4), h.2.2.2.1, ((mr_Rn _ g (by decide)).trans (mr_Rn t f (by decide))).trans h.2.2.2.2.1, ((mr_Rn _ g (by decide)).trans (mr_Rn t f (by decide))).trans h.2.2.2.2.2⟩
theorem mm_K3.B {s t : mm_S} {B E : Nat → Nat} {n : Nat} (h : mm_K3 s B E n t) (j x : Nat) : mm_K3 s (px_upN B j x) E n (mm_A t 22 j x) :=
  ⟨h.1, h.2.1, fun k h1 h2 h3 h4 => (if_neg h1).trans (h.2.2.1 k h1 h2 h3 h4), h.2.2.2.1, by rw [mr_A0, h.2.2.2.2.1], (mr_Aw t j x (by decide)).trans h.2.2.2.2.2⟩
theorem mm_K3.E {s t : mm_S} {B E : Nat → Nat} {n : Nat} (h : mm_K3 s B E n t) (j x : Nat) : mm_K3 s B (px_upN E j x) n (mm_A t 23 j x) :=
  ⟨h.1, h.2.1, fun k h1 h2 h3 h4 => (if_neg h2).trans (h.2.2.1 k h1 h2 h3 h4), h.2.2.2.1, (mr_Aw t j x (by decide)).trans h.2.2.2.2.1, by rw [mr_A0, h.2.2.2.2.2]⟩
theorem mm_K3.N {s t : mm_S} {B E : Nat → Nat} {n : Nat} (h : mm_K3 s B E n t) (n' : Nat) : mm_K3 s B E n' (mm_I t 24 n') :=
  ⟨fun k hk => (mr_In hk).trans (h.1 k hk), mr_Ie, h.2.2⟩
theorem mm_row.eq {s t : mm_S} (h3 : t.2.1 3 = s.2.1 3) (h18 : t.2.1 18 = s.2.1 18) (h19 : t.2.1 19 = s.2.1 19) {i r : Nat} {as : List Nat} (h : mm_row s i as r) : mm_row t i as r := by
  refine mm_row_tl.mpr ?_
  rw [h18, h19]
  exact (mm_row_tl.mp h).fr h3 fun r _ _ => ⟨by rw [h18], by rw [h19]⟩
theorem mm_K3.row {s t : mm_S} {B E : Nat → Nat} {n : Nat} (h : mm_K3 s B E n t) {i r : Nat} {as : List Nat} (g : mm_row s i as r) : mm_row t i as r :=
  g.eq (h.2.2.1 3 (by decide) (by decide) (by decide) (by decide)) (h.2.2.1 18 (by decide) (by decide) (by decide) (by decide)) (h.2.2.1 19 (by decide) (by decide) (by decide) (by decide))
set_option maxRecDepth 100000 in
set_option maxHeartbeats 4000000 in
theorem me_slackOf (s t : mm_S) (X : px_M) (ok : mm_ok s) {B E : Nat → Nat} {n : Nat} (ht : mm_K3 s B E n t) (k : Nat) (hk : k ≤ 320) (x : mm_P) (hx : mm_pq s (B k) (E k) x) : px_Met 0 0 0 mX5_slackOf [.inr (1, 0), .inl (.int (nI k))] (mm_M t X) (px_rt (some (.inl (.double (dz x.1)))) (mm_M t X)) := by
  obtain ⟨h1, h2, h3, ⟨h4, h4'⟩, h5⟩ := hx
  have h13 := ok.1.2.2.2.1
  have b1 : t.2.1 23 k = x.2.2.2 := by rw [ht.2.2.2.2.2, h1]
  have b2 : t.2.1 22 k = B k := by rw [ht.2.2.2.2.1]
  have b3 : t.2.2 11 x.2.2.2 = s.2.2 11 x.2.2.2 := by rw [ht.2.2.2.1]
  have b4 : t.2.2 20 (B k) = s.2.2 11 x.2.2.2 - x.1 := by rw [ht.2.2.2.1]; exact h4
  have b5 := (ok.2.2.2.1 x.2.2.2 (by omega)).2.2
  have b6 : (s.2.2 11 x.2.2.2 - x.1).natAbs ≤ 2 ^ 40 := h5.2.2.2
  refine px_ofW (by decide) W_mX5_slackOf (Nat.le_of_ble_eq_true rfl) ?_
  refine px_aload_n dX5_slackOf_0 rfl trivial ?_
  refine mm_get dX5_slackOf_1 F_RX5_32 rfl ?_
  refine px_aload_n dX5_slackOf_4 rfl trivial ?_
  refine mm_get dX5_slackOf_5 F_RX5_62 rfl ?_
  refine px_iload_n dX5_slackOf_8 rfl ?_
  refine mm_ald dX5_slackOf_9 rfl (by first | rfl | assumption) (by (try simp only [mr_I2, mr_An, mr_Ae, mr_D2, mr_Rn, mr_Re, mr_T2, ne_eq, Nat.reduceEqDiff, not_false_eq_true]); rfl) (by first | assumption | omega) ?_
  refine mm_ald_d dX5_slackOf_10 rfl (by first | rfl | assumption) (by (try simp only [mr_I3, mr_A3, mr_Dn, mr_De, mr_R3, mr_Tn, mr_Te, ne_eq, Nat.reduceEqDiff, not_false_eq_true]); rfl) (by first | assumption | omega) ?_
  rw [b1, b3]
  refine px_aload_n dX5_slackOf_11 rfl trivial ?_
  refine mm_get dX5_slackOf_12 F_RX5_53 rfl ?_
  refine px_aload_n dX5_slackOf_15 rfl trivial ?_
  refine mm_get dX5_slackOf_16 F_RX5_59 rfl ?_
  refine px_iload_n dX5_slackOf_19 rfl ?_
  refine mm_ald dX5_slackOf_20 rfl (by first | rfl | assumption) (by (try simp only [mr_I2, mr_An, mr_Ae, mr_D2, mr_Rn, mr_Re, mr_T2, ne_eq, Nat.reduceEqDiff, not_false_eq_true]); rfl) (by first | assumption | omega) ?_
  refine mm_ald_d dX5_slackOf_21 rfl (by first | rfl | assumption) (by (try simp only [mr_I3, mr_A3, mr_Dn, mr_De, mr_R3, mr_Tn, mr_Te, ne_eq, Nat.reduceEqDiff, not_false_eq_true]); rfl) (by first | assumption | omega) ?_
  rw [b2, b4]
  refine pn_dsub dX5_slackOf_22 (by omega) (by omega) (by first | exact Int.add_zero _ | rfl) ?_
  refine px_dret dX5_slackOf_23 rfl ?_ (by omega) (by omega)
  exact ⟨by rw [show s.2.2 11 x.2.2.2 - (s.2.2 11 x.2.2.2 - x.1) = x.1 by omega], rfl⟩
def mq_bef (t : mm_S) (X : px_M) (x y : mm_P) : px_Q := fun o M' => o = .inl (some (.inl (.int (nI (px_ch (mm_pR x y)))))) ∧ ∃ f g : Nat → Nat, M' = mm_M (mm_R (mm_R t 27 f) 28 g) X
theorem px_cI_lt (n : Nat) : px_cI n < 0 ↔ n = 0 := by
  match n with
  | 0 => exact ⟨fun _ => rfl, fun _ => by decide⟩
  | 1 => exact ⟨fun h => absurd h (by decide), fun h => absurd h (by decide)⟩
  | n + 2 => exact ⟨fun h => absurd (show (1 : Int32) < 0 from h) (by decide), fun h => by omega⟩
theorem px_cI_z (n : Nat) : px_cI n = 0 ↔ n = 1 := by
  match n with
  | 0 => exact ⟨fun h => absurd h (by decide), fun h => absurd h (by decide)⟩
  | 1 => exact ⟨fun _ => rfl, fun _ => rfl⟩
  | n + 2 => exact ⟨fun h => absurd (show (1 : Int32) = 0 from h) (by decide), fun h => by omega⟩
set_option maxRecDepth 100000 in
set_option maxHeartbeats 4000000 in
theorem me_isBefore (s t : mm_S) (X : px_M) (ok : mm_ok s) {B E : Nat → Nat} {n : Nat} (ht : mm_K3 s B E n t) (a b : Nat) (ha : a ≤ 320) (hb : b ≤ 320) (x y : mm_P) (hx : mm_pq s (B a) (E a) x) (hy : mm_pq s (B b) (E b) y) : px_Met 2 0 0 mX5_isBefore [.inr (1, 0), .inl (.int (nI a)), .inl (.int (nI b))] (mm_M t X) (mq_bef t X x y) := by
  have hsx := me_slackOf s t X ok ht a ha x hx
  have hsy := me_slackOf s t X ok ht b hb y hy
  obtain ⟨x1, x2, x3, ⟨x4, x4'⟩, x5⟩ := hx
  obtain ⟨y1, y2, y3, ⟨y4, y4'⟩, y5⟩ := hy
  have h13 := ok.1.2.2.2.1
  have bx := (ok.2.2.2.1 x.2.2.2 (by omega)).2.2
  have by' := (ok.2.2.2.1 y.2.2.2 (by omega)).2.2
  have bx2 : (s.2.2 11 x.2.2.2 - x.1).natAbs ≤ 2 ^ 40 := x5.2.2.2
  have by2 : (s.2.2 11 y.2.2.2 - y.1).natAbs ≤ 2 ^ 40 := y5.2.2.2
  have ex : t.2.1 23 a = x.2.2.2 := by rw [ht.2.2.2.2.2, x1]
  have ey : t.2.1 23 b = y.2.2.2 := by rw [ht.2.2.2.2.2, y1]
  have rx : t.2.1 22 a = B a := by rw [ht.2.2.2.2.1]
  have ry : t.2.1 22 b = B b := by rw [ht.2.2.2.2.1]
  refine px_ofW (by decide) W_mX5_isBefore (Nat.le_of_ble_eq_true rfl) ?_
  have e0 : mm_M t X = mm_M (mm_R (mm_R t 27 (t.2.1 27)) 28 (t.2.1 28)) X := by rw [mr_R0, mr_R0]
  refine px_aload_n dX5_isBefore_0 rfl trivial ?_
  refine px_iload_n dX5_isBefore_1 rfl ?_
  refine px_callVr (hsx) dX5_isBefore_2 L_RX5_141 (mm_rcv _ _) rfl rfl (by decide) (by omega) (by omega) (Nat.le_of_ble_eq_true rfl) ?_
  refine px_dstore_n dX5_isBefore_5 (by decide) ?_
  refine px_aload_n dX5_isBefore_6 rfl trivial ?_
  refine px_iload_n dX5_isBefore_7 rfl ?_
  refine px_callVr (hsy) dX5_isBefore_8 L_RX5_141 (mm_rcv _ _) rfl rfl (by decide) (by omega) (by omega) (Nat.le_of_ble_eq_true rfl) ?_
  refine px_dstore dX5_isBefore_11 (by decide) ?_
  refine px_dload_n dX5_isBefore_13 rfl ?_
  refine px_dload dX5_isBefore_14 rfl ?_
  refine pn_dcmp dX5_isBefore_16 rfl rfl (by omega) (by omega) ?_
  refine pn_if_eq (tgt := 33) dX5_isBefore_17 (by decide) (dz_c_eq _ _) (fun h1 => ?_) (fun h1 => ?_)
  · refine px_aload_n dX5_isBefore_33 rfl trivial ?_
    refine px_aload_n dX5_isBefore_34 rfl trivial ?_
    refine mm_get dX5_isBefore_35 F_RX5_59 rfl ?_
    refine px_iload_n dX5_isBefore_38 rfl ?_
    refine mm_ald dX5_isBefore_39 rfl (by first | rfl | assumption) (by (try simp only [mr_I2, mr_An, mr_Ae, mr_D2, mr_Rn, mr_Re, mr_T2, ne_eq, Nat.reduceEqDiff, not_false_eq_true]); rfl) (by first | assumption | omega) ?_
    refine px_aload_n dX5_isBefore_40 rfl trivial ?_
    refine mm_get dX5_isBefore_41 F_RX5_59 rfl ?_
    refine px_iload_n dX5_isBefore_44 rfl ?_
    refine mm_ald dX5_isBefore_45 rfl (by first | rfl | assumption) (by (try simp only [mr_I2, mr_An, mr_Ae, mr_D2, mr_Rn, mr_Re, mr_T2, ne_eq, Nat.reduceEqDiff, not_false_eq_true]); rfl) (by first | assumption | omega) ?_
    rw [rx, ry]
    refine px_callV ((me_compareRows t X x.2.1 y.2.1 (B a) (B b) x.2.2.1 y.2.2.1 (by omega) (by omega) x5.1 y5.1 (ht.row x4') (ht.row y4') x5.2.1 y5.2.1 x5.2.2.1 y5.2.2.1)) dX5_isBefore_46 L_RX5_127 (mm_rcv _ _) rfl rfl (by decide) (by omega) (by omega) (Nat.le_of_ble_eq_true rfl) (fun v9 M9 hq => ?_) (fun E9 M9 hq => ?_)
    · obtain ⟨h0, f, g, rfl⟩ := hq
      cases h0
      have hcm : px_cm (x.2.1 :: x.2.2.1.reverse) (y.2.1 :: y.2.2.1.reverse) = px_cm (mm_pk x) (mm_pk y) := rfl
      refine px_istore dX5_isBefore_49 (by decide) ?_
      refine px_iload dX5_isBefore_51 rfl ?_
      refine pn_if_lt (tgt := 76) dX5_isBefore_53 (by decide) (px_cI_lt _) (fun h2 => ?_) (fun h2 => ?_)
      · refine px_iconst (v := nI 1) dX5_isBefore_76 (by decide) ?_
        refine px_goto (tgt := 81) dX5_isBefore_77 (by decide) ?_
        refine px_zret dX5_isBefore_81 rfl (by decide) ⟨?_, f, g, rfl⟩ (by omega) (by omega)
        rw [px_ch_1 (show mm_pR x y from Or.inr ⟨h1, Or.inl h2⟩)]
      · refine px_iload dX5_isBefore_56 rfl ?_
        refine pn_if_ne (tgt := 80) dX5_isBefore_58 (by decide) (px_cI_z _) (fun h3 => ?_) (fun h3 => ?_)
        · refine px_iconst (v := nI 0) dX5_isBefore_80 (by decide) ?_
          refine px_zret dX5_isBefore_81 rfl (by decide) ⟨?_, f, g, rfl⟩ (by omega) (by omega)
          rw [px_ch_0 (show ¬ mm_pR x y from ?_)]
          rintro (z | ⟨-, z | ⟨z, -⟩⟩)
          · omega
          · exact h2 z
          · exact h3 ((px_cm_eq _ _).mpr z)
        · refine px_aload_n dX5_isBefore_61 rfl trivial ?_
          refine mm_get dX5_isBefore_62 F_RX5_62 rfl ?_
          refine px_iload_n dX5_isBefore_65 rfl ?_
          refine mm_ald dX5_isBefore_66 rfl (by first | rfl | assumption) (by (try simp only [mr_I2, mr_An, mr_Ae, mr_D2, mr_Rn, mr_Re, mr_T2, ne_eq, Nat.reduceEqDiff, not_false_eq_true]); rfl) (by first | assumption | omega) ?_
          refine px_aload_n dX5_isBefore_67 rfl trivial ?_
          refine mm_get dX5_isBefore_68 F_RX5_62 rfl ?_
          refine px_iload_n dX5_isBefore_71 rfl ?_
          refine mm_ald dX5_isBefore_72 rfl (by first | rfl | assumption) (by (try simp only [mr_I2, mr_An, mr_Ae, mr_D2, mr_Rn, mr_Re, mr_T2, ne_eq, Nat.reduceEqDiff, not_false_eq_true]); rfl) (by first | assumption | omega) ?_
          refine pn_icmp_ge (tgt := 80) dX5_isBefore_73 (by decide) (nI_leI (by omega) (by omega)) (fun h4 => ?_) (fun h4 => ?_)
          · refine px_iconst (v := nI 0) dX5_isBefore_80 (by decide) ?_
            refine px_zret dX5_isBefore_81 rfl (by decide) ⟨?_, f, g, rfl⟩ (by omega) (by omega)
            rw [px_ch_0 (show ¬ mm_pR x y from ?_)]
            rintro (z | ⟨-, z | ⟨-, z⟩⟩)
            · omega
            · exact h2 z
            · omega
          · refine px_iconst (v := nI 1) dX5_isBefore_76 (by decide) ?_
            refine px_goto (tgt := 81) dX5_isBefore_77 (by decide) ?_
            refine px_zret dX5_isBefore_81 rfl (by decide) ⟨?_, f, g, rfl⟩ (by omega) (by omega)
            rw [px_ch_1 (show mm_pR x y from Or.inr ⟨h1, Or.inr ⟨(px_cm_eq _ _).mp h3, by omega⟩⟩)]
    · exact absurd hq.1 (fun z => by cases z)
  · refine px_dload_n dX5_isBefore_20 rfl ?_
    refine px_dload dX5_isBefore_21 rfl ?_
    refine pn_dcmp dX5_isBefore_23 rfl rfl (by omega) (by omega) ?_
    refine pn_if_ge (tgt := 31) dX5_isBefore_24 (by decide) (dz_c_ge _ _) (fun h2 => ?_) (fun h2 => ?_)
    · refine px_iconst (v := nI 0) dX5_isBefore_31 (by decide) ?_
      refine px_zret dX5_isBefore_32 rfl (by decide) ⟨?_, _, _, e0⟩ (by omega) (by omega)
      rw [px_ch_0 (show ¬ mm_pR x y from ?_)]
      rintro (z | ⟨z, -⟩)
      · omega
      · exact h1 z
    · refine px_iconst (v := nI 1) dX5_isBefore_27 (by decide) ?_
      refine px_goto (tgt := 32) dX5_isBefore_28 (by decide) ?_
      refine px_zret dX5_isBefore_32 rfl (by decide) ⟨?_, _, _, e0⟩ (by omega) (by omega)
      rw [px_ch_1 (show mm_pR x y from Or.inl (by omega))]
