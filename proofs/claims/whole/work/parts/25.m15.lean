/-! ===== the order of rows ===== -/
def px_cm : List Nat → List Nat → Nat
  | [], [] => 1
  | [], _ :: _ => 0
  | _ :: _, [] => 2
  | a :: as, b :: bs => if a < b then 0 else if b < a then 2 else px_cm as bs
theorem px_cm_le : ∀ (x y : List Nat), px_cm x y ≤ 2 := by
  intro x
  induction x with
  | nil => intro y; cases y <;> simp [px_cm]
  | cons a x ih =>
    intro y
    cases y with
    | nil => simp [px_cm]
    | cons b y =>
      show (if a < b then 0 else if b < a then 2 else px_cm x y) ≤ 2
      split
      · decide
      · split
        · decide
        · exact ih y
theorem px_cm_eq : ∀ (x y : List Nat), px_cm x y = 1 ↔ x = y := by
  intro x
  induction x with
  | nil => intro y; cases y with
    | nil => exact ⟨fun _ => rfl, fun _ => rfl⟩
    | cons b y => exact ⟨fun h => absurd h (by first | decide | simp [px_cm]), fun h => by cases h⟩
  | cons a x ih =>
    intro y
    cases y with
    | nil => exact ⟨fun h => absurd h (by first | decide | simp [px_cm]), fun h => by cases h⟩
    | cons b y =>
      show (if a < b then 0 else if b < a then 2 else px_cm x y) = 1 ↔ _
      split
      · exact ⟨fun h => absurd h (by first | decide | simp [px_cm]), fun h => by cases h; omega⟩
      · split
        · exact ⟨fun h => absurd h (by first | decide | simp [px_cm]), fun h => by cases h; omega⟩
        · rw [ih y]
          exact ⟨fun h => by rw [h, show a = b by omega], fun h => by cases h; rfl⟩
theorem px_cm_sw : ∀ (x y : List Nat), px_cm x y = 2 ↔ px_cm y x = 0 := by
  intro x
  induction x with
  | nil => intro y; cases y with
    | nil => exact ⟨fun h => absurd h (by first | decide | simp [px_cm]), fun h => absurd h (by first | decide | simp [px_cm])⟩
    | cons b y => exact ⟨fun h => absurd h (by first | decide | simp [px_cm]), fun h => absurd h (by first | decide | simp [px_cm])⟩
  | cons a x ih =>
    intro y
    cases y with
    | nil => exact ⟨fun _ => rfl, fun _ => rfl⟩
    | cons b y =>
      show (if a < b then 0 else if b < a then 2 else px_cm x y) = 2 ↔ (if b < a then 0 else if a < b then 2 else px_cm y x) = 0
      by_cases h1 : a < b
      · rw [if_pos h1, if_neg (by omega), if_pos h1]; exact ⟨fun h => absurd h (by first | decide | simp [px_cm]), fun h => absurd h (by first | decide | simp [px_cm])⟩
      · rw [if_neg h1]
        by_cases h2 : b < a
        · rw [if_pos h2, if_pos h2]; exact ⟨fun _ => rfl, fun _ => rfl⟩
        · rw [if_neg h2, if_neg h2, if_neg h1]; exact ih y
theorem px_cm_tr : ∀ (x y z : List Nat), px_cm x y = 0 → px_cm y z = 0 → px_cm x z = 0 := by
  intro x
  induction x with
  | nil =>
    intro y z h1 h2
    cases y with
    | nil => exact absurd h1 (by first | decide | simp [px_cm])
    | cons b y =>
      cases z with
      | nil => exact absurd h2 (by first | decide | simp [px_cm])
      | cons c z => rfl
  | cons a x ih =>
    intro y z h1 h2
    cases y with
    | nil => exact absurd h1 (by first | decide | simp [px_cm])
    | cons b y =>
      cases z with
      | nil => exact absurd h2 (by first | decide | simp [px_cm])
      | cons c z =>
        replace h1 : (if a < b then 0 else if b < a then 2 else px_cm x y) = 0 := h1
        replace h2 : (if b < c then 0 else if c < b then 2 else px_cm y z) = 0 := h2
        show (if a < c then 0 else if c < a then 2 else px_cm x z) = 0
        by_cases e1 : a < b
        · by_cases e2 : b < c
          · rw [if_pos (by omega)]
          · rw [if_neg e2] at h2
            by_cases e3 : c < b
            · rw [if_pos e3] at h2; exact absurd h2 (by first | decide | simp [px_cm])
            · rw [if_pos (by omega)]
        · rw [if_neg e1] at h1
          by_cases e3 : b < a
          · rw [if_pos e3] at h1; exact absurd h1 (by first | decide | simp [px_cm])
          · rw [if_neg e3] at h1
            by_cases e2 : b < c
            · rw [if_pos (by omega)]
            · rw [if_neg e2] at h2
              by_cases e4 : c < b
              · rw [if_pos e4] at h2; exact absurd h2 (by first | decide | simp [px_cm])
              · rw [if_neg e4] at h2
                rw [if_neg (by omega), if_neg (by omega)]
                exact ih y z h1 h2
def px_cI : Nat → Int32
  | 0 => -1
  | 1 => 0
  | _ => 1
theorem px_drop {u : List Nat} {k x : Nat} (h : u[k]? = some x) : u.drop k = x :: u.drop (k + 1) := by
  obtain ⟨h1, h2⟩ := List.getElem?_eq_some_iff.mp h
  rw [List.drop_eq_getElem_cons h1, h2]
theorem px_fil_lt {as : List Nat} (ha : ∀ a ∈ as, a < 150) (f : Nat → Nat) {k : Nat} (hk : k < as.length) : px_fil as f k < 150 := by
  have h := px_fil_get as f k hk
  obtain ⟨h1, h2⟩ := List.getElem?_eq_some_iff.mp h
  rw [← h2]
  exact ha _ (List.mem_reverse.mp (List.getElem_mem h1))
def mq_cmp (s : mm_S) (X : px_M) (x y : List Nat) : px_Q := fun o M' => o = .inl (some (.inl (.int (px_cI (px_cm x y))))) ∧ ∃ f g : Nat → Nat, M' = mm_M (mm_R (mm_R s 27 f) 28 g) X
set_option maxRecDepth 100000 in
set_option maxHeartbeats 4000000 in
theorem me_compareRows (s : mm_S) (X : px_M) (i j r q : Nat) (as bs : List Nat) (hr : r ≤ 26400) (hq : q ≤ 26400) (hi : i < 30) (hj : j < 30) (h : mm_row s i as r) (g : mm_row s j bs q) (hl : as.length ≤ 64) (gl : bs.length ≤ 64) (ha : ∀ a ∈ as, a < 150) (ga : ∀ a ∈ bs, a < 150) : px_Met 1 0 0 mX5_compareRows [.inr (1, 0), .inl (.int (nI r)), .inl (.int (nI q))] (mm_M s X) (mq_cmp s X (i :: as.reverse) (j :: bs.reverse)) := by
  refine px_ofW (by decide) W_mX5_compareRows (Nat.le_of_ble_eq_true rfl) ?_
  refine px_aload_n dX5_compareRows_0 rfl trivial ?_
  refine px_iload_n dX5_compareRows_1 rfl ?_
  refine px_callVr ((me_startOf s X i r as hr h)) dX5_compareRows_2 L_RX5_119 (mm_rcv _ _) rfl rfl (by decide) (by omega) (by omega) (Nat.le_of_ble_eq_true rfl) ?_
  refine px_istore_n dX5_compareRows_5 (by decide) ?_
  refine px_aload_n dX5_compareRows_6 rfl trivial ?_
  refine px_iload_n dX5_compareRows_7 rfl ?_
  refine px_callVr ((me_startOf s X j q bs hq g)) dX5_compareRows_8 L_RX5_119 (mm_rcv _ _) rfl rfl (by decide) (by omega) (by omega) (Nat.le_of_ble_eq_true rfl) ?_
  refine px_istore dX5_compareRows_11 (by decide) ?_
  refine px_iload_n dX5_compareRows_13 rfl ?_
  refine px_iload dX5_compareRows_14 rfl ?_
  refine pn_icmp_eq (tgt := 31) dX5_compareRows_16 (by decide) (nI_eq (by omega) (by omega)) (fun e1 => ?_) (fun e1 => ?_)
  · have e0 : px_cm (i :: as.reverse) (j :: bs.reverse) = px_cm as.reverse bs.reverse := by
      show (if i < j then 0 else if j < i then 2 else _) = _
      rw [if_neg (by omega), if_neg (by omega)]
    refine px_aload_n dX5_compareRows_31 rfl trivial ?_
    refine px_iload_n dX5_compareRows_32 rfl ?_
    refine px_iconst (v := nI 1) dX5_compareRows_33 (by decide) ?_
    refine px_callVr ((me_unroll1 s X i r as hr h hl ha)) dX5_compareRows_34 L_RX5_123 (mm_rcv _ _) rfl rfl (by decide) (by omega) (by omega) (Nat.le_of_ble_eq_true rfl) ?_
    refine px_istore dX5_compareRows_37 (by decide) ?_
    refine px_aload_n dX5_compareRows_39 rfl trivial ?_
    refine px_iload_n dX5_compareRows_40 rfl ?_
    refine px_iconst (v := nI 0) dX5_compareRows_41 (by decide) ?_
    refine px_callVr ((me_unroll0 (mm_R s 27 (px_fil as (s.2.1 27))) X j q bs hq ((mm_row.R (by decide) bs q).mpr g) gl ga)) dX5_compareRows_42 L_RX5_123 (mm_rcv _ _) rfl rfl (by decide) (by omega) (by omega) (Nat.le_of_ble_eq_true rfl) ?_
    have hu := px_fil_get as (s.2.1 27)
    have hv := px_fil_get bs ((mm_R s 27 (px_fil as (s.2.1 27))).2.1 28)
    have bu := fun k => px_fil_lt ha (s.2.1 27) (k := k)
    have bv := fun k => px_fil_lt ga ((mm_R s 27 (px_fil as (s.2.1 27))).2.1 28) (k := k)
    generalize px_fil as (s.2.1 27) = f at hu bu hv bv ⊢
    generalize px_fil bs ((mm_R s 27 f).2.1 28) = f' at hv bv ⊢
    have loop : ∀ (u k : Nat), k ≤ as.length → k ≤ bs.length → as.length < k + u → px_cm (as.reverse.drop k) (bs.reverse.drop k) = px_cm (i :: as.reverse) (j :: bs.reverse) → px_W 1 0 0 mX5_compareRows (mq_cmp s X (i :: as.reverse) (j :: bs.reverse)) 50 [(0, .inr (1, 0)), (5, .inl (.int (nI as.length))), (6, .inl (.int (nI bs.length))), (7, .inl (.int (nI k)))] [] (mm_M (mm_R (mm_R s 27 f) 28 f') X) 0 0 := by
      intro u
      induction u with
      | zero => intro k h1 h2 h3; omega
      | succ u ih =>
        intro k k1 k2 k3 hk
        have fin : (k = as.length ∨ k = bs.length) → px_W 1 0 0 mX5_compareRows (mq_cmp s X (i :: as.reverse) (j :: bs.reverse)) 110 [(5, .inl (.int (nI as.length))), (6, .inl (.int (nI bs.length)))] [] (mm_M (mm_R (mm_R s 27 f) 28 f') X) 0 0 := by
          intro hke
          have d1 : as.reverse.drop k = [] ↔ as.length ≤ k := by rw [List.drop_eq_nil_iff, List.length_reverse]
          have d2 : bs.reverse.drop k = [] ↔ bs.length ≤ k := by rw [List.drop_eq_nil_iff, List.length_reverse]
          refine px_iload dX5_compareRows_110 rfl ?_
          refine px_iload dX5_compareRows_112 rfl ?_
          refine pn_icmp_ge (tgt := 121) dX5_compareRows_114 (by decide) (nI_leI (by omega) (by omega)) (fun z1 => ?_) (fun z1 => ?_)
          · refine px_iload dX5_compareRows_121 rfl ?_
            refine px_iload dX5_compareRows_123 rfl ?_
            refine pn_icmp_le (tgt := 132) dX5_compareRows_125 (by decide) (nI_leI (by omega) (by omega)) (fun z2 => ?_) (fun z2 => ?_)
            · refine px_iconst (v := nI 0) dX5_compareRows_132 (by decide) ?_
              refine px_iret dX5_compareRows_133 rfl ?_ (by omega) (by omega)
              refine ⟨?_, f, f', rfl⟩
              rw [← hk, d1.mpr (by omega), d2.mpr (by omega)]; rfl
            · refine px_iconst (v := nI 1) dX5_compareRows_128 (by decide) ?_
              refine px_goto (tgt := 133) dX5_compareRows_129 (by decide) ?_
              refine px_iret dX5_compareRows_133 rfl ?_ (by omega) (by omega)
              refine ⟨?_, f, f', rfl⟩
              rw [← hk, d2.mpr (by omega)]
              generalize hd : as.reverse.drop k = D at d1 ⊢
              cases D with
              | nil => have := d1.mp rfl; omega
              | cons a D => rfl
          · refine px_iconst (v := -1) dX5_compareRows_117 (by decide) ?_
            refine px_goto (tgt := 133) dX5_compareRows_118 (by decide) ?_
            refine px_iret dX5_compareRows_133 rfl ?_ (by omega) (by omega)
            refine ⟨?_, f, f', rfl⟩
            rw [← hk, d1.mpr (by omega)]
            generalize hd : bs.reverse.drop k = D at d2 ⊢
            cases D with
            | nil => have := d2.mp rfl; omega
            | cons a D => rfl
        refine px_iload dX5_compareRows_50 rfl ?_
        refine px_iload dX5_compareRows_52 rfl ?_
        refine pn_icmp_ge (tgt := 110) dX5_compareRows_54 (by decide) (nI_leI (by omega) (by omega)) (fun z1 => ?_) (fun z1 => ?_)
        · exact px_sub (fin (by omega)) rfl
        · refine px_iload dX5_compareRows_57 rfl ?_
          refine px_iload dX5_compareRows_59 rfl ?_
          refine pn_icmp_ge (tgt := 110) dX5_compareRows_61 (by decide) (nI_leI (by omega) (by omega)) (fun z2 => ?_) (fun z2 => ?_)
          · exact px_sub (fin (by omega)) rfl
          · have b1 := bu k (by omega)
            have b2 := bv k (by omega)
            rw [px_drop (hu k (by omega)), px_drop (hv k (by omega))] at hk
            refine px_aload_n dX5_compareRows_64 rfl trivial ?_
            refine mm_get dX5_compareRows_65 F_RX5_69 rfl ?_
            refine px_iload dX5_compareRows_68 rfl ?_
            refine mm_ald dX5_compareRows_70 rfl (by first | rfl | assumption) (by (try simp only [mr_I2, mr_An, mr_Ae, mr_D2, mr_Rn, mr_Re, mr_T2, ne_eq, Nat.reduceEqDiff, not_false_eq_true]); rfl) (by first | assumption | omega) ?_
            refine px_aload_n dX5_compareRows_71 rfl trivial ?_
            refine mm_get dX5_compareRows_72 F_RX5_72 rfl ?_
            refine px_iload dX5_compareRows_75 rfl ?_
            refine mm_ald dX5_compareRows_77 rfl (by first | rfl | assumption) (by (try simp only [mr_I2, mr_An, mr_Ae, mr_D2, mr_Rn, mr_Re, mr_T2, ne_eq, Nat.reduceEqDiff, not_false_eq_true]); rfl) (by first | assumption | omega) ?_
            refine pn_icmp_eq (tgt := 104) dX5_compareRows_78 (by decide) (nI_eq (by omega) (by omega)) (fun z3 => ?_) (fun z3 => ?_)
            · refine px_iinc dX5_compareRows_104 rfl (pn_i1 _) (by decide) ?_
              refine px_goto (tgt := 50) dX5_compareRows_107 (by decide) ?_
              refine px_sub (ih (k + 1) (by omega) (by omega) (by omega) ?_) rfl
              rw [← hk]
              show _ = if f k < f' k then 0 else if f' k < f k then 2 else _
              rw [if_neg (by omega), if_neg (by omega)]
            · refine px_aload_n dX5_compareRows_81 rfl trivial ?_
              refine mm_get dX5_compareRows_82 F_RX5_69 rfl ?_
              refine px_iload dX5_compareRows_85 rfl ?_
              refine mm_ald dX5_compareRows_87 rfl (by first | rfl | assumption) (by (try simp only [mr_I2, mr_An, mr_Ae, mr_D2, mr_Rn, mr_Re, mr_T2, ne_eq, Nat.reduceEqDiff, not_false_eq_true]); rfl) (by first | assumption | omega) ?_
              refine px_aload_n dX5_compareRows_88 rfl trivial ?_
              refine mm_get dX5_compareRows_89 F_RX5_72 rfl ?_
              refine px_iload dX5_compareRows_92 rfl ?_
              refine mm_ald dX5_compareRows_94 rfl (by first | rfl | assumption) (by (try simp only [mr_I2, mr_An, mr_Ae, mr_D2, mr_Rn, mr_Re, mr_T2, ne_eq, Nat.reduceEqDiff, not_false_eq_true]); rfl) (by first | assumption | omega) ?_
              refine pn_icmp_ge (tgt := 102) dX5_compareRows_95 (by decide) (nI_leI (by omega) (by omega)) (fun z4 => ?_) (fun z4 => ?_)
              · refine px_iconst (v := nI 1) dX5_compareRows_102 (by decide) ?_
                refine px_iret dX5_compareRows_103 rfl ?_ (by omega) (by omega)
                refine ⟨?_, f, f', rfl⟩
                rw [← hk]
                show _ = Sum.inl (some (Sum.inl (Value.int (px_cI (if f k < f' k then 0 else if f' k < f k then 2 else _)))))
                rw [if_neg (by omega), if_pos (by omega)]; rfl
              · refine px_iconst (v := -1) dX5_compareRows_98 (by decide) ?_
                refine px_goto (tgt := 103) dX5_compareRows_99 (by decide) ?_
                refine px_iret dX5_compareRows_103 rfl ?_ (by omega) (by omega)
                refine ⟨?_, f, f', rfl⟩
                rw [← hk]
                show _ = Sum.inl (some (Sum.inl (Value.int (px_cI (if f k < f' k then 0 else if f' k < f k then 2 else _)))))
                rw [if_pos (by omega)]; rfl
    refine px_istore dX5_compareRows_45 (by decide) ?_
    refine px_iconst (v := nI 0) dX5_compareRows_47 (by decide) ?_
    refine px_istore dX5_compareRows_48 (by decide) ?_
    exact px_sub (loop (as.length + 1) 0 (by omega) (by omega) (by omega) e0.symm) rfl
  · refine px_iload_n dX5_compareRows_19 rfl ?_
    refine px_iload dX5_compareRows_20 rfl ?_
    refine pn_icmp_ge (tgt := 29) dX5_compareRows_22 (by decide) (nI_leI (by omega) (by omega)) (fun e2 => ?_) (fun e2 => ?_)
    · refine px_iconst (v := nI 1) dX5_compareRows_29 (by decide) ?_
      refine px_iret dX5_compareRows_30 rfl ?_ (by omega) (by omega)
      refine ⟨?_, s.2.1 27, s.2.1 28, ?_⟩
      · show _ = Sum.inl (some (Sum.inl (Value.int (px_cI (if i < j then 0 else if j < i then 2 else _)))))
        rw [if_neg (by omega), if_pos (by omega)]; rfl
      · rw [mr_R0, mr_R0]
    · refine px_iconst (v := -1) dX5_compareRows_25 (by decide) ?_
      refine px_goto (tgt := 30) dX5_compareRows_26 (by decide) ?_
      refine px_iret dX5_compareRows_30 rfl ?_ (by omega) (by omega)
      refine ⟨?_, s.2.1 27, s.2.1 28, ?_⟩
      · show _ = Sum.inl (some (Sum.inl (Value.int (px_cI (if i < j then 0 else if j < i then 2 else _)))))
        rw [if_pos (by omega)]; rfl
      · rw [mr_R0, mr_R0]
