/-! ===== rows: a row tells its arc and the row before it; startOf, unroll ===== -/
def mm_row (s : mm_S) (i : Nat) : List Nat → Nat → Prop
  | [], r => s.2.1 18 r = 0 ∧ s.2.1 19 r = i
  | a :: as, r => ∃ r', r' < 26400 ∧ r' / 440 = s.2.1 3 a ∧ s.2.1 18 r = r' + 1 ∧ s.2.1 19 r = a ∧ mm_row s i as r'
set_option maxRecDepth 100000 in
set_option maxHeartbeats 4000000 in
theorem me_startOf (s : mm_S) (X : px_M) (i r : Nat) (as : List Nat) (hr : r ≤ 26400) (h : mm_row s i as r) : px_Met 0 0 0 mX5_startOf [.inr (1, 0), .inl (.int (nI r))] (mm_M s X) (px_rt (some (.inl (.int (nI i)))) (mm_M s X)) := by
  refine px_ofW (by decide) W_mX5_startOf (Nat.le_of_ble_eq_true rfl) ?_
  have loop : ∀ (as : List Nat) (r : Nat), r ≤ 26400 → mm_row s i as r → px_W 0 0 0 mX5_startOf (px_rt (some (.inl (.int (nI i)))) (mm_M s X)) 2 [(0, .inr (1, 0)), (2, .inl (.int (nI r)))] [] (mm_M s X) 0 0 := by
    intro as
    induction as with
    | nil =>
      intro r hr h
      obtain ⟨h1, h2⟩ := h
      refine px_aload_n dX5_startOf_2 rfl trivial ?_
      refine mm_get dX5_startOf_3 F_RX5_47 rfl ?_
      refine px_iload_n dX5_startOf_6 rfl ?_
      refine mm_ald_o dX5_startOf_7 rfl (by first | rfl | assumption) (by (try simp only [mr_I2, mr_An, mr_Ae, mr_D2, mr_Rn, mr_Re, mr_T2, ne_eq, Nat.reduceEqDiff, not_false_eq_true]); rfl) (by first | assumption | omega) ?_
      refine px_iconst (v := -1) dX5_startOf_8 (by decide) ?_
      refine pn_icmp_eq (tgt := 22) dX5_startOf_9 (by decide) (px_o_no (by omega)) (fun h3 => ?_) (fun h3 => ?_)
      · refine px_aload_n dX5_startOf_22 rfl trivial ?_
        refine mm_get dX5_startOf_23 F_RX5_50 rfl ?_
        refine px_iload_n dX5_startOf_26 rfl ?_
        refine mm_ald dX5_startOf_27 rfl (by first | rfl | assumption) (by (try simp only [mr_I2, mr_An, mr_Ae, mr_D2, mr_Rn, mr_Re, mr_T2, ne_eq, Nat.reduceEqDiff, not_false_eq_true]); rfl) (by first | assumption | omega) ?_
        refine px_iret dX5_startOf_28 rfl ?_ (by omega) (by omega)
        exact ⟨by rw [h2], rfl⟩
      · exact absurd h1 h3
    | cons a as ih =>
      intro r hr h
      obtain ⟨r', h1, -, h2, h3, h4⟩ := h
      refine px_aload_n dX5_startOf_2 rfl trivial ?_
      refine mm_get dX5_startOf_3 F_RX5_47 rfl ?_
      refine px_iload_n dX5_startOf_6 rfl ?_
      refine mm_ald_o dX5_startOf_7 rfl (by first | rfl | assumption) (by (try simp only [mr_I2, mr_An, mr_Ae, mr_D2, mr_Rn, mr_Re, mr_T2, ne_eq, Nat.reduceEqDiff, not_false_eq_true]); rfl) (by first | assumption | omega) ?_
      refine px_iconst (v := -1) dX5_startOf_8 (by decide) ?_
      refine pn_icmp_eq (tgt := 22) dX5_startOf_9 (by decide) (px_o_no (by omega)) (fun h5 => ?_) (fun h5 => ?_)
      · omega
      · refine px_aload_n dX5_startOf_12 rfl trivial ?_
        refine mm_get dX5_startOf_13 F_RX5_47 rfl ?_
        refine px_iload_n dX5_startOf_16 rfl ?_
        refine mm_ald_o dX5_startOf_17 rfl (by first | rfl | assumption) (by (try simp only [mr_I2, mr_An, mr_Ae, mr_D2, mr_Rn, mr_Re, mr_T2, ne_eq, Nat.reduceEqDiff, not_false_eq_true]); rfl) (by first | assumption | omega) ?_
        rw [h2]
        refine px_istore_n dX5_startOf_18 (by decide) ?_
        refine px_goto (tgt := 2) dX5_startOf_19 (by decide) ?_
        exact px_sub (ih r' (by omega) h4) rfl
  refine px_iload_n dX5_startOf_0 rfl ?_
  refine px_istore_n dX5_startOf_1 (by decide) ?_
  exact px_sub (loop as r hr h) rfl
def px_fil : List Nat → (Nat → Nat) → (Nat → Nat)
  | [], f => f
  | a :: as, f => px_fil as (px_upN f as.length a)
theorem px_fil_ge : ∀ (as : List Nat) (f : Nat → Nat) (k : Nat), as.length ≤ k → px_fil as f k = f k := by
  intro as
  induction as with
  | nil => intro f k _; rfl
  | cons a as ih =>
    intro f k h
    have h' : as.length + 1 ≤ k := h
    show px_fil as (px_upN f as.length a) k = f k
    rw [ih _ k (by omega)]
    exact if_neg (by omega)
theorem px_fil_get : ∀ (as : List Nat) (f : Nat → Nat) (k : Nat), k < as.length → as.reverse[k]? = some (px_fil as f k) := by
  intro as
  induction as with
  | nil => intro f k h; exact absurd h (Nat.not_lt_zero _)
  | cons a as ih =>
    intro f k h
    have h' : k < as.length + 1 := h
    show _ = some (px_fil as (px_upN f as.length a) k)
    rw [List.reverse_cons]
    by_cases e : k < as.length
    · rw [List.getElem?_append_left (by rw [List.length_reverse]; exact e), ih _ k e]
    · have e' : k = as.length := by omega
      subst e'
      rw [List.getElem?_append_right (by rw [List.length_reverse]; exact Nat.le_refl _), px_fil_ge as _ _ (Nat.le_refl _)]
      show _ = some (if as.length = as.length then a else _)
      rw [if_pos rfl, List.length_reverse, Nat.sub_self]; rfl
theorem mm_row.R {s : mm_S} {i : Nat} {k : Nat} {f : Nat → Nat} (hk : 26 ≤ k) : ∀ (as : List Nat) (r : Nat), mm_row (mm_R s k f) i as r ↔ mm_row s i as r := by
  have h3 : (mm_R s k f).2.1 3 = s.2.1 3 := mr_Rn s f (by omega)
  have h18 : (mm_R s k f).2.1 18 = s.2.1 18 := mr_Rn s f (by omega)
  have h19 : (mm_R s k f).2.1 19 = s.2.1 19 := mr_Rn s f (by omega)
  intro as
  induction as with
  | nil =>
    intro r
    show ((mm_R s k f).2.1 18 r = 0 ∧ (mm_R s k f).2.1 19 r = i) ↔ _
    rw [h18, h19]; exact Iff.rfl
  | cons a as ih =>
    intro r
    show (∃ r', r' < 26400 ∧ r' / 440 = (mm_R s k f).2.1 3 a ∧ (mm_R s k f).2.1 18 r = r' + 1 ∧ (mm_R s k f).2.1 19 r = a ∧ mm_row (mm_R s k f) i as r') ↔ _
    rw [h3, h18, h19]
    exact exists_congr fun r' => and_congr Iff.rfl (and_congr Iff.rfl (and_congr Iff.rfl (and_congr Iff.rfl (ih r'))))
set_option maxRecDepth 100000 in
set_option maxHeartbeats 4000000 in
theorem me_unroll1 (s : mm_S) (X : px_M) (i r : Nat) (as : List Nat) (hr : r ≤ 26400) (h : mm_row s i as r) (hl : as.length ≤ 64) (ha : ∀ a ∈ as, a < 150) : px_Met 0 0 0 mX5_unroll [.inr (1, 0), .inl (.int (nI r)), .inl (.int (nI 1))] (mm_M s X) (px_rt (some (.inl (.int (nI as.length)))) (mm_M (mm_R s 27 (px_fil as (s.2.1 27))) X)) := by
  refine px_ofW (by decide) W_mX5_unroll (Nat.le_of_ble_eq_true rfl) ?_
  have loop2 : ∀ (cs : List Nat) (r : Nat) (f : Nat → Nat), r ≤ 26400 → mm_row s i cs r → cs.length ≤ 64 → (∀ a ∈ cs, a < 150) → px_fil cs f = px_fil as (s.2.1 27) → px_W 0 0 0 mX5_unroll (px_rt (some (.inl (.int (nI as.length)))) (mm_M (mm_R s 27 (px_fil as (s.2.1 27))) X)) 37 [(0, .inr (1, 0)), (2, .inl (.int (nI 1))), (3, .inl (.int (nI as.length))), (4, .inl (.int (nI r))), (5, .inl (.int (nI cs.length)))] [] (mm_M (mm_R s 27 f) X) 0 0 := by
    intro cs
    induction cs with
    | nil =>
      intro r f hr h hl ha hf
      obtain ⟨h1, h2⟩ := h
      refine px_aload_n dX5_unroll_37 rfl trivial ?_
      refine mm_get dX5_unroll_38 F_RX5_47 rfl ?_
      refine px_iload dX5_unroll_41 rfl ?_
      refine mm_ald_o dX5_unroll_43 rfl (by first | rfl | assumption) (by (try simp only [mr_I2, mr_An, mr_Ae, mr_D2, mr_Rn, mr_Re, mr_T2, ne_eq, Nat.reduceEqDiff, not_false_eq_true]); rfl) (by first | assumption | omega) ?_
      refine px_iconst (v := -1) dX5_unroll_44 (by decide) ?_
      refine pn_icmp_eq (tgt := 98) dX5_unroll_45 (by decide) (px_o_no (by omega)) (fun h3 => ?_) (fun h3 => ?_)
      · refine px_iload_n dX5_unroll_98 rfl ?_
        refine px_iret dX5_unroll_99 rfl ?_ (by omega) (by omega)
        exact ⟨rfl, by rw [← hf]; rfl⟩
      · exact absurd h1 h3
    | cons a cs ih =>
      intro r f hr h hl ha hf
      obtain ⟨r', h1, -, h2, h3, h4⟩ := h
      have hl' : cs.length + 1 ≤ 64 := hl
      have a1 := ha a List.mem_cons_self
      refine px_aload_n dX5_unroll_37 rfl trivial ?_
      refine mm_get dX5_unroll_38 F_RX5_47 rfl ?_
      refine px_iload dX5_unroll_41 rfl ?_
      refine mm_ald_o dX5_unroll_43 rfl (by first | rfl | assumption) (by (try simp only [mr_I2, mr_An, mr_Ae, mr_D2, mr_Rn, mr_Re, mr_T2, ne_eq, Nat.reduceEqDiff, not_false_eq_true]); rfl) (by first | assumption | omega) ?_
      refine px_iconst (v := -1) dX5_unroll_44 (by decide) ?_
      refine pn_icmp_eq (tgt := 98) dX5_unroll_45 (by decide) (px_o_no (by omega)) (fun h5 => ?_) (fun h5 => ?_)
      · omega
      · have e1 : nI (a :: cs).length + Int32.ofInt (-1) = nI cs.length := by
          show nI (cs.length + 1) + Int32.ofInt (-1) = nI cs.length
          exact pk_m1 _
        refine px_iinc dX5_unroll_48 rfl e1 (by decide) ?_
        refine px_iload_n dX5_unroll_51 rfl ?_
        refine pn_if_eq (tgt := 72) dX5_unroll_52 (by decide) (pn_z (by omega)) (fun h6 => ?_) (fun h6 => ?_)
        · exact absurd h6 (by decide)
        refine px_aload_n dX5_unroll_55 rfl trivial ?_
        refine mm_get dX5_unroll_56 F_RX5_69 rfl ?_
        refine px_iload dX5_unroll_59 rfl ?_
        refine px_aload_n dX5_unroll_61 rfl trivial ?_
        refine mm_get dX5_unroll_62 F_RX5_50 rfl ?_
        refine px_iload dX5_unroll_65 rfl ?_
        refine mm_ald dX5_unroll_67 rfl (by first | rfl | assumption) (by (try simp only [mr_I2, mr_An, mr_Ae, mr_D2, mr_Rn, mr_Re, mr_T2, ne_eq, Nat.reduceEqDiff, not_false_eq_true]); rfl) (by first | assumption | omega) ?_
        refine mm_ast dX5_unroll_68 rfl (by first | rfl | assumption) (by first | rfl | assumption) (by first | assumption | omega) ?_
        refine px_goto (tgt := 86) dX5_unroll_69 (by decide) ?_
        rw [mr_RA]
        refine px_aload_n dX5_unroll_86 rfl trivial ?_
        refine mm_get dX5_unroll_87 F_RX5_47 rfl ?_
        refine px_iload dX5_unroll_90 rfl ?_
        refine mm_ald_o dX5_unroll_92 rfl (by first | rfl | assumption) (by (try simp only [mr_I2, mr_An, mr_Ae, mr_D2, mr_Rn, mr_Re, mr_T2, ne_eq, Nat.reduceEqDiff, not_false_eq_true]); rfl) (by first | assumption | omega) ?_
        rw [h2]
        refine px_istore dX5_unroll_93 (by decide) ?_
        refine px_goto (tgt := 37) dX5_unroll_95 (by decide) ?_
        refine px_sub (ih r' (px_upN f cs.length (s.2.1 19 r)) (by omega) h4 (by omega) (fun c hc => ha c (List.mem_cons_of_mem _ hc)) ?_) rfl
        rw [← hf, h3]; rfl
        
  have loop1 : ∀ (cs : List Nat) (q n : Nat), q ≤ 26400 → mm_row s i cs q → n + cs.length = as.length → px_W 0 0 0 mX5_unroll (px_rt (some (.inl (.int (nI as.length)))) (mm_M (mm_R s 27 (px_fil as (s.2.1 27))) X)) 5 [(0, .inr (1, 0)), (1, .inl (.int (nI r))), (2, .inl (.int (nI 1))), (3, .inl (.int (nI n))), (4, .inl (.int (nI q)))] [] (mm_M s X) 0 0 := by
    intro cs
    induction cs with
    | nil =>
      intro q n hq h e
      obtain ⟨h1, h2⟩ := h
      have e' : n = as.length := e
      subst e'
      refine px_aload_n dX5_unroll_5 rfl trivial ?_
      refine mm_get dX5_unroll_6 F_RX5_47 rfl ?_
      refine px_iload dX5_unroll_9 rfl ?_
      refine mm_ald_o dX5_unroll_11 rfl (by first | rfl | assumption) (by (try simp only [mr_I2, mr_An, mr_Ae, mr_D2, mr_Rn, mr_Re, mr_T2, ne_eq, Nat.reduceEqDiff, not_false_eq_true]); rfl) (by first | assumption | omega) ?_
      refine px_iconst (v := -1) dX5_unroll_12 (by decide) ?_
      refine pn_icmp_eq (tgt := 31) dX5_unroll_13 (by decide) (px_o_no (by omega)) (fun h3 => ?_) (fun h3 => ?_)
      · refine px_iload_n dX5_unroll_31 rfl ?_
        refine px_istore dX5_unroll_32 (by decide) ?_
        refine px_iload_n dX5_unroll_34 rfl ?_
        refine px_istore dX5_unroll_35 (by decide) ?_
        have := loop2 as r (s.2.1 27) hr ‹_› hl ha rfl
        rw [mr_R0] at this
        exact px_sub this rfl
      · exact absurd h1 h3
    | cons a cs ih =>
      intro q n hq h e
      obtain ⟨r', h1, -, h2, h3, h4⟩ := h
      have e' : n + (cs.length + 1) = as.length := e
      refine px_aload_n dX5_unroll_5 rfl trivial ?_
      refine mm_get dX5_unroll_6 F_RX5_47 rfl ?_
      refine px_iload dX5_unroll_9 rfl ?_
      refine mm_ald_o dX5_unroll_11 rfl (by first | rfl | assumption) (by (try simp only [mr_I2, mr_An, mr_Ae, mr_D2, mr_Rn, mr_Re, mr_T2, ne_eq, Nat.reduceEqDiff, not_false_eq_true]); rfl) (by first | assumption | omega) ?_
      refine px_iconst (v := -1) dX5_unroll_12 (by decide) ?_
      refine pn_icmp_eq (tgt := 31) dX5_unroll_13 (by decide) (px_o_no (by omega)) (fun h5 => ?_) (fun h5 => ?_)
      · omega
      · refine px_iinc dX5_unroll_16 rfl (pn_i1 _) (by decide) ?_
        refine px_aload_n dX5_unroll_19 rfl trivial ?_
        refine mm_get dX5_unroll_20 F_RX5_47 rfl ?_
        refine px_iload dX5_unroll_23 rfl ?_
        refine mm_ald_o dX5_unroll_25 rfl (by first | rfl | assumption) (by (try simp only [mr_I2, mr_An, mr_Ae, mr_D2, mr_Rn, mr_Re, mr_T2, ne_eq, Nat.reduceEqDiff, not_false_eq_true]); rfl) (by first | assumption | omega) ?_
        rw [h2]
        refine px_istore dX5_unroll_26 (by decide) ?_
        refine px_goto (tgt := 5) dX5_unroll_28 (by decide) ?_
        exact px_sub (ih r' (n + 1) (by omega) h4 (by omega)) rfl
  refine px_iconst (v := nI 0) dX5_unroll_0 (by decide) ?_
  refine px_istore_n dX5_unroll_1 (by decide) ?_
  refine px_iload_n dX5_unroll_2 rfl ?_
  refine px_istore dX5_unroll_3 (by decide) ?_
  exact px_sub (loop1 as r 0 hr h (Nat.zero_add _)) rfl
set_option maxRecDepth 100000 in
set_option maxHeartbeats 4000000 in
theorem me_unroll0 (s : mm_S) (X : px_M) (i r : Nat) (as : List Nat) (hr : r ≤ 26400) (h : mm_row s i as r) (hl : as.length ≤ 64) (ha : ∀ a ∈ as, a < 150) : px_Met 0 0 0 mX5_unroll [.inr (1, 0), .inl (.int (nI r)), .inl (.int (nI 0))] (mm_M s X) (px_rt (some (.inl (.int (nI as.length)))) (mm_M (mm_R s 28 (px_fil as (s.2.1 28))) X)) := by
  refine px_ofW (by decide) W_mX5_unroll (Nat.le_of_ble_eq_true rfl) ?_
  have loop2 : ∀ (cs : List Nat) (r : Nat) (f : Nat → Nat), r ≤ 26400 → mm_row s i cs r → cs.length ≤ 64 → (∀ a ∈ cs, a < 150) → px_fil cs f = px_fil as (s.2.1 28) → px_W 0 0 0 mX5_unroll (px_rt (some (.inl (.int (nI as.length)))) (mm_M (mm_R s 28 (px_fil as (s.2.1 28))) X)) 37 [(0, .inr (1, 0)), (2, .inl (.int (nI 0))), (3, .inl (.int (nI as.length))), (4, .inl (.int (nI r))), (5, .inl (.int (nI cs.length)))] [] (mm_M (mm_R s 28 f) X) 0 0 := by
    intro cs
    induction cs with
    | nil =>
      intro r f hr h hl ha hf
      obtain ⟨h1, h2⟩ := h
      refine px_aload_n dX5_unroll_37 rfl trivial ?_
      refine mm_get dX5_unroll_38 F_RX5_47 rfl ?_
      refine px_iload dX5_unroll_41 rfl ?_
      refine mm_ald_o dX5_unroll_43 rfl (by first | rfl | assumption) (by (try simp only [mr_I2, mr_An, mr_Ae, mr_D2, mr_Rn, mr_Re, mr_T2, ne_eq, Nat.reduceEqDiff, not_false_eq_true]); rfl) (by first | assumption | omega) ?_
      refine px_iconst (v := -1) dX5_unroll_44 (by decide) ?_
      refine pn_icmp_eq (tgt := 98) dX5_unroll_45 (by decide) (px_o_no (by omega)) (fun h3 => ?_) (fun h3 => ?_)
      · refine px_iload_n dX5_unroll_98 rfl ?_
        refine px_iret dX5_unroll_99 rfl ?_ (by omega) (by omega)
        exact ⟨rfl, by rw [← hf]; rfl⟩
      · exact absurd h1 h3
    | cons a cs ih =>
      intro r f hr h hl ha hf
      obtain ⟨r', h1, -, h2, h3, h4⟩ := h
      have hl' : cs.length + 1 ≤ 64 := hl
      have a1 := ha a List.mem_cons_self
      refine px_aload_n dX5_unroll_37 rfl trivial ?_
      refine mm_get dX5_unroll_38 F_RX5_47 rfl ?_
      refine px_iload dX5_unroll_41 rfl ?_
      refine mm_ald_o dX5_unroll_43 rfl (by first | rfl | assumption) (by (try simp only [mr_I2, mr_An, mr_Ae, mr_D2, mr_Rn, mr_Re, mr_T2, ne_eq, Nat.reduceEqDiff, not_false_eq_true]); rfl) (by first | assumption | omega) ?_
      refine px_iconst (v := -1) dX5_unroll_44 (by decide) ?_
      refine pn_icmp_eq (tgt := 98) dX5_unroll_45 (by decide) (px_o_no (by omega)) (fun h5 => ?_) (fun h5 => ?_)
      · omega
      · have e1 : nI (a :: cs).length + Int32.ofInt (-1) = nI cs.length := by
          show nI (cs.length + 1) + Int32.ofInt (-1) = nI cs.length
          exact pk_m1 _
        refine px_iinc dX5_unroll_48 rfl e1 (by decide) ?_
        refine px_iload_n dX5_unroll_51 rfl ?_
        refine pn_if_eq (tgt := 72) dX5_unroll_52 (by decide) (pn_z (by omega)) (fun h6 => ?_) (fun h6 => ?_)
        rotate_left
        · exact absurd rfl h6
        refine px_aload_n dX5_unroll_72 rfl trivial ?_
        refine mm_get dX5_unroll_73 F_RX5_72 rfl ?_
        refine px_iload dX5_unroll_76 rfl ?_
        refine px_aload_n dX5_unroll_78 rfl trivial ?_
        refine mm_get dX5_unroll_79 F_RX5_50 rfl ?_
        refine px_iload dX5_unroll_82 rfl ?_
        refine mm_ald dX5_unroll_84 rfl (by first | rfl | assumption) (by (try simp only [mr_I2, mr_An, mr_Ae, mr_D2, mr_Rn, mr_Re, mr_T2, ne_eq, Nat.reduceEqDiff, not_false_eq_true]); rfl) (by first | assumption | omega) ?_
        refine mm_ast dX5_unroll_85 rfl (by first | rfl | assumption) (by first | rfl | assumption) (by first | assumption | omega) ?_
        rw [mr_RA]
        refine px_aload_n dX5_unroll_86 rfl trivial ?_
        refine mm_get dX5_unroll_87 F_RX5_47 rfl ?_
        refine px_iload dX5_unroll_90 rfl ?_
        refine mm_ald_o dX5_unroll_92 rfl (by first | rfl | assumption) (by (try simp only [mr_I2, mr_An, mr_Ae, mr_D2, mr_Rn, mr_Re, mr_T2, ne_eq, Nat.reduceEqDiff, not_false_eq_true]); rfl) (by first | assumption | omega) ?_
        rw [h2]
        refine px_istore dX5_unroll_93 (by decide) ?_
        refine px_goto (tgt := 37) dX5_unroll_95 (by decide) ?_
        refine px_sub (ih r' (px_upN f cs.length (s.2.1 19 r)) (by omega) h4 (by omega) (fun c hc => ha c (List.mem_cons_of_mem _ hc)) ?_) rfl
        rw [← hf, h3]; rfl
        
  have loop1 : ∀ (cs : List Nat) (q n : Nat), q ≤ 26400 → mm_row s i cs q → n + cs.length = as.length → px_W 0 0 0 mX5_unroll (px_rt (some (.inl (.int (nI as.length)))) (mm_M (mm_R s 28 (px_fil as (s.2.1 28))) X)) 5 [(0, .inr (1, 0)), (1, .inl (.int (nI r))), (2, .inl (.int (nI 0))), (3, .inl (.int (nI n))), (4, .inl (.int (nI q)))] [] (mm_M s X) 0 0 := by
    intro cs
    induction cs with
    | nil =>
      intro q n hq h e
      obtain ⟨h1, h2⟩ := h
      have e' : n = as.length := e
      subst e'
      refine px_aload_n dX5_unroll_5 rfl trivial ?_
      refine mm_get dX5_unroll_6 F_RX5_47 rfl ?_
      refine px_iload dX5_unroll_9 rfl ?_
      refine mm_ald_o dX5_unroll_11 rfl (by first | rfl | assumption) (by (try simp only [mr_I2, mr_An, mr_Ae, mr_D2, mr_Rn, mr_Re, mr_T2, ne_eq, Nat.reduceEqDiff, not_false_eq_true]); rfl) (by first | assumption | omega) ?_
      refine px_iconst (v := -1) dX5_unroll_12 (by decide) ?_
      refine pn_icmp_eq (tgt := 31) dX5_unroll_13 (by decide) (px_o_no (by omega)) (fun h3 => ?_) (fun h3 => ?_)
      · refine px_iload_n dX5_unroll_31 rfl ?_
        refine px_istore dX5_unroll_32 (by decide) ?_
        refine px_iload_n dX5_unroll_34 rfl ?_
        refine px_istore dX5_unroll_35 (by decide) ?_
        have := loop2 as r (s.2.1 28) hr ‹_› hl ha rfl
        rw [mr_R0] at this
        exact px_sub this rfl
      · exact absurd h1 h3
    | cons a cs ih =>
      intro q n hq h e
      obtain ⟨r', h1, -, h2, h3, h4⟩ := h
      have e' : n + (cs.length + 1) = as.length := e
      refine px_aload_n dX5_unroll_5 rfl trivial ?_
      refine mm_get dX5_unroll_6 F_RX5_47 rfl ?_
      refine px_iload dX5_unroll_9 rfl ?_
      refine mm_ald_o dX5_unroll_11 rfl (by first | rfl | assumption) (by (try simp only [mr_I2, mr_An, mr_Ae, mr_D2, mr_Rn, mr_Re, mr_T2, ne_eq, Nat.reduceEqDiff, not_false_eq_true]); rfl) (by first | assumption | omega) ?_
      refine px_iconst (v := -1) dX5_unroll_12 (by decide) ?_
      refine pn_icmp_eq (tgt := 31) dX5_unroll_13 (by decide) (px_o_no (by omega)) (fun h5 => ?_) (fun h5 => ?_)
      · omega
      · refine px_iinc dX5_unroll_16 rfl (pn_i1 _) (by decide) ?_
        refine px_aload_n dX5_unroll_19 rfl trivial ?_
        refine mm_get dX5_unroll_20 F_RX5_47 rfl ?_
        refine px_iload dX5_unroll_23 rfl ?_
        refine mm_ald_o dX5_unroll_25 rfl (by first | rfl | assumption) (by (try simp only [mr_I2, mr_An, mr_Ae, mr_D2, mr_Rn, mr_Re, mr_T2, ne_eq, Nat.reduceEqDiff, not_false_eq_true]); rfl) (by first | assumption | omega) ?_
        rw [h2]
        refine px_istore dX5_unroll_26 (by decide) ?_
        refine px_goto (tgt := 5) dX5_unroll_28 (by decide) ?_
        exact px_sub (ih r' (n + 1) (by omega) h4 (by omega)) rfl
  refine px_iconst (v := nI 0) dX5_unroll_0 (by decide) ?_
  refine px_istore_n dX5_unroll_1 (by decide) ?_
  refine px_iload_n dX5_unroll_2 rfl ?_
  refine px_istore dX5_unroll_3 (by decide) ?_
  exact px_sub (loop1 as r 0 hr h (Nat.zero_add _)) rfl
