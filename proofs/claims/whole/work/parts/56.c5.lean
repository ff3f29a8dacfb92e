/-! ===== the class's methods that only read ===== -/
theorem px_o_lt {a b : Nat} (ha : a < 2 ^ 31) (hb : b < 2 ^ 31) : px_o a < px_o b ↔ a < b := by
  cases a with
  | zero =>
    cases b with
    | zero => exact ⟨fun h => absurd h (by decide), fun h => by omega⟩
    | succ b =>
      refine ⟨fun _ => by omega, fun _ => ?_⟩
      show (-1 : Int32) < nI b
      rw [Int32.lt_iff_toInt_lt, nI_toInt (by omega)]
      have : (-1 : Int32).toInt = -1 := by decide
      omega
  | succ a =>
    cases b with
    | zero =>
      refine ⟨fun h => ?_, fun h => by omega⟩
      have h' : nI a < (-1 : Int32) := h
      rw [Int32.lt_iff_toInt_lt, nI_toInt (by omega)] at h'
      have : (-1 : Int32).toInt = -1 := by decide
      omega
    | succ b =>
      show nI a < nI b ↔ _
      rw [nI_ltI (by omega) (by omega)]; omega
theorem px_o_le {a b : Nat} (ha : a < 2 ^ 31) (hb : b < 2 ^ 31) : px_o a ≤ px_o b ↔ a ≤ b := by
  have h1 := px_o_lt (a := b) (b := a) hb ha
  rw [← Int32.not_lt, h1]; omega
theorem px_o_neg {a : Nat} (ha : a < 2 ^ 31) : px_o a < 0 ↔ a = 0 := by
  cases a with
  | zero => exact ⟨fun _ => rfl, fun _ => by decide⟩
  | succ a =>
    refine ⟨fun h => absurd h (nI_pos (by omega)), fun h => by omega⟩
/-- a list of steps, of pins -/
abbrev c3 (L : List Nat) : List px_R := L.map fun n => ((3, n) : px_R)
abbrev c2 (L : List Nat) : List px_R := L.map fun n => ((2, n) : px_R)
theorem c3_get {L : List Nat} {i n : Nat} (h : L[i]? = some n) : (c3 L)[i]? = some (3, n) := by rw [List.getElem?_map, h]; rfl
theorem c2_get {L : List Nat} {i n : Nat} (h : L[i]? = some n) : (c2 L)[i]? = some (2, n) := by rw [List.getElem?_map, h]; rfl
def cInp (u : cc_U) (L : List Nat) (p b : Nat) : Prop := cn u 2 p 2 = b ∧ ∃ n ∈ L, cn u 2 (cn u 3 n 1) 2 ≠ b
def cOut (u : cc_U) (L : List Nat) (p b : Nat) : Prop := cn u 2 p 2 = b ∧ ∃ n ∈ L, cn u 2 (cn u 3 n 2) 2 ≠ b
set_option maxRecDepth 100000 in
set_option maxHeartbeats 4000000 in
theorem ce_isInput {u : cc_U} {X : px_M} (hX : c9 X) {p b : Nat} {L : List Nat} (hp : cx u 2 p) (hq : cx u 12 p) (hL : cl u 12 p = c3 L) (hl : L.length ≤ 200) (hs : ∀ n ∈ L, cx u 3 n ∧ cx u 2 (cn u 3 n 1) ∧ cn u 2 (cn u 3 n 1) 2 ≤ 60) (hb : b ≤ 60) (hb2 : cn u 2 p 2 ≤ 60) : px_Met 3 0 0 mX4_isInput [.inr (2, p), .inl (.int (px_o b))] (cc_M u X) (px_rt (some (.inl (.int (nI (px_ch (cInp u L p b)))))) (cc_M u X)) := by
  refine px_ofW (by decide) W_mX4_isInput (Nat.le_of_ble_eq_true rfl) ?_
  have loop : ∀ (m i : Nat), i + m = L.length → cn u 2 p 2 = b → (∀ j n, j < i → L[j]? = some n → cn u 2 (cn u 3 n 1) 2 = b) → px_W 3 0 0 mX4_isInput (px_rt (some (.inl (.int (nI (px_ch (cInp u L p b)))))) (cc_M u X)) 12 [(0, .inr (2, p)), (1, .inl (.int (px_o b))), (2, .inl (.int (nI i)))] [] (cc_M u X) 0 0 := by
    intro m
    induction m with
    | zero =>
      intro i h1 h2 h3
      refine px_iload_n dX4_isInput_12 rfl ?_
      refine px_aload_n dX4_isInput_13 rfl trivial ?_
      refine px_getf dX4_isInput_14 F_RX4_123 (cc_pin (by first | assumption | (simp only [cxN, cxZ, cxS, cxL, cxR]; assumption))) (by rfl) ?_
      refine px_callVr (cl_size rfl (by first | assumption | (simp only [cxN, cxZ, cxS, cxL, cxR]; assumption)) hX) dX4_isInput_17 L_RX4_70 (cc_rcL rfl (by first | assumption | (simp only [cxN, cxZ, cxS, cxL, cxR]; assumption))) rfl rfl (by decide) (by omega) (by omega) (Nat.le_of_ble_eq_true rfl) ?_
      rw [hL, List.length_map]
      refine pn_icmp_ge (tgt := 52) dX4_isInput_20 (by decide) (nI_leI (by omega) (by omega)) (fun h7 => ?_) (fun h7 => ?_)
      · refine px_iconst (v := nI 0) dX4_isInput_52 (by decide) ?_
        refine px_zret dX4_isInput_53 rfl (by first | decide | assumption) ?_ (by omega) (by omega)
        refine ⟨?_, rfl⟩
        rw [px_ch_0]
        rintro ⟨-, n, g1, g2⟩
        obtain ⟨j, hj⟩ := List.getElem?_of_mem g1
        exact g2 (h3 j n (by have := (List.getElem?_eq_some_iff.mp hj).1; omega) hj)
      · omega
    | succ m ih =>
      intro i h1 h2 h3
      obtain ⟨n, hn⟩ : ∃ n, L[i]? = some n := ⟨_, List.getElem?_eq_getElem (by omega)⟩
      have hm := List.mem_of_getElem? hn
      obtain ⟨s1, s2, s3⟩ := hs n hm
      unfold cn at s2 s3
      refine px_iload_n dX4_isInput_12 rfl ?_
      refine px_aload_n dX4_isInput_13 rfl trivial ?_
      refine px_getf dX4_isInput_14 F_RX4_123 (cc_pin (by first | assumption | (simp only [cxN, cxZ, cxS, cxL, cxR]; assumption))) (by rfl) ?_
      refine px_callVr (cl_size rfl (by first | assumption | (simp only [cxN, cxZ, cxS, cxL, cxR]; assumption)) hX) dX4_isInput_17 L_RX4_70 (cc_rcL rfl (by first | assumption | (simp only [cxN, cxZ, cxS, cxL, cxR]; assumption))) rfl rfl (by decide) (by omega) (by omega) (Nat.le_of_ble_eq_true rfl) ?_
      rw [hL, List.length_map]
      refine pn_icmp_ge (tgt := 52) dX4_isInput_20 (by decide) (nI_leI (by omega) (by omega)) (fun h7 => ?_) (fun h7 => ?_)
      · omega
      refine px_aload_n dX4_isInput_23 rfl trivial ?_
      refine px_getf dX4_isInput_24 F_RX4_123 (cc_pin (by first | assumption | (simp only [cxN, cxZ, cxS, cxL, cxR]; assumption))) (by rfl) ?_
      refine px_iload_n dX4_isInput_27 rfl ?_
      refine px_callVr (cl_get (x := (3, n)) (by rw [hL]; exact c3_get hn) rfl (by first | assumption | (simp only [cxN, cxZ, cxS, cxL, cxR]; assumption)) hX) dX4_isInput_28 L_RX4_98 (cc_rcL rfl (by first | assumption | (simp only [cxN, cxZ, cxS, cxL, cxR]; assumption))) rfl rfl (by decide) (by omega) (by omega) (Nat.le_of_ble_eq_true rfl) ?_
      refine px_cast dX4_isInput_31 (cc_step (by first | assumption | (simp only [cxN, cxZ, cxS, cxL, cxR]; assumption))) rfl K_RX4_115 ?_
      refine px_getf dX4_isInput_34 F_RX4_241 (cc_step (by first | assumption | (simp only [cxN, cxZ, cxS, cxL, cxR]; assumption))) (by rfl) ?_
      refine px_getf dX4_isInput_37 F_RX4_183 (cc_pin (by first | assumption | (simp only [cxN, cxZ, cxS, cxL, cxR]; assumption))) (by rfl) ?_
      refine px_iload_n dX4_isInput_40 rfl ?_
      refine pn_icmp_eq (tgt := 46) dX4_isInput_41 (by decide) (px_o_eq (by omega) (by omega)) (fun h8 => ?_) (fun h8 => ?_)
      · refine px_iinc dX4_isInput_46 rfl (pn_i1 _) (by decide) ?_
        refine px_goto (tgt := 12) dX4_isInput_49 (by decide) ?_
        refine px_sub (ih (i + 1) (by omega) h2 fun j n' g1 g2 => ?_) rfl
        rcases Nat.lt_or_ge j i with g3 | g3
        · exact h3 j n' g3 g2
        · obtain rfl : j = i := by omega
          obtain rfl : n' = n := Option.some.inj (g2.symm.trans hn)
          exact h8
      · refine px_iconst (v := nI 1) dX4_isInput_44 (by decide) ?_
        refine px_zret dX4_isInput_45 rfl (by first | decide | assumption) ?_ (by omega) (by omega)
        refine ⟨?_, rfl⟩
        rw [px_ch_1]
        exact ⟨h2, n, hm, h8⟩
  unfold cn at hb2
  refine px_aload_n dX4_isInput_0 rfl trivial ?_
  refine px_getf dX4_isInput_1 F_RX4_183 (cc_pin (by first | assumption | (simp only [cxN, cxZ, cxS, cxL, cxR]; assumption))) (by rfl) ?_
  refine px_iload_n dX4_isInput_4 rfl ?_
  refine pn_icmp_eq (tgt := 10) dX4_isInput_5 (by decide) (px_o_eq (by omega) (by omega)) (fun h7 => ?_) (fun h7 => ?_)
  · refine px_iconst (v := nI 0) dX4_isInput_10 (by decide) ?_
    refine px_istore_n dX4_isInput_11 (by decide) ?_
    exact px_sub (loop L.length 0 (by omega) h7 fun j n g => absurd g (by omega)) rfl
  · refine px_iconst (v := nI 0) dX4_isInput_8 (by decide) ?_
    refine px_zret dX4_isInput_9 rfl (by first | decide | assumption) ?_ (by omega) (by omega)
    refine ⟨?_, rfl⟩
    rw [px_ch_0]
    exact fun z => h7 z.1
set_option maxRecDepth 100000 in
set_option maxHeartbeats 4000000 in
theorem ce_isOutput {u : cc_U} {X : px_M} (hX : c9 X) {p b : Nat} {L : List Nat} (hp : cx u 2 p) (hq : cx u 13 p) (hL : cl u 13 p = c3 L) (hl : L.length ≤ 200) (hs : ∀ n ∈ L, cx u 3 n ∧ cx u 2 (cn u 3 n 2) ∧ cn u 2 (cn u 3 n 2) 2 ≤ 60) (hb : b ≤ 60) (hb2 : cn u 2 p 2 ≤ 60) : px_Met 3 0 0 mX4_isOutput [.inr (2, p), .inl (.int (px_o b))] (cc_M u X) (px_rt (some (.inl (.int (nI (px_ch (cOut u L p b)))))) (cc_M u X)) := by
  refine px_ofW (by decide) W_mX4_isOutput (Nat.le_of_ble_eq_true rfl) ?_
  have loop : ∀ (m i : Nat), i + m = L.length → cn u 2 p 2 = b → (∀ j n, j < i → L[j]? = some n → cn u 2 (cn u 3 n 2) 2 = b) → px_W 3 0 0 mX4_isOutput (px_rt (some (.inl (.int (nI (px_ch (cOut u L p b)))))) (cc_M u X)) 12 [(0, .inr (2, p)), (1, .inl (.int (px_o b))), (2, .inl (.int (nI i)))] [] (cc_M u X) 0 0 := by
    intro m
    induction m with
    | zero =>
      intro i h1 h2 h3
      refine px_iload_n dX4_isOutput_12 rfl ?_
      refine px_aload_n dX4_isOutput_13 rfl trivial ?_
      refine px_getf dX4_isOutput_14 F_RX4_120 (cc_pin (by first | assumption | (simp only [cxN, cxZ, cxS, cxL, cxR]; assumption))) (by rfl) ?_
      refine px_callVr (cl_size rfl (by first | assumption | (simp only [cxN, cxZ, cxS, cxL, cxR]; assumption)) hX) dX4_isOutput_17 L_RX4_70 (cc_rcL rfl (by first | assumption | (simp only [cxN, cxZ, cxS, cxL, cxR]; assumption))) rfl rfl (by decide) (by omega) (by omega) (Nat.le_of_ble_eq_true rfl) ?_
      rw [hL, List.length_map]
      refine pn_icmp_ge (tgt := 52) dX4_isOutput_20 (by decide) (nI_leI (by omega) (by omega)) (fun h7 => ?_) (fun h7 => ?_)
      · refine px_iconst (v := nI 0) dX4_isOutput_52 (by decide) ?_
        refine px_zret dX4_isOutput_53 rfl (by first | decide | assumption) ?_ (by omega) (by omega)
        refine ⟨?_, rfl⟩
        rw [px_ch_0]
        rintro ⟨-, n, g1, g2⟩
        obtain ⟨j, hj⟩ := List.getElem?_of_mem g1
        exact g2 (h3 j n (by have := (List.getElem?_eq_some_iff.mp hj).1; omega) hj)
      · omega
    | succ m ih =>
      intro i h1 h2 h3
      obtain ⟨n, hn⟩ : ∃ n, L[i]? = some n := ⟨_, List.getElem?_eq_getElem (by omega)⟩
      have hm := List.mem_of_getElem? hn
      obtain ⟨s1, s2, s3⟩ := hs n hm
      unfold cn at s2 s3
      refine px_iload_n dX4_isOutput_12 rfl ?_
      refine px_aload_n dX4_isOutput_13 rfl trivial ?_
      refine px_getf dX4_isOutput_14 F_RX4_120 (cc_pin (by first | assumption | (simp only [cxN, cxZ, cxS, cxL, cxR]; assumption))) (by rfl) ?_
      refine px_callVr (cl_size rfl (by first | assumption | (simp only [cxN, cxZ, cxS, cxL, cxR]; assumption)) hX) dX4_isOutput_17 L_RX4_70 (cc_rcL rfl (by first | assumption | (simp only [cxN, cxZ, cxS, cxL, cxR]; assumption))) rfl rfl (by decide) (by omega) (by omega) (Nat.le_of_ble_eq_true rfl) ?_
      rw [hL, List.length_map]
      refine pn_icmp_ge (tgt := 52) dX4_isOutput_20 (by decide) (nI_leI (by omega) (by omega)) (fun h7 => ?_) (fun h7 => ?_)
      · omega
      refine px_aload_n dX4_isOutput_23 rfl trivial ?_
      refine px_getf dX4_isOutput_24 F_RX4_120 (cc_pin (by first | assumption | (simp only [cxN, cxZ, cxS, cxL, cxR]; assumption))) (by rfl) ?_
      refine px_iload_n dX4_isOutput_27 rfl ?_
      refine px_callVr (cl_get (x := (3, n)) (by rw [hL]; exact c3_get hn) rfl (by first | assumption | (simp only [cxN, cxZ, cxS, cxL, cxR]; assumption)) hX) dX4_isOutput_28 L_RX4_98 (cc_rcL rfl (by first | assumption | (simp only [cxN, cxZ, cxS, cxL, cxR]; assumption))) rfl rfl (by decide) (by omega) (by omega) (Nat.le_of_ble_eq_true rfl) ?_
      refine px_cast dX4_isOutput_31 (cc_step (by first | assumption | (simp only [cxN, cxZ, cxS, cxL, cxR]; assumption))) rfl K_RX4_115 ?_
      refine px_getf dX4_isOutput_34 F_RX4_191 (cc_step (by first | assumption | (simp only [cxN, cxZ, cxS, cxL, cxR]; assumption))) (by rfl) ?_
      refine px_getf dX4_isOutput_37 F_RX4_183 (cc_pin (by first | assumption | (simp only [cxN, cxZ, cxS, cxL, cxR]; assumption))) (by rfl) ?_
      refine px_iload_n dX4_isOutput_40 rfl ?_
      refine pn_icmp_eq (tgt := 46) dX4_isOutput_41 (by decide) (px_o_eq (by omega) (by omega)) (fun h8 => ?_) (fun h8 => ?_)
      · refine px_iinc dX4_isOutput_46 rfl (pn_i1 _) (by decide) ?_
        refine px_goto (tgt := 12) dX4_isOutput_49 (by decide) ?_
        refine px_sub (ih (i + 1) (by omega) h2 fun j n' g1 g2 => ?_) rfl
        rcases Nat.lt_or_ge j i with g3 | g3
        · exact h3 j n' g3 g2
        · obtain rfl : j = i := by omega
          obtain rfl : n' = n := Option.some.inj (g2.symm.trans hn)
          exact h8
      · refine px_iconst (v := nI 1) dX4_isOutput_44 (by decide) ?_
        refine px_zret dX4_isOutput_45 rfl (by first | decide | assumption) ?_ (by omega) (by omega)
        refine ⟨?_, rfl⟩
        rw [px_ch_1]
        exact ⟨h2, n, hm, h8⟩
  unfold cn at hb2
  refine px_aload_n dX4_isOutput_0 rfl trivial ?_
  refine px_getf dX4_isOutput_1 F_RX4_183 (cc_pin (by first | assumption | (simp only [cxN, cxZ, cxS, cxL, cxR]; assumption))) (by rfl) ?_
  refine px_iload_n dX4_isOutput_4 rfl ?_
  refine pn_icmp_eq (tgt := 10) dX4_isOutput_5 (by decide) (px_o_eq (by omega) (by omega)) (fun h7 => ?_) (fun h7 => ?_)
  · refine px_iconst (v := nI 0) dX4_isOutput_10 (by decide) ?_
    refine px_istore_n dX4_isOutput_11 (by decide) ?_
    exact px_sub (loop L.length 0 (by omega) h7 fun j n g => absurd g (by omega)) rfl
  · refine px_iconst (v := nI 0) dX4_isOutput_8 (by decide) ?_
    refine px_zret dX4_isOutput_9 rfl (by first | decide | assumption) ?_ (by omega) (by omega)
    refine ⟨?_, rfl⟩
    rw [px_ch_0]
    exact fun z => h7 z.1
/-- the place of an order's pin -/
def cPo (u : cc_U) (j : Nat) : Nat := match cn u 14 7 j with
  | 0 => 0
  | p + 1 => cn u 2 p 0
def cThr (u : cc_U) (N : Nat) : Prop := cx u 14 0 ∧ cx u 14 1 ∧ cx u 14 7 ∧ cl u 14 1 = c2 (List.range N) ∧ N ≤ 60 ∧ (∀ p, p < N → cx u 2 p ∧ cn u 2 p 0 ≤ 100) ∧ ∀ j, j < 10 → cn u 14 7 j ≤ N
theorem cPo_le {u : cc_U} {N : Nat} (h : cThr u N) {j : Nat} (hj : j < 10) : cPo u j ≤ 100 := by
  have h1 := h.2.2.2.2.2.2 j hj
  unfold cPo
  split
  · omega
  · rename_i p hp
    exact (h.2.2.2.2.2.1 p (by omega)).2
set_option maxRecDepth 100000 in
set_option maxHeartbeats 4000000 in
theorem ce_po {u : cc_U} {X : px_M} (hX : c9 X) {N j : Nat} (h : cThr u N) (hj : j < 10) : px_Met 3 0 0 mX4_placeOfOrder [.inr (14, 0), .inl (.int (nI j))] (cc_M u X) (px_rt (some (.inl (.int (px_o (cPo u j))))) (cc_M u X)) := by
  refine px_ofW (by decide) W_mX4_placeOfOrder (Nat.le_of_ble_eq_true rfl) ?_
  obtain ⟨h0, h1, h7, hL, hN, hp, ht⟩ := h
  have ht' := ht j hj
  refine px_aload_n dX4_placeOfOrder_0 rfl trivial ?_
  refine px_getf dX4_placeOfOrder_1 F_RX4_31 (cc_obj (by first | assumption | (simp only [cxN, cxZ, cxS, cxL, cxR]; assumption))) (by rfl) ?_
  refine px_iload_n dX4_placeOfOrder_4 rfl ?_
  refine ca_thr dX4_placeOfOrder_5 (by first | assumption | (simp only [cxN, cxZ, cxS, cxL, cxR]; assumption)) (by first | rfl | assumption) (by first | assumption | omega) ?_
  refine px_istore_n dX4_placeOfOrder_6 (by decide) ?_
  unfold cPo
  cases e : cn u 14 7 j with
  | zero =>
    refine px_iload_n dX4_placeOfOrder_7 rfl ?_
    refine pn_if_lt (tgt := 39) dX4_placeOfOrder_8 (by decide) (px_o_neg (by omega)) (fun h8 => ?_) (fun h8 => ?_)
    · refine px_iconst (v := -1) dX4_placeOfOrder_39 (by decide) ?_
      refine px_iret dX4_placeOfOrder_40 rfl ?_ (by omega) (by omega)
      exact ⟨rfl, rfl⟩
    · exact absurd rfl h8
  | succ p =>
    rw [e] at ht'
    obtain ⟨p1, p2⟩ := hp p (by omega)
    refine px_iload_n dX4_placeOfOrder_7 rfl ?_
    refine pn_if_lt (tgt := 39) dX4_placeOfOrder_8 (by decide) (px_o_neg (by omega)) (fun h8 => ?_) (fun h8 => ?_)
    · omega
    refine px_iload_n dX4_placeOfOrder_11 rfl ?_
    refine px_aload_n dX4_placeOfOrder_12 rfl trivial ?_
    refine px_getf dX4_placeOfOrder_13 F_RX4_12 (cc_obj (by first | assumption | (simp only [cxN, cxZ, cxS, cxL, cxR]; assumption))) (by rfl) ?_
    refine px_callVr (cl_size rfl (by first | assumption | (simp only [cxN, cxZ, cxS, cxL, cxR]; assumption)) hX) dX4_placeOfOrder_16 L_RX4_70 (cc_rcL rfl (by first | assumption | (simp only [cxN, cxZ, cxS, cxL, cxR]; assumption))) rfl rfl (by decide) (by omega) (by omega) (Nat.le_of_ble_eq_true rfl) ?_
    rw [hL, List.length_map, List.length_range, show px_o (p + 1) = nI p from rfl]
    refine pn_icmp_ge (tgt := 39) dX4_placeOfOrder_19 (by decide) (nI_leI (by omega) (by omega)) (fun h9 => ?_) (fun h9 => ?_)
    · omega
    refine px_aload_n dX4_placeOfOrder_22 rfl trivial ?_
    refine px_getf dX4_placeOfOrder_23 F_RX4_12 (cc_obj (by first | assumption | (simp only [cxN, cxZ, cxS, cxL, cxR]; assumption))) (by rfl) ?_
    refine px_iload_n dX4_placeOfOrder_26 rfl ?_
    refine px_callVr (cl_get (x := (2, p)) (by rw [hL]; exact c2_get (by rw [List.getElem?_range (by omega)])) rfl (by first | assumption | (simp only [cxN, cxZ, cxS, cxL, cxR]; assumption)) hX) dX4_placeOfOrder_27 L_RX4_98 (cc_rcL rfl (by first | assumption | (simp only [cxN, cxZ, cxS, cxL, cxR]; assumption))) rfl rfl (by decide) (by omega) (by omega) (Nat.le_of_ble_eq_true rfl) ?_
    refine px_cast dX4_placeOfOrder_30 (cc_pin (by first | assumption | (simp only [cxN, cxZ, cxS, cxL, cxR]; assumption))) rfl K_RX4_35 ?_
    refine px_getf dX4_placeOfOrder_33 F_RX4_235 (cc_pin (by first | assumption | (simp only [cxN, cxZ, cxS, cxL, cxR]; assumption))) (by rfl) ?_
    refine px_goto (tgt := 40) dX4_placeOfOrder_36 (by decide) ?_
    refine px_iret dX4_placeOfOrder_40 rfl ?_ (by omega) (by omega)
    exact ⟨rfl, rfl⟩
/-- the orders' pins stand by rising places -/
def cRis (u : cc_U) : Prop := ∀ i j, i < j → j < 10 → cPo u i ≠ 0 → cPo u j ≠ 0 → cPo u i ≤ cPo u j
set_option maxRecDepth 100000 in
set_option maxHeartbeats 4000000 in
theorem ce_rises {u : cc_U} {X : px_M} (hX : c9 X) {N : Nat} (h : cThr u N) : px_Met 4 0 0 mX4_throughRises [.inr (14, 0)] (cc_M u X) (px_rt (some (.inl (.int (nI (px_ch (cRis u)))))) (cc_M u X)) := by
  refine px_ofW (by decide) W_mX4_throughRises (Nat.le_of_ble_eq_true rfl) ?_
  have h0 := h.1
  have tail : ∀ (m k hi : Nat), k + m = 10 → (∀ i, i < k → cPo u i ≤ hi) → (hi ≠ 0 → ∃ i, i < k ∧ cPo u i = hi) → (∀ i j, i < j → j < k → cPo u i ≠ 0 → cPo u j ≠ 0 → cPo u i ≤ cPo u j) → hi ≤ 100 →
      px_W 4 0 0 mX4_throughRises (px_rt (some (.inl (.int (nI (px_ch (cRis u)))))) (cc_M u X)) 4 [(0, .inr (14, 0)), (1, .inl (.int (px_o hi))), (2, .inl (.int (nI k)))] [] (cc_M u X) 0 0 := by
    intro m
    induction m with
    | zero =>
      intro k hi hk a1 a2 a3 a4
      refine px_iload_n dX4_throughRises_4 rfl ?_
      refine px_bipush (v := nI 10) dX4_throughRises_5 (by decide) ?_
      refine pn_icmp_ge (tgt := 45) dX4_throughRises_7 (by decide) (nI_leI (by omega) (by omega)) (fun h7 => ?_) (fun h7 => ?_)
      · refine px_iconst (v := nI 1) dX4_throughRises_45 (by decide) ?_
        refine px_zret dX4_throughRises_46 rfl (by first | decide | assumption) ?_ (by omega) (by omega)
        refine ⟨?_, rfl⟩
        rw [px_ch_1]
        exact fun i j g1 g2 => a3 i j g1 (by omega)
      · omega
    | succ m ih =>
      intro k hi hk a1 a2 a3 a4
      have hpo := cPo_le h (j := k) (by omega)
      refine px_iload_n dX4_throughRises_4 rfl ?_
      refine px_bipush (v := nI 10) dX4_throughRises_5 (by decide) ?_
      refine pn_icmp_ge (tgt := 45) dX4_throughRises_7 (by decide) (nI_leI (by omega) (by omega)) (fun h7 => ?_) (fun h7 => ?_)
      · omega
      refine px_aload_n dX4_throughRises_10 rfl trivial ?_
      refine px_iload_n dX4_throughRises_11 rfl ?_
      refine px_callVr (ce_po hX h (by omega)) dX4_throughRises_12 L_RX4_238 (cc_rc4 (by first | assumption | (simp only [cxN, cxZ, cxS, cxL, cxR]; assumption))) rfl rfl (by decide) (by omega) (by omega) (Nat.le_of_ble_eq_true rfl) ?_
      refine px_istore_n dX4_throughRises_15 (by decide) ?_
      refine px_iload_n dX4_throughRises_16 rfl ?_
      refine px_iconst (v := -1) dX4_throughRises_17 (by decide) ?_
      refine pn_icmp_eq (tgt := 28) dX4_throughRises_18 (by decide) (px_o_no (by omega)) (fun h8 => ?_) (fun h8 => ?_)
      · refine px_iload_n dX4_throughRises_28 rfl ?_
        refine px_iconst (v := -1) dX4_throughRises_29 (by decide) ?_
        refine pn_icmp_ne (tgt := 37) dX4_throughRises_30 (by decide) (px_o_no (by omega)) (fun h9 => ?_) (fun h9 => ?_)
        · exact absurd h8 h9
        · refine px_iload_n dX4_throughRises_33 rfl ?_
          refine px_goto (tgt := 38) dX4_throughRises_34 (by decide) ?_
          refine px_istore_n dX4_throughRises_38 (by decide) ?_
          refine px_iinc dX4_throughRises_39 rfl (pn_i1 _) (by decide) ?_
          refine px_goto (tgt := 4) dX4_throughRises_42 (by decide) ?_
          refine px_sub (ih (k + 1) hi (by omega) (fun i g => ?_) (fun g => ?_) (fun i j g1 g2 g3 g4 => ?_) a4) rfl
          · rcases Nat.lt_or_ge i k with g5 | g5
            · exact a1 i g5
            · obtain rfl : i = k := by omega
              omega
          · obtain ⟨i, g1, g2⟩ := a2 g
            exact ⟨i, by omega, g2⟩
          · rcases Nat.lt_or_ge j k with g5 | g5
            · exact a3 i j g1 g5 g3 g4
            · obtain rfl : j = k := by omega
              omega
      · refine px_iload_n dX4_throughRises_21 rfl ?_
        refine px_iload_n dX4_throughRises_22 rfl ?_
        refine pn_icmp_ge (tgt := 28) dX4_throughRises_23 (by decide) (px_o_le (by omega) (by omega)) (fun h9 => ?_) (fun h9 => ?_)
        · refine px_iload_n dX4_throughRises_28 rfl ?_
          refine px_iconst (v := -1) dX4_throughRises_29 (by decide) ?_
          refine pn_icmp_ne (tgt := 37) dX4_throughRises_30 (by decide) (px_o_no (by omega)) (fun h10 => ?_) (fun h10 => ?_)
          · refine px_iload_n dX4_throughRises_37 rfl ?_
            refine px_istore_n dX4_throughRises_38 (by decide) ?_
            refine px_iinc dX4_throughRises_39 rfl (pn_i1 _) (by decide) ?_
            refine px_goto (tgt := 4) dX4_throughRises_42 (by decide) ?_
            refine px_sub (ih (k + 1) (cPo u k) (by omega) (fun i g => ?_) (fun g => ⟨k, by omega, rfl⟩) (fun i j g1 g2 g3 g4 => ?_) hpo) rfl
            · rcases Nat.lt_or_ge i k with g5 | g5
              · exact Nat.le_trans (a1 i g5) h9
              · obtain rfl : i = k := by omega
                exact Nat.le_refl _
            · rcases Nat.lt_or_ge j k with g5 | g5
              · exact a3 i j g1 g5 g3 g4
              · obtain rfl : j = k := by omega
                exact Nat.le_trans (a1 i g1) h9
          · exact absurd h10 h8
        · refine px_iconst (v := nI 0) dX4_throughRises_26 (by decide) ?_
          refine px_zret dX4_throughRises_27 rfl (by first | decide | assumption) ?_ (by omega) (by omega)
          refine ⟨?_, rfl⟩
          rw [px_ch_0]
          intro z
          obtain ⟨i, g1, g2⟩ := a2 (by omega)
          have := z i k g1 (by omega) (by omega) h8
          omega
  refine px_iconst (v := -1) dX4_throughRises_0 (by decide) ?_
  refine px_istore_n dX4_throughRises_1 (by decide) ?_
  refine px_iconst (v := nI 0) dX4_throughRises_2 (by decide) ?_
  refine px_istore_n dX4_throughRises_3 (by decide) ?_
  exact px_sub (tail 10 0 0 (by omega) (fun i g => absurd g (by omega)) (fun g => absurd rfl g) (fun i j g1 g2 => absurd g2 (by omega)) (by omega)) rfl
/-- a step leaves out an order's pin -/
def cLv (u : cc_U) (n : Nat) : Prop := ∃ j, j < 10 ∧ cPo u j ≠ 0 ∧ cn u 2 (cn u 3 n 1) 0 < cPo u j ∧ cPo u j < cn u 2 (cn u 3 n 2) 0
set_option maxRecDepth 100000 in
set_option maxHeartbeats 4000000 in
theorem ce_leaves {u : cc_U} {X : px_M} (hX : c9 X) {N n : Nat} (h : cThr u N) (hn : cx u 3 n) (h1 : cx u 2 (cn u 3 n 1)) (h2 : cx u 2 (cn u 3 n 2)) (b1 : cn u 2 (cn u 3 n 1) 0 ≤ 100) (b2 : cn u 2 (cn u 3 n 2) 0 ≤ 100) : px_Met 4 0 0 mX4_leavesOut [.inr (14, 0), .inr (3, n)] (cc_M u X) (px_rt (some (.inl (.int (nI (px_ch (cLv u n)))))) (cc_M u X)) := by
  refine px_ofW (by decide) W_mX4_leavesOut (Nat.le_of_ble_eq_true rfl) ?_
  have h0 := h.1
  have loop : ∀ (m k : Nat), k + m = 10 → (∀ j, j < k → ¬ (cPo u j ≠ 0 ∧ cn u 2 (cn u 3 n 1) 0 < cPo u j ∧ cPo u j < cn u 2 (cn u 3 n 2) 0)) → px_W 4 0 0 mX4_leavesOut (px_rt (some (.inl (.int (nI (px_ch (cLv u n)))))) (cc_M u X)) 2 [(0, .inr (14, 0)), (1, .inr (3, n)), (2, .inl (.int (nI k)))] [] (cc_M u X) 0 0 := by
    intro m
    induction m with
    | zero =>
      intro k hk a1
      refine px_iload_n dX4_leavesOut_2 rfl ?_
      refine px_bipush (v := nI 10) dX4_leavesOut_3 (by decide) ?_
      refine pn_icmp_ge (tgt := 49) dX4_leavesOut_5 (by decide) (nI_leI (by omega) (by omega)) (fun h7 => ?_) (fun h7 => ?_)
      · refine px_iconst (v := nI 0) dX4_leavesOut_49 (by decide) ?_
        refine px_zret dX4_leavesOut_50 rfl (by first | decide | assumption) ?_ (by omega) (by omega)
        refine ⟨?_, rfl⟩
        rw [px_ch_0]
        rintro ⟨j, g1, g2⟩
        exact a1 j (by omega) g2
      · omega
    | succ m ih =>
      intro k hk a1
      have hpo := cPo_le h (j := k) (by omega)
      have ext : ¬ (cPo u k ≠ 0 ∧ cn u 2 (cn u 3 n 1) 0 < cPo u k ∧ cPo u k < cn u 2 (cn u 3 n 2) 0) → ∀ j, j < k + 1 → ¬ (cPo u j ≠ 0 ∧ cn u 2 (cn u 3 n 1) 0 < cPo u j ∧ cPo u j < cn u 2 (cn u 3 n 2) 0) := fun g j g1 => by
        rcases Nat.lt_or_ge j k with g5 | g5
        · exact a1 j g5
        · obtain rfl : j = k := by omega
          exact g
      have h1' := h1
      have h2' := h2
      have b1' := b1
      have b2' := b2
      unfold cn at h1' h2' b1' b2'
      refine px_iload_n dX4_leavesOut_2 rfl ?_
      refine px_bipush (v := nI 10) dX4_leavesOut_3 (by decide) ?_
      refine pn_icmp_ge (tgt := 49) dX4_leavesOut_5 (by decide) (nI_leI (by omega) (by omega)) (fun h7 => ?_) (fun h7 => ?_)
      · omega
      refine px_aload_n dX4_leavesOut_8 rfl trivial ?_
      refine px_iload_n dX4_leavesOut_9 rfl ?_
      refine px_callVr (ce_po hX h (by omega)) dX4_leavesOut_10 L_RX4_238 (cc_rc4 (by first | assumption | (simp only [cxN, cxZ, cxS, cxL, cxR]; assumption))) rfl rfl (by decide) (by omega) (by omega) (Nat.le_of_ble_eq_true rfl) ?_
      refine px_istore_n dX4_leavesOut_13 (by decide) ?_
      refine px_iload_n dX4_leavesOut_14 rfl ?_
      refine px_iconst (v := -1) dX4_leavesOut_15 (by decide) ?_
      refine pn_icmp_eq (tgt := 43) dX4_leavesOut_16 (by decide) (px_o_no (by omega)) (fun h8 => ?_) (fun h8 => ?_)
      · refine px_iinc dX4_leavesOut_43 rfl (pn_i1 _) (by decide) ?_
        refine px_goto (tgt := 2) dX4_leavesOut_46 (by decide) ?_
        exact px_sub (ih (k + 1) (by omega) (ext fun z => z.1 h8)) rfl
      refine px_aload_n dX4_leavesOut_19 rfl trivial ?_
      refine px_getf dX4_leavesOut_20 F_RX4_241 (cc_step (by first | assumption | (simp only [cxN, cxZ, cxS, cxL, cxR]; assumption))) (by rfl) ?_
      refine px_getf dX4_leavesOut_23 F_RX4_235 (cc_pin (by first | assumption | (simp only [cxN, cxZ, cxS, cxL, cxR]; assumption))) (by rfl) ?_
      refine px_iload_n dX4_leavesOut_26 rfl ?_
      refine pn_icmp_ge (tgt := 43) dX4_leavesOut_27 (by decide) (px_o_le (by omega) (by omega)) (fun h9 => ?_) (fun h9 => ?_)
      · refine px_iinc dX4_leavesOut_43 rfl (pn_i1 _) (by decide) ?_
        refine px_goto (tgt := 2) dX4_leavesOut_46 (by decide) ?_
        exact px_sub (ih (k + 1) (by omega) (ext fun z => Nat.not_lt.mpr h9 z.2.1)) rfl
      refine px_iload_n dX4_leavesOut_30 rfl ?_
      refine px_aload_n dX4_leavesOut_31 rfl trivial ?_
      refine px_getf dX4_leavesOut_32 F_RX4_191 (cc_step (by first | assumption | (simp only [cxN, cxZ, cxS, cxL, cxR]; assumption))) (by rfl) ?_
      refine px_getf dX4_leavesOut_35 F_RX4_235 (cc_pin (by first | assumption | (simp only [cxN, cxZ, cxS, cxL, cxR]; assumption))) (by rfl) ?_
      refine pn_icmp_ge (tgt := 43) dX4_leavesOut_38 (by decide) (px_o_le (by omega) (by omega)) (fun h10 => ?_) (fun h10 => ?_)
      · refine px_iinc dX4_leavesOut_43 rfl (pn_i1 _) (by decide) ?_
        refine px_goto (tgt := 2) dX4_leavesOut_46 (by decide) ?_
        exact px_sub (ih (k + 1) (by omega) (ext fun z => Nat.not_lt.mpr h10 z.2.2)) rfl
      refine px_iconst (v := nI 1) dX4_leavesOut_41 (by decide) ?_
      refine px_zret dX4_leavesOut_42 rfl (by first | decide | assumption) ?_ (by omega) (by omega)
      refine ⟨?_, rfl⟩
      rw [px_ch_1]
      exact ⟨k, by omega, h8, Nat.lt_of_not_le h9, Nat.lt_of_not_le h10⟩
  refine px_iconst (v := nI 0) dX4_leavesOut_0 (by decide) ?_
  refine px_istore_n dX4_leavesOut_1 (by decide) ?_
  exact px_sub (loop 10 0 (by omega) fun j g => absurd g (by omega)) rfl
