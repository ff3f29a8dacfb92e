/-! ===== spread, placeReachedLast, countReachedOutputs ===== -/
/-- a pin and its steps out, as the walks want them -/
def cOk (u : cc_U) (OL : Nat → List Nat) (p : Nat) : Prop := cx u 2 p ∧ cx u 13 p ∧ cl u 13 p = c3 (OL p) ∧ (OL p).length ≤ 200 ∧ cn u 2 p 2 ≤ 60 ∧ ∀ n ∈ OL p, cx u 3 n ∧ cx u 2 (cn u 3 n 2) ∧ cn u 2 (cn u 3 n 2) 2 ≤ 60 ∧ cn u 3 n 2 ≠ p ∧ (cz u 3 n 0).natAbs ≤ 2 ^ 30
set_option maxRecDepth 100000 in
set_option maxHeartbeats 4000000 in
theorem ce_spread {u : cc_U} {X : px_M} (hX : c9 X) {N p0 b : Nat} {O : List Nat} {OL : Nat → List Nat} (g : Nat → Int) (I : Nat → (Nat → Int) → Prop) (h0 : cx u 14 0) (h1 : cx u 14 1) (h6 : cx u 14 6) (hP : cl u 14 1 = c2 (List.range N)) (hO : cl u 14 6 = c2 O) (hN : N ≤ 60) (hOl : O.length ≤ 60) (hpn : ∀ p, p < N → cx u 2 p) (hOm : ∀ p ∈ O, cOk u OL p) (hp0 : cx u 2 p0) (hb : b ≤ 60)
    (hI0 : I 0 (px_upN (fun q => if q < N then -8 else g q) p0 0)) (hst : ∀ i p f, O[i]? = some p → I i f → I (i + 1) (if 0 ≤ f p then cFur u b (f p) (OL p) f else f)) (hbd : ∀ i f, I i f → ∀ q, (f q).natAbs ≤ 2 ^ 32) :
    px_Met 4 0 0 mX4_spread [.inr (14, 0), .inr (2, p0), .inl (.int (px_o b))] (cc_M (cG u g) X) (fun o M' => o = .inl none ∧ ∃ f, I O.length f ∧ M' = cc_M (cG u f) X) := by
  refine px_ofW (by decide) W_mX4_spread (Nat.le_of_ble_eq_true rfl) ?_
  have l2 : ∀ (m i : Nat) (f : Nat → Int), i + m = O.length → I i f → px_W 4 0 0 mX4_spread (fun o M' => o = .inl none ∧ ∃ f, I O.length f ∧ M' = cc_M (cG u f) X) 43 [(0, .inr (14, 0)), (2, .inl (.int (px_o b))), (3, .inl (.int (nI i)))] [] (cc_M (cG u f) X) 0 0 := by
    intro m
    induction m with
    | zero =>
      intro i f e1 e2
      have k0 := (cxG u f 14 0).mpr h0
      have k6 := (cxG u f 14 6).mpr h6
      refine px_iload_n dX4_spread_43 rfl ?_
      refine px_aload_n dX4_spread_44 rfl trivial ?_
      refine px_getf dX4_spread_45 F_RX4_28 (cc_obj (by first | assumption | (simp only [cxN, cxZ, cxS, cxL, cxR]; assumption))) (by rfl) ?_
      refine px_callVr (cl_size rfl (by first | assumption | (simp only [cxN, cxZ, cxS, cxL, cxR]; assumption)) hX) dX4_spread_48 L_RX4_70 (cc_rcL rfl (by first | assumption | (simp only [cxN, cxZ, cxS, cxL, cxR]; assumption))) rfl rfl (by decide) (by omega) (by omega) (Nat.le_of_ble_eq_true rfl) ?_
      rw [clG, hO, List.length_map]
      refine pn_icmp_ge (tgt := 90) dX4_spread_51 (by decide) (nI_leI (by omega) (by omega)) (fun h7 => ?_) (fun h7 => ?_)
      · refine px_vret dX4_spread_90 rfl ?_ (by omega) (by omega)
        obtain rfl : i = O.length := by omega
        exact ⟨rfl, f, e2, rfl⟩
      · omega
    | succ m ih =>
      intro i f e1 e2
      obtain ⟨p, hp⟩ : ∃ p, O[i]? = some p := ⟨_, List.getElem?_eq_getElem (by omega)⟩
      obtain ⟨q1, q2, q3, q4, q5, q6⟩ := hOm p (List.mem_of_getElem? hp)
      have ih1 := ih (i + 1) _ (by omega) (hst i p f hp e2)
      have k0 := (cxG u f 14 0).mpr h0
      have k6 := (cxG u f 14 6).mpr h6
      have k2 := (cxG u f 2 p).mpr q1
      have fb := hbd i f e2
      have fbp := fb p
      refine px_iload_n dX4_spread_43 rfl ?_
      refine px_aload_n dX4_spread_44 rfl trivial ?_
      refine px_getf dX4_spread_45 F_RX4_28 (cc_obj (by first | assumption | (simp only [cxN, cxZ, cxS, cxL, cxR]; assumption))) (by rfl) ?_
      refine px_callVr (cl_size rfl (by first | assumption | (simp only [cxN, cxZ, cxS, cxL, cxR]; assumption)) hX) dX4_spread_48 L_RX4_70 (cc_rcL rfl (by first | assumption | (simp only [cxN, cxZ, cxS, cxL, cxR]; assumption))) rfl rfl (by decide) (by omega) (by omega) (Nat.le_of_ble_eq_true rfl) ?_
      rw [clG, hO, List.length_map]
      refine pn_icmp_ge (tgt := 90) dX4_spread_51 (by decide) (nI_leI (by omega) (by omega)) (fun h7 => ?_) (fun h7 => ?_)
      · omega
      refine px_aload_n dX4_spread_54 rfl trivial ?_
      refine px_getf dX4_spread_55 F_RX4_28 (cc_obj (by first | assumption | (simp only [cxN, cxZ, cxS, cxL, cxR]; assumption))) (by rfl) ?_
      refine px_iload_n dX4_spread_58 rfl ?_
      refine px_callVr (cl_get (x := (2, p)) (by rw [clG, hO]; exact c2_get hp) rfl (by first | assumption | (simp only [cxN, cxZ, cxS, cxL, cxR]; assumption)) hX) dX4_spread_59 L_RX4_98 (cc_rcL rfl (by first | assumption | (simp only [cxN, cxZ, cxS, cxL, cxR]; assumption))) rfl rfl (by decide) (by omega) (by omega) (Nat.le_of_ble_eq_true rfl) ?_
      refine px_cast dX4_spread_62 (cc_pin (by first | assumption | (simp only [cxN, cxZ, cxS, cxL, cxR]; assumption))) rfl K_RX4_35 ?_
      refine px_astore dX4_spread_65 (by decide) trivial ?_
      refine px_aload dX4_spread_67 rfl trivial ?_
      refine px_getf dX4_spread_69 F_RX4_106 (cc_pin (by first | assumption | (simp only [cxN, cxZ, cxS, cxL, cxR]; assumption))) (by rfl) ?_
      rw [show ((cG u f 2 p).2.1 0 : Int) = f p from rfl]
      refine pn_dconst0 dX4_spread_72 ?_
      refine pn_dcmp dX4_spread_73 rfl rfl (by omega) (by omega) ?_
      refine pn_if_lt (tgt := 84) dX4_spread_74 (by decide) (dz_c_lt _ _) (fun h8 => ?_) (fun h8 => ?_)
      · rw [if_neg (by omega)] at ih1
        refine px_iinc dX4_spread_84 rfl (pn_i1 _) (by decide) ?_
        refine px_goto (tgt := 43) dX4_spread_87 (by decide) ?_
        exact px_sub ih1 rfl
      · rw [if_pos (by omega)] at ih1
        refine px_aload_n dX4_spread_77 rfl trivial ?_
        refine px_aload dX4_spread_78 rfl trivial ?_
        refine px_iload_n dX4_spread_80 rfl ?_
        refine px_callVv (ce_further hX f q1 q2 q3 q4 q6 hb (fun q => by have := fb q; omega) fbp h0) dX4_spread_81 L_RX4_232 (cc_rc4 (by first | assumption | (simp only [cxN, cxZ, cxS, cxL, cxR]; assumption))) rfl rfl (by decide) (by omega) (by omega) (Nat.le_of_ble_eq_true rfl) ?_
        refine px_iinc dX4_spread_84 rfl (pn_i1 _) (by decide) ?_
        refine px_goto (tgt := 43) dX4_spread_87 (by decide) ?_
        exact px_sub ih1 rfl
  have l1 : ∀ (m i : Nat), i + m = N → px_W 4 0 0 mX4_spread (fun o M' => o = .inl none ∧ ∃ f, I O.length f ∧ M' = cc_M (cG u f) X) 2 [(0, .inr (14, 0)), (1, .inr (2, p0)), (2, .inl (.int (px_o b))), (3, .inl (.int (nI i)))] [] (cc_M (cG u (fun q => if q < i then -8 else g q)) X) 0 0 := by
    intro m
    induction m with
    | zero =>
      intro i e1
      obtain rfl : i = N := by omega
      have k0 := (cxG u (fun q => if q < i then -8 else g q) 14 0).mpr h0
      have k1 := (cxG u (fun q => if q < i then -8 else g q) 14 1).mpr h1
      have kp := (cxG u (fun q => if q < i then -8 else g q) 2 p0).mpr hp0
      refine px_iload_n dX4_spread_2 rfl ?_
      refine px_aload_n dX4_spread_3 rfl trivial ?_
      refine px_getf dX4_spread_4 F_RX4_12 (cc_obj (by first | assumption | (simp only [cxN, cxZ, cxS, cxL, cxR]; assumption))) (by rfl) ?_
      refine px_callVr (cl_size rfl (by first | assumption | (simp only [cxN, cxZ, cxS, cxL, cxR]; assumption)) hX) dX4_spread_7 L_RX4_70 (cc_rcL rfl (by first | assumption | (simp only [cxN, cxZ, cxS, cxL, cxR]; assumption))) rfl rfl (by decide) (by omega) (by omega) (Nat.le_of_ble_eq_true rfl) ?_
      rw [clG, hP, List.length_map, List.length_range]
      refine pn_icmp_ge (tgt := 36) dX4_spread_10 (by decide) (nI_leI (by omega) (by omega)) (fun h7 => ?_) (fun h7 => ?_)
      · refine px_aload_n dX4_spread_36 rfl trivial ?_
        refine pn_dconst0 dX4_spread_37 ?_
        refine cp_reach dX4_spread_38 F_RX4_106 (by first | assumption | (simp only [cxN, cxZ, cxS, cxL, cxR]; assumption)) (by first | rfl | exact dz_m1) ?_
        rw [cG_Z]
        refine px_iconst (v := nI 0) dX4_spread_41 (by decide) ?_
        refine px_istore_n dX4_spread_42 (by decide) ?_
        exact px_sub (l2 O.length 0 _ (by omega) hI0) rfl
      · omega
    | succ m ih =>
      intro i e1
      have k0 := (cxG u (fun q => if q < i then -8 else g q) 14 0).mpr h0
      have k1 := (cxG u (fun q => if q < i then -8 else g q) 14 1).mpr h1
      have k2 := (cxG u (fun q => if q < i then -8 else g q) 2 i).mpr (hpn i (by omega))
      refine px_iload_n dX4_spread_2 rfl ?_
      refine px_aload_n dX4_spread_3 rfl trivial ?_
      refine px_getf dX4_spread_4 F_RX4_12 (cc_obj (by first | assumption | (simp only [cxN, cxZ, cxS, cxL, cxR]; assumption))) (by rfl) ?_
      refine px_callVr (cl_size rfl (by first | assumption | (simp only [cxN, cxZ, cxS, cxL, cxR]; assumption)) hX) dX4_spread_7 L_RX4_70 (cc_rcL rfl (by first | assumption | (simp only [cxN, cxZ, cxS, cxL, cxR]; assumption))) rfl rfl (by decide) (by omega) (by omega) (Nat.le_of_ble_eq_true rfl) ?_
      rw [clG, hP, List.length_map, List.length_range]
      refine pn_icmp_ge (tgt := 36) dX4_spread_10 (by decide) (nI_leI (by omega) (by omega)) (fun h7 => ?_) (fun h7 => ?_)
      · omega
      refine px_aload_n dX4_spread_13 rfl trivial ?_
      refine px_getf dX4_spread_14 F_RX4_12 (cc_obj (by first | assumption | (simp only [cxN, cxZ, cxS, cxL, cxR]; assumption))) (by rfl) ?_
      refine px_iload_n dX4_spread_17 rfl ?_
      refine px_callVr (cl_get (x := (2, i)) (by rw [clG, hP]; exact c2_get (by rw [List.getElem?_range (by omega)])) rfl (by first | assumption | (simp only [cxN, cxZ, cxS, cxL, cxR]; assumption)) hX) dX4_spread_18 L_RX4_98 (cc_rcL rfl (by first | assumption | (simp only [cxN, cxZ, cxS, cxL, cxR]; assumption))) rfl rfl (by decide) (by omega) (by omega) (Nat.le_of_ble_eq_true rfl) ?_
      refine px_cast dX4_spread_21 (cc_pin (by first | assumption | (simp only [cxN, cxZ, cxS, cxL, cxR]; assumption))) rfl K_RX4_35 ?_
      refine pn_ldc2d dX4_spread_24 D_RX4_189 dz_m1 ?_
      refine cp_reach dX4_spread_27 F_RX4_106 (by first | assumption | (simp only [cxN, cxZ, cxS, cxL, cxR]; assumption)) (by first | rfl | exact dz_m1) ?_
      rw [cG_Z]
      refine px_iinc dX4_spread_30 rfl (pn_i1 _) (by decide) ?_
      refine px_goto (tgt := 2) dX4_spread_33 (by decide) ?_
      have e : px_upN (fun q => if q < i then -8 else g q) i (-8) = fun q => if q < i + 1 then -8 else g q := by
        funext q
        unfold px_upN
        by_cases h1 : q = i
        · rw [if_pos h1, if_pos (by omega)]
        · rw [if_neg h1]
          by_cases h2 : q < i
          · simp only [if_pos h2]; rw [if_pos (by omega)]
          · simp only [if_neg h2]; rw [if_neg (by omega)]
      rw [e]
      exact px_sub (ih (i + 1) (by omega)) rfl
  refine px_iconst (v := nI 0) dX4_spread_0 (by decide) ?_
  refine px_istore_n dX4_spread_1 (by decide) ?_
  have e0 : (fun q => if q < 0 then -8 else g q) = g := funext fun q => if_neg (by omega)
  have := l1 N 0 (by omega)
  rw [e0] at this
  exact px_sub this rfl
/-- the places are h -/
def cP (u : cc_U) (h : Nat → Nat) : cc_U := fun k i => if k = 2 then (px_upN (u 2 i).1 0 (h i), (u 2 i).2) else u k i
section CPW
variable (u : cc_U) (g : Nat → Nat) (k i j : Nat)
theorem cnP (h : ¬ (k = 2 ∧ j = 0)) : cn (cP u g) k i j = cn u k i j := by
  unfold cn cP
  split
  · rename_i e; subst e
    exact if_neg (fun z => h ⟨rfl, z⟩)
  · rfl
theorem cnP2 : cn (cP u g) 2 i 0 = g i := rfl
theorem clP : cl (cP u g) k i = cl u k i := by
  unfold cl cP
  split
  · rename_i h; rw [h]
  · rfl
theorem csP : cs (cP u g) k i j = cs u k i j := by
  unfold cs cP
  split
  · rename_i h; rw [h]
  · rfl
theorem cxP : cx (cP u g) k i ↔ cx u k i := by
  unfold cx cP
  split
  · rename_i h; rw [h]
  · exact Iff.rfl
theorem czP : cz (cP u g) k i j = cz u k i j := by
  unfold cz cP
  split
  · rename_i h; rw [h]
  · rfl
theorem cP_N (q x : Nat) : cN (cP u g) 2 q 0 x = cP u (px_upN g q x) := by
  funext k' i'
  unfold cN cc_set
  by_cases h : k' = 2 ∧ i' = q
  · obtain ⟨rfl, rfl⟩ := h
    rw [if_pos ⟨rfl, rfl⟩]
    unfold cP
    rw [if_pos rfl, if_pos rfl]
    refine Prod.ext (funext fun j => ?_) rfl
    show px_upN (px_upN (u 2 i').1 0 (g i')) 0 x j = px_upN (u 2 i').1 0 (px_upN g i' x i') j
    unfold px_upN
    by_cases hj : j = 0 <;> simp [hj]
  · rw [if_neg h]
    unfold cP
    by_cases h2 : k' = 2
    · subst h2
      have hq : i' ≠ q := fun e => h ⟨rfl, e⟩
      rw [if_pos rfl, if_pos rfl]
      have e : px_upN g q x i' = g i' := if_neg hq
      rw [e]
    · rw [if_neg h2, if_neg h2]
theorem cP_id : cP u (fun p => cn u 2 p 0) = u := by
  funext k' i'
  unfold cP
  split
  · rename_i h
    subst h
    refine Prod.ext (funext fun j => ?_) rfl
    show px_upN (u 2 i').1 0 (cn u 2 i' 0) j = (u 2 i').1 j
    unfold px_upN
    split
    · rename_i hj; rw [hj]; rfl
    · rfl
  · rfl
end CPW
theorem cF_len (U : Nat → Bool) : ∀ T : List Nat, (T.filter U).length + (T.filter fun p => !U p).length = T.length
  | [] => rfl
  | p :: T => by
    have ih := cF_len U T
    cases e : U p with
    | true => simp [e]; omega
    | false => simp [e]; omega
theorem cF_erase {A B S : List Nat} {p : Nat} {i : Nat} (h : A.length + B.length = i) : (A ++ B ++ p :: S).eraseIdx i = A ++ B ++ S := by
  rw [List.eraseIdx_append_of_length_le (by rw [List.length_append]; omega)]
  rw [show i - (A ++ B).length = 0 by rw [List.length_append]; omega]
  rfl
theorem c2_er : ∀ (L : List Nat) (i : Nat), (c2 L).eraseIdx i = c2 (L.eraseIdx i)
  | [], i => by cases i <;> rfl
  | a :: L, 0 => rfl
  | a :: L, i + 1 => congrArg (((2, a) : px_R) :: ·) (c2_er L i)
theorem c2_ins (A B S : List Nat) (p : Nat) : (c2 (A ++ B ++ S)).take A.length ++ (2, p) :: (c2 (A ++ B ++ S)).drop A.length = c2 ((A ++ [p]) ++ B ++ S) := by
  rw [← List.map_take, ← List.map_drop, List.append_assoc, List.take_left, List.drop_left]
  simp
set_option maxRecDepth 100000 in
set_option maxHeartbeats 4000000 in
theorem ce_prl {u : cc_U} {X : px_M} (hX : c9 X) {O : List Nat} (g : Nat → Int) (h0 : cx u 14 0) (h6 : cx u 14 6) (hO : cl u 14 6 = c2 O) (hOl : O.length ≤ 60) (hnd : O.Nodup) (hOm : ∀ p ∈ O, cx u 2 p) (hg : ∀ q, (g q).natAbs ≤ 2 ^ 32) {U : Nat → Bool} (hUp : ∀ p, U p = true ↔ g p < 0) :
    px_Met 7 60 6060 mX4_placeReachedLast [.inr (14, 0)] (cc_M (cG u g) X) (fun o M' => o = .inl none ∧ ∃ h : Nat → Nat, (∀ i p, (O.filter U ++ O.filter (fun p => !U p))[i]? = some p → h p = i + 1) ∧ (∀ p, p ∉ O → h p = cn u 2 p 0) ∧ M' = cc_M (cP (cL (cG u g) 14 6 (c2 (O.filter U ++ O.filter (fun p => !U p)))) h) X) := by
  refine px_ofW (by decide) W_mX4_placeReachedLast (Nat.le_of_ble_eq_true rfl) ?_
  generalize hO' : O.filter U ++ O.filter (fun p => !U p) = O'
  have hl' : O'.length = O.length := by rw [← hO', List.length_append, cF_len]
  have hm' : ∀ p, p ∈ O' → p ∈ O := fun p hp => by
    rw [← hO'] at hp
    rcases List.mem_append.mp hp with h | h <;> exact (List.mem_filter.mp h).1
  have hndO : O'.Nodup := by
    rw [← hO']
    refine List.nodup_append.mpr ⟨hnd.filter _, hnd.filter _, fun a ha b hb e => ?_⟩
    subst e
    have h1 := (List.mem_filter.mp ha).2
    have h2 := (List.mem_filter.mp hb).2
    rw [h1] at h2; cases h2
  -- the second loop
  have l2 : ∀ (v : cc_U) (m i : Nat) (h : Nat → Nat) (k : Nat), cx v 14 0 → cx v 14 6 → cl v 14 6 = c2 O' → (∀ p ∈ O, cx v 2 p) → i + m = O'.length → (∀ j p, j < i → O'[j]? = some p → h p = j + 1) → (∀ p, p ∉ O → h p = cn u 2 p 0) → k ≤ 60 →
      (∀ h : Nat → Nat, (∀ i p, O'[i]? = some p → h p = i + 1) → (∀ p, p ∉ O → h p = cn u 2 p 0) → ∃ h' : Nat → Nat, (∀ i p, O'[i]? = some p → h' p = i + 1) ∧ (∀ p, p ∉ O → h' p = cn u 2 p 0) ∧ cc_M (cP v h) X = cc_M (cP (cL (cG u g) 14 6 (c2 O')) h') X) →
      px_W 7 60 6060 mX4_placeReachedLast (fun o M' => o = .inl none ∧ ∃ h : Nat → Nat, (∀ i p, O'[i]? = some p → h p = i + 1) ∧ (∀ p, p ∉ O → h p = cn u 2 p 0) ∧ M' = cc_M (cP (cL (cG u g) 14 6 (c2 O')) h) X) 65 [(0, .inr (14, 0)), (2, .inl (.int (nI i)))] [] (cc_M (cP v h) X) k (101 * k) := by
    intro v m
    induction m with
    | zero =>
      intro i h k e0 e6 eO eM e1 e2 e3 e4 e5
      have k0 := (cxP v h 14 0).mpr e0
      have k6 := (cxP v h 14 6).mpr e6
      refine px_iload_n dX4_placeReachedLast_65 rfl ?_
      refine px_aload_n dX4_placeReachedLast_66 rfl trivial ?_
      refine px_getf dX4_placeReachedLast_67 F_RX4_28 (cc_obj (by first | assumption | (simp only [cxN, cxZ, cxS, cxL, cxR]; assumption))) (by rfl) ?_
      refine px_callVr (cl_size rfl (by first | assumption | (simp only [cxN, cxZ, cxS, cxL, cxR]; assumption)) hX) dX4_placeReachedLast_70 L_RX4_70 (cc_rcL rfl (by first | assumption | (simp only [cxN, cxZ, cxS, cxL, cxR]; assumption))) rfl rfl (by decide) (by omega) (by omega) (Nat.le_of_ble_eq_true rfl) ?_
      rw [clP, eO, List.length_map]
      refine pn_icmp_ge (tgt := 97) dX4_placeReachedLast_73 (by decide) (nI_leI (by omega) (by omega)) (fun h7 => ?_) (fun h7 => ?_)
      · refine px_vret dX4_placeReachedLast_97 rfl ?_ (by omega) (by omega)
        exact ⟨rfl, e5 h (fun j p hj => e2 j p (by have := (List.getElem?_eq_some_iff.mp hj).1; omega) hj) e3⟩
      · omega
    | succ m ih =>
      intro i h k e0 e6 eO eM e1 e2 e3 e4 e5
      obtain ⟨p, hp⟩ : ∃ p, O'[i]? = some p := ⟨_, List.getElem?_eq_getElem (by omega)⟩
      have hpO := hm' p (List.mem_of_getElem? hp)
      have k0 := (cxP v h 14 0).mpr e0
      have k6 := (cxP v h 14 6).mpr e6
      have k2 := (cxP v h 2 p).mpr (eM p hpO)
      refine px_iload_n dX4_placeReachedLast_65 rfl ?_
      refine px_aload_n dX4_placeReachedLast_66 rfl trivial ?_
      refine px_getf dX4_placeReachedLast_67 F_RX4_28 (cc_obj (by first | assumption | (simp only [cxN, cxZ, cxS, cxL, cxR]; assumption))) (by rfl) ?_
      refine px_callVr (cl_size rfl (by first | assumption | (simp only [cxN, cxZ, cxS, cxL, cxR]; assumption)) hX) dX4_placeReachedLast_70 L_RX4_70 (cc_rcL rfl (by first | assumption | (simp only [cxN, cxZ, cxS, cxL, cxR]; assumption))) rfl rfl (by decide) (by omega) (by omega) (Nat.le_of_ble_eq_true rfl) ?_
      rw [clP, eO, List.length_map]
      refine pn_icmp_ge (tgt := 97) dX4_placeReachedLast_73 (by decide) (nI_leI (by omega) (by omega)) (fun h7 => ?_) (fun h7 => ?_)
      · omega
      refine px_aload_n dX4_placeReachedLast_76 rfl trivial ?_
      refine px_getf dX4_placeReachedLast_77 F_RX4_28 (cc_obj (by first | assumption | (simp only [cxN, cxZ, cxS, cxL, cxR]; assumption))) (by rfl) ?_
      refine px_iload_n dX4_placeReachedLast_80 rfl ?_
      refine px_callVr (cl_get (x := (2, p)) (by rw [clP, eO]; exact c2_get hp) rfl (by first | assumption | (simp only [cxN, cxZ, cxS, cxL, cxR]; assumption)) hX) dX4_placeReachedLast_81 L_RX4_98 (cc_rcL rfl (by first | assumption | (simp only [cxN, cxZ, cxS, cxL, cxR]; assumption))) rfl rfl (by decide) (by omega) (by omega) (Nat.le_of_ble_eq_true rfl) ?_
      refine px_cast dX4_placeReachedLast_84 (cc_pin (by first | assumption | (simp only [cxN, cxZ, cxS, cxL, cxR]; assumption))) rfl K_RX4_35 ?_
      refine px_iload_n dX4_placeReachedLast_87 rfl ?_
      refine cp_place dX4_placeReachedLast_88 F_RX4_235 (by first | assumption | (simp only [cxN, cxZ, cxS, cxL, cxR]; assumption)) (by first | rfl | exact px_o_s _ | exact px_o_n) ?_
      rw [cP_N]
      refine px_iinc dX4_placeReachedLast_91 rfl (pn_i1 _) (by decide) ?_
      refine px_goto (tgt := 65) dX4_placeReachedLast_94 (by decide) ?_
      refine px_sub (ih (i + 1) _ k e0 e6 eO eM (by omega) (fun j q g1 g2 => ?_) (fun q g1 => ?_) e4 e5) rfl
      · unfold px_upN
        by_cases e : q = p
        · subst e
          rw [if_pos rfl]
          have := (List.getElem?_inj (i := i) (by omega) hndO).mp (hp.trans g2.symm)
          omega
        · rw [if_neg e]
          rcases Nat.lt_or_ge j i with g3 | g3
          · exact e2 j q g3 g2
          · obtain rfl : j = i := by omega
            exact absurd (Option.some.inj (g2.symm.trans hp)) e
      · unfold px_upN
        rw [if_neg (fun e => g1 (by rw [e]; exact hpO))]
        exact e3 q g1
  -- the first
  have l1 : ∀ (S T : List Nat) (k : Nat), T ++ S = O → k ≤ T.length → px_W 7 60 6060 mX4_placeReachedLast (fun o M' => o = .inl none ∧ ∃ h : Nat → Nat, (∀ i p, O'[i]? = some p → h p = i + 1) ∧ (∀ p, p ∉ O → h p = cn u 2 p 0) ∧ M' = cc_M (cP (cL (cG u g) 14 6 (c2 O')) h) X) 4 [(0, .inr (14, 0)), (1, .inl (.int (nI (T.filter U).length))), (2, .inl (.int (nI T.length)))] [] (cc_M (cL (cG u g) 14 6 (c2 (T.filter U ++ T.filter (fun p => !U p) ++ S))) X) k (101 * k) := by
    intro S
    induction S with
    | nil =>
      intro T k e1 e2
      rw [List.append_nil] at e1
      subst e1
      rw [hO', List.append_nil]
      have k0 : cx (cL (cG u g) 14 6 (c2 O')) 14 0 := by rw [cxL, cxG]; exact h0
      have k6 : cx (cL (cG u g) 14 6 (c2 O')) 14 6 := by rw [cxL, cxG]; exact h6
      have eL : cl (cL (cG u g) 14 6 (c2 O')) 14 6 = c2 O' := by rw [clL, if_pos ⟨rfl, rfl⟩]
      refine px_iload_n dX4_placeReachedLast_4 rfl ?_
      refine px_aload_n dX4_placeReachedLast_5 rfl trivial ?_
      refine px_getf dX4_placeReachedLast_6 F_RX4_28 (cc_obj (by first | assumption | (simp only [cxN, cxZ, cxS, cxL, cxR]; assumption))) (by rfl) ?_
      refine px_callVr (cl_size rfl (by first | assumption | (simp only [cxN, cxZ, cxS, cxL, cxR]; assumption)) hX) dX4_placeReachedLast_9 L_RX4_70 (cc_rcL rfl (by first | assumption | (simp only [cxN, cxZ, cxS, cxL, cxR]; assumption))) rfl rfl (by decide) (by omega) (by omega) (Nat.le_of_ble_eq_true rfl) ?_
      rw [eL, List.length_map, hl']
      refine pn_icmp_ge (tgt := 63) dX4_placeReachedLast_12 (by decide) (nI_leI (by omega) (by omega)) (fun h7 => ?_) (fun h7 => ?_)
      · refine px_iconst (v := nI 0) dX4_placeReachedLast_63 (by decide) ?_
        refine px_istore_n dX4_placeReachedLast_64 (by decide) ?_
        have := l2 (cL (cG u g) 14 6 (c2 O')) O'.length 0 (fun p => cn (cL (cG u g) 14 6 (c2 O')) 2 p 0) k k0 k6 eL (fun p hp => by rw [cxL, cxG]; exact hOm p hp) (by omega) (fun j p z => absurd z (by omega)) (fun p _ => by rw [cnL, cnG]) (by omega) (fun h a1 a2 => ⟨h, a1, a2, rfl⟩)
        rw [cP_id] at this
        exact px_sub this rfl
      · omega
    | cons p S ih =>
      intro T k e1 e2
      have hTl : T.length < O.length := by rw [← e1]; simp
      have hpO : p ∈ O := by rw [← e1]; simp
      have ih1 := ih (T ++ [p]) (k + 1) (by simp [← e1]) (by simp; omega)
      have ih0 := ih (T ++ [p]) k (by simp [← e1]) (by simp; omega)
      generalize hW : cL (cG u g) 14 6 (c2 (T.filter U ++ T.filter (fun p => !U p) ++ p :: S)) = W
      have eL : cl W 14 6 = c2 (T.filter U ++ T.filter (fun p => !U p) ++ p :: S) := by rw [← hW, clL, if_pos ⟨rfl, rfl⟩]
      have kx : ∀ a b, cx W a b ↔ cx u a b := fun a b => by rw [← hW, cxL, cxG]
      have k0 := (kx 14 0).mpr h0
      have k6 := (kx 14 6).mpr h6
      have k2 := (kx 2 p).mpr (hOm p hpO)
      have kz : cz W 2 p 0 = g p := by rw [← hW, czL]; rfl
      have kz' := kz
      unfold cz at kz'
      have hgp := hg p
      have hlen := cF_len U T
      have eg : (T.filter U ++ T.filter (fun p => !U p) ++ p :: S)[T.length]? = some p := by
        rw [List.getElem?_append_right (by rw [List.length_append]; omega), show T.length - (T.filter U ++ T.filter (fun p => !U p)).length = 0 by rw [List.length_append]; omega]
        rfl
      have hobs : ∀ V : cc_U, (∀ a b, cx V a b ↔ cx u a b) → ∀ L : List Nat, (∀ q ∈ L, q ∈ O) → ∀ y ∈ c2 L, px_obs (cc_M V X) y := fun V hV L hL y hy => by
        obtain ⟨q, hq, rfl⟩ := List.mem_map.mp hy
        exact cc_obs2 ((hV 2 q).mpr (hOm q (hL q hq)))
      have hmem : ∀ q, q ∈ T.filter U ++ T.filter (fun p => !U p) ++ p :: S → q ∈ O := fun q hq => by
        rw [← e1]
        simp only [List.mem_append, List.mem_filter, List.mem_cons] at hq ⊢
        rcases hq with (h | h) | h
        · exact Or.inl h.1
        · exact Or.inl h.1
        · exact Or.inr h
      refine px_iload_n dX4_placeReachedLast_4 rfl ?_
      refine px_aload_n dX4_placeReachedLast_5 rfl trivial ?_
      refine px_getf dX4_placeReachedLast_6 F_RX4_28 (cc_obj (by first | assumption | (simp only [cxN, cxZ, cxS, cxL, cxR]; assumption))) (by rfl) ?_
      refine px_callVr (cl_size rfl (by first | assumption | (simp only [cxN, cxZ, cxS, cxL, cxR]; assumption)) hX) dX4_placeReachedLast_9 L_RX4_70 (cc_rcL rfl (by first | assumption | (simp only [cxN, cxZ, cxS, cxL, cxR]; assumption))) rfl rfl (by decide) (by omega) (by omega) (Nat.le_of_ble_eq_true rfl) ?_
      rw [eL, List.length_map]
      have e9 : (T.filter U ++ T.filter (fun p => !U p) ++ p :: S).length = O.length := by
        rw [← e1]; simp only [List.length_append, List.length_cons]; omega
      rw [e9]
      refine pn_icmp_ge (tgt := 63) dX4_placeReachedLast_12 (by decide) (nI_leI (by omega) (by omega)) (fun h7 => ?_) (fun h7 => ?_)
      · omega
      refine px_aload_n dX4_placeReachedLast_15 rfl trivial ?_
      refine px_getf dX4_placeReachedLast_16 F_RX4_28 (cc_obj (by first | assumption | (simp only [cxN, cxZ, cxS, cxL, cxR]; assumption))) (by rfl) ?_
      refine px_iload_n dX4_placeReachedLast_19 rfl ?_
      refine px_callVr (cl_get (x := (2, p)) (by rw [eL]; exact c2_get eg) rfl (by first | assumption | (simp only [cxN, cxZ, cxS, cxL, cxR]; assumption)) hX) dX4_placeReachedLast_20 L_RX4_98 (cc_rcL rfl (by first | assumption | (simp only [cxN, cxZ, cxS, cxL, cxR]; assumption))) rfl rfl (by decide) (by omega) (by omega) (Nat.le_of_ble_eq_true rfl) ?_
      refine px_cast dX4_placeReachedLast_23 (cc_pin (by first | assumption | (simp only [cxN, cxZ, cxS, cxL, cxR]; assumption))) rfl K_RX4_35 ?_
      refine px_astore_n dX4_placeReachedLast_26 (by decide) trivial ?_
      refine px_aload_n dX4_placeReachedLast_27 rfl trivial ?_
      refine px_getf dX4_placeReachedLast_28 F_RX4_106 (cc_pin (by first | assumption | (simp only [cxN, cxZ, cxS, cxL, cxR]; assumption))) (by rfl) ?_
      rw [kz']
      refine pn_dconst0 dX4_placeReachedLast_31 ?_
      refine pn_dcmp dX4_placeReachedLast_32 rfl rfl (by omega) (by omega) ?_
      refine pn_if_ge (tgt := 57) dX4_placeReachedLast_33 (by decide) (dz_c_ge _ _) (fun h8 => ?_) (fun h8 => ?_)
      · have eU : U p = false := by
          cases e : U p with
          | false => rfl
          | true => have := (hUp p).mp e; omega
        rw [show (T ++ [p]).filter U = T.filter U by rw [List.filter_append]; simp [eU], show (T ++ [p]).filter (fun p => !U p) = T.filter (fun p => !U p) ++ [p] by rw [List.filter_append]; simp [eU], show (T ++ [p]).length = T.length + 1 by simp, show T.filter U ++ (T.filter (fun p => !U p) ++ [p]) ++ S = T.filter U ++ T.filter (fun p => !U p) ++ p :: S by simp, hW] at ih0
        refine px_iinc dX4_placeReachedLast_57 rfl (pn_i1 _) (by decide) ?_
        refine px_goto (tgt := 4) dX4_placeReachedLast_60 (by decide) ?_
        exact px_sub ih0 rfl
      · have eU : U p = true := (hUp p).mpr (by omega)
        rw [show (T ++ [p]).filter U = T.filter U ++ [p] by rw [List.filter_append]; simp [eU], show (T ++ [p]).filter (fun p => !U p) = T.filter (fun p => !U p) by rw [List.filter_append]; simp [eU], show (T ++ [p]).length = T.length + 1 by simp, show (T.filter U ++ [p]).length = (T.filter U).length + 1 by simp] at ih1
        refine px_aload_n dX4_placeReachedLast_36 rfl trivial ?_
        refine px_getf dX4_placeReachedLast_37 F_RX4_28 (cc_obj (by first | assumption | (simp only [cxN, cxZ, cxS, cxL, cxR]; assumption))) (by rfl) ?_
        refine px_iload_n dX4_placeReachedLast_40 rfl ?_
        refine px_callVr (cl_remove (x := (2, p)) (by rw [eL]; exact c2_get eg) (by rw [eL]; exact hobs W kx _ hmem) rfl (by first | assumption | (simp only [cxN, cxZ, cxS, cxL, cxR]; assumption)) hX) dX4_placeReachedLast_41 L_RX4_207 (cc_rcL rfl (by first | assumption | (simp only [cxN, cxZ, cxS, cxL, cxR]; assumption))) rfl rfl (by decide) (by omega) (by omega) (Nat.le_of_ble_eq_true rfl) ?_
        have eL2 : (cl W 14 6).eraseIdx T.length = c2 (T.filter U ++ T.filter (fun p => !U p) ++ S) := by rw [eL, c2_er, cF_erase (by omega)]
        rw [eL2]
        have kx2 : ∀ a b, cx (cL W 14 6 (c2 (T.filter U ++ T.filter (fun p => !U p) ++ S))) a b ↔ cx u a b := fun a b => by rw [cxL, kx]
        generalize hW2 : cL W 14 6 (c2 (T.filter U ++ T.filter (fun p => !U p) ++ S)) = W2 at kx2
        have eL3 : cl W2 14 6 = c2 (T.filter U ++ T.filter (fun p => !U p) ++ S) := by rw [← hW2, clL, if_pos ⟨rfl, rfl⟩]
        have k0' := (kx2 14 0).mpr h0
        have k6' := (kx2 14 6).mpr h6
        have hl3 : (T.filter U ++ T.filter (fun p => !U p) ++ S).length ≤ 60 := by
          simp only [List.length_append, List.length_cons] at e9 ⊢; omega
        refine px_pop dX4_placeReachedLast_44 rfl ?_
        refine px_aload_n dX4_placeReachedLast_45 rfl trivial ?_
        refine px_getf dX4_placeReachedLast_46 F_RX4_28 (cc_obj (by first | assumption | (simp only [cxN, cxZ, cxS, cxL, cxR]; assumption))) (by rfl) ?_
        refine px_iload_n dX4_placeReachedLast_49 rfl ?_
        refine px_aload_n dX4_placeReachedLast_50 rfl trivial ?_
        refine px_callVv (cl_addAt (B := 101) (by rw [eL3, List.length_map]; exact ⟨by omega, by omega, by simp only [List.length_append]; omega⟩) ⟨cc_obs2 ((kx2 2 p).mpr (hOm p hpO)), by rw [eL3]; exact hobs W2 kx2 _ (fun q hq => hmem q (by simp only [List.mem_append, List.mem_cons] at hq ⊢; rcases hq with h | h; exact Or.inl h; exact Or.inr (Or.inr h)))⟩ rfl (by first | assumption | (simp only [cxN, cxZ, cxS, cxL, cxR]; assumption)) hX) dX4_placeReachedLast_51 L_RX4_138 (cc_rcL rfl (by first | assumption | (simp only [cxN, cxZ, cxS, cxL, cxR]; assumption))) rfl rfl (by decide) (by omega) (by omega) (Nat.le_of_ble_eq_true rfl) ?_
        have eW : cL W2 14 6 ((cl W2 14 6).take (T.filter U).length ++ (2, p) :: (cl W2 14 6).drop (T.filter U).length) = cL (cG u g) 14 6 (c2 ((T.filter U ++ [p]) ++ T.filter (fun p => !U p) ++ S)) := by
          rw [eL3, c2_ins, ← hW2, ← hW]
          funext a b
          unfold cL cc_set
          by_cases h : a = 14 ∧ b = 6
          · obtain ⟨rfl, rfl⟩ := h
            simp
          · simp only [if_neg h]
        rw [eW]
        refine px_iinc dX4_placeReachedLast_54 rfl (pn_i1 _) (by decide) ?_
        refine px_iinc dX4_placeReachedLast_57 rfl (pn_i1 _) (by decide) ?_
        refine px_goto (tgt := 4) dX4_placeReachedLast_60 (by decide) ?_
        exact px_sub ih1 rfl
  refine px_iconst (v := nI 0) dX4_placeReachedLast_0 (by decide) ?_
  refine px_istore_n dX4_placeReachedLast_1 (by decide) ?_
  refine px_iconst (v := nI 0) dX4_placeReachedLast_2 (by decide) ?_
  refine px_istore_n dX4_placeReachedLast_3 (by decide) ?_
  have e0 : cL (cG u g) 14 6 (c2 O) = cG u g := by
    funext a b
    unfold cL cc_set
    split
    · rename_i h
      obtain ⟨rfl, rfl⟩ := h
      have := clG u g 14 6
      rw [hO] at this
      rw [← this]
      rfl
    · rfl
  have := l1 O [] 0 rfl (Nat.le_refl _)
  rw [show ([] : List Nat).filter U ++ ([] : List Nat).filter (fun p => !U p) ++ O = O from rfl, e0] at this
  exact px_sub this rfl
