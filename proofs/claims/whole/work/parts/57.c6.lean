/-! ===== ways followed; reaches spread ===== -/
def cFs (u : cc_U) (p w : Nat) : Option px_R := if w < cn u 7 p 0 then cs u 9 p w else none
def cFol (u : cc_U) : Nat → Nat → Nat → Option px_R
  | 0, p, w => cFs u p w
  | k + 1, p, w => match cFs u p w with
    | none => none
    | some r => cFol u k (cn u 3 r.2 2) (cn u 10 p w)
/-- a pin with all that is its own -/
def cPn (u : cc_U) (p : Nat) : Prop := cx u 2 p ∧ cx u 7 p ∧ cx u 8 p ∧ cx u 9 p ∧ cx u 10 p ∧ cx u 11 p ∧ cx u 12 p ∧ cx u 13 p ∧ cn u 7 p 0 ≤ cc_wl p
/-- rows of ways hold steps, and places behind -/
def cWs (u : cc_U) : Prop := (∀ p j r, cs u 9 p j = some r → ∃ n, r = (3, n) ∧ cx u 3 n ∧ cPn u (cn u 3 n 2)) ∧ ∀ p j, cn u 10 p j ≤ 320
theorem cc_wl_b (p : Nat) : cc_wl p ≤ 320 := by unfold cc_wl; split <;> omega
set_option maxRecDepth 100000 in
set_option maxHeartbeats 4000000 in
theorem ce_fs {u : cc_U} {X : px_M} {p w : Nat} (hp : cPn u p) (hw : w < 2 ^ 31) : px_Met 0 0 0 mX4_firstStep [.inr (7, p), .inl (.int (nI w))] (cc_M u X) (px_rt (some (px_rf (cFs u p w))) (cc_M u X)) := by
  refine px_ofW (by decide) W_mX4_firstStep (Nat.le_of_ble_eq_true rfl) ?_
  obtain ⟨h2, h7, h8, h9, h10, h11, h12, h13, hz⟩ := hp
  have hb := cc_wl_b p
  have hz' := hz
  unfold cn at hz'
  refine px_iload_n dX4_firstStep_0 rfl ?_
  refine pn_if_lt (tgt := 21) dX4_firstStep_1 (by decide) (pn_ltz (by omega)) (fun h1 => ?_) (fun h1 => ?_)
  · exact h1.elim
  refine px_iload_n dX4_firstStep_4 rfl ?_
  refine px_aload_n dX4_firstStep_5 rfl trivial ?_
  refine px_getf dX4_firstStep_6 F_RX4_64 (cc_ways (by first | assumption | (simp only [cxN, cxZ, cxS, cxL, cxR]; assumption))) (by rfl) ?_
  refine pn_icmp_ge (tgt := 21) dX4_firstStep_9 (by decide) (nI_leI (by omega) (by omega)) (fun h3 => ?_) (fun h3 => ?_)
  · refine px_anull dX4_firstStep_21 ?_
    refine px_aret (v := .inl .null) dX4_firstStep_22 rfl (Or.inl ⟨_, rfl⟩) trivial ?_ (by omega) (by omega)
    refine ⟨?_, rfl⟩
    unfold cFs
    rw [if_neg (show ¬ w < cn u 7 p 0 from Nat.not_lt.mpr h3)]; rfl
  · have hlt : w < cn u 7 p 0 := Nat.lt_of_not_le h3
    refine px_aload_n dX4_firstStep_12 rfl trivial ?_
    refine px_getf dX4_firstStep_13 F_RX4_273 (cc_ways (by first | assumption | (simp only [cxN, cxZ, cxS, cxL, cxR]; assumption))) (by rfl) ?_
    refine px_iload_n dX4_firstStep_16 rfl ?_
    have hw' : w < cc_wl p := Nat.lt_of_lt_of_le hlt hz
    refine ca_step dX4_firstStep_17 (by first | assumption | (simp only [cxN, cxZ, cxS, cxL, cxR]; assumption)) (by first | rfl | assumption) (by first | assumption | omega) ?_
    refine px_goto (tgt := 22) dX4_firstStep_18 (by decide) ?_
    refine px_aret dX4_firstStep_22 rfl (Or.inl ⟨_, rfl⟩) (by cases cs u 9 p w <;> trivial) ?_ (by omega) (by omega)
    refine ⟨?_, rfl⟩
    unfold cFs
    rw [if_pos hlt]
set_option maxRecDepth 100000 in
set_option maxHeartbeats 4000000 in
theorem ce_stepOf {u : cc_U} {X : px_M} (h0 : cx u 14 0) (hs : cPn u 60) (hW : cWs u) {w : Nat} (hw : w < 2 ^ 31) (y : Int32) : px_Met 1 0 0 mX4_stepOf [.inr (14, 0), .inl (.int (nI w)), .inl (.int y)] (cc_M u X) (px_rt (some (px_rf (if 0 ≤ y.toInt then cFol u (px_tn y) 60 w else none))) (cc_M u X)) := by
  refine px_ofW (by decide) W_mX4_stepOf (Nat.le_of_ble_eq_true rfl) ?_
  have h60 := hs.1
  refine px_iload_n dX4_stepOf_0 rfl ?_
  refine pn_if_ge (tgt := 6) dX4_stepOf_1 (by decide) (Iff.rfl) (fun h1 => ?_) (fun h1 => ?_)
  · refine px_aload_n dX4_stepOf_6 rfl trivial ?_
    refine px_getf dX4_stepOf_7 F_RX4_40 (cc_obj (by first | assumption | (simp only [cxN, cxZ, cxS, cxL, cxR]; assumption))) (by rfl) ?_
    refine px_getf dX4_stepOf_10 F_RX4_60 (cc_pin (by first | assumption | (simp only [cxN, cxZ, cxS, cxL, cxR]; assumption))) (by rfl) ?_
    refine px_astore_n dX4_stepOf_13 (by decide) trivial ?_
    refine px_iload_n dX4_stepOf_14 rfl ?_
    refine px_istore dX4_stepOf_15 (by decide) ?_
    refine px_iconst (v := nI 0) dX4_stepOf_17 (by decide) ?_
    refine px_istore dX4_stepOf_18 (by decide) ?_
    have hy : y = nI (px_tn y) ∧ px_tn y < 2 ^ 31 := by
      have h2 := y.toInt_lt
      have h3 : 0 ≤ y.toInt := by
        have := Int32.le_iff_toInt_le.mp h1
        simpa using this
      exact ⟨(px_ix_tn (n := 2 ^ 31) ⟨h3, by omega⟩).1, (px_ix_tn (n := 2 ^ 31) ⟨h3, by omega⟩).2⟩
    have h3 : 0 ≤ y.toInt := by
      have := Int32.le_iff_toInt_le.mp h1
      simpa using this
    rw [if_pos h3]
    obtain ⟨hy1, hy2⟩ := hy
    generalize px_tn y = K at hy1 hy2
    subst hy1
    have loop : ∀ (m i p v : Nat) (W : px_V), i + m = K → cPn u p → v < 2 ^ 31 → cFol u m p v = cFol u K 60 w → px_W 1 0 0 mX4_stepOf (px_rt (some (px_rf (cFol u K 60 w))) (cc_M u X)) 20 [(2, .inl (.int (nI K))), (3, .inr (7, p)), (4, .inl (.int (nI v))), (5, .inl (.int (nI i)))] [] (cc_M u X) 0 0 := by
      intro m
      induction m with
      | zero =>
        intro i p v W g1 g2 g3 g4
        refine px_iload dX4_stepOf_20 rfl ?_
        refine px_iload_n dX4_stepOf_22 rfl ?_
        refine pn_icmp_ge (tgt := 65) dX4_stepOf_23 (by decide) (nI_leI (by omega) (by omega)) (fun h7 => ?_) (fun h7 => ?_)
        · refine px_aload_n dX4_stepOf_65 rfl trivial ?_
          refine px_iload dX4_stepOf_66 rfl ?_
          refine px_callSr (ce_fs g2 g3) dX4_stepOf_68 L_RX4_280 rfl rfl (by decide) (by omega) (by omega) (Nat.le_of_ble_eq_true rfl) ?_
          refine px_aret dX4_stepOf_71 rfl (Or.inl ⟨_, rfl⟩) (by cases cFs u p v <;> trivial) ?_ (by omega) (by omega)
          refine ⟨?_, rfl⟩
          rw [← g4]; rfl
        · omega
      | succ m ih =>
        intro i p v W g1 g2 g3 g4
        refine px_iload dX4_stepOf_20 rfl ?_
        refine px_iload_n dX4_stepOf_22 rfl ?_
        refine pn_icmp_ge (tgt := 65) dX4_stepOf_23 (by decide) (nI_leI (by omega) (by omega)) (fun h7 => ?_) (fun h7 => ?_)
        · omega
        refine px_aload_n dX4_stepOf_26 rfl trivial ?_
        refine px_iload dX4_stepOf_27 rfl ?_
        refine px_callSr (ce_fs g2 g3) dX4_stepOf_29 L_RX4_280 rfl rfl (by decide) (by omega) (by omega) (Nat.le_of_ble_eq_true rfl) ?_
        cases e : cFs u p v with
        | none =>
          refine px_astore (v := .inl .null) dX4_stepOf_32 (by decide) trivial ?_
          refine px_aload (v := .inl .null) dX4_stepOf_34 rfl trivial ?_
          refine px_ifnonnull (o := none) (tgt := 41) dX4_stepOf_36 (by decide) (fun r h => by cases h) (fun _ => ?_)
          refine px_anull dX4_stepOf_39 ?_
          refine px_aret (v := .inl .null) dX4_stepOf_40 rfl (Or.inl ⟨_, rfl⟩) trivial ?_ (by omega) (by omega)
          refine ⟨?_, rfl⟩
          rw [← g4]
          unfold cFol
          rw [e]; rfl
        | some r =>
          have e' := e
          unfold cFs at e'
          split at e'
          · rename_i hv
            obtain ⟨n, rfl, n1, n2⟩ := hW.1 p v r e'
            have n2' := n2
            unfold cn at n2'
            obtain ⟨q2, q7, q8, q9, q10, q11, q12, q13, qz⟩ := id g2
            have hv' : v < cc_wl p := Nat.lt_of_lt_of_le hv qz
            refine px_astore (v := .inr (3, n)) dX4_stepOf_32 (by decide) trivial ?_
            refine px_aload (v := .inr (3, n)) dX4_stepOf_34 rfl trivial ?_
            refine px_ifnonnull (o := some (3, n)) (tgt := 41) dX4_stepOf_36 (by decide) (fun r h => ?_) (fun h => by cases h)
            refine px_aload_n dX4_stepOf_41 rfl trivial ?_
            refine px_getf dX4_stepOf_42 F_RX4_277 (cc_ways (by first | assumption | (simp only [cxN, cxZ, cxS, cxL, cxR]; assumption))) (by rfl) ?_
            refine px_iload dX4_stepOf_45 rfl ?_
            refine ca_rest dX4_stepOf_47 (by first | assumption | (simp only [cxN, cxZ, cxS, cxL, cxR]; assumption)) (by first | rfl | assumption) (by first | assumption | omega) ?_
            refine px_istore dX4_stepOf_48 (by decide) ?_
            have c2 := n2'.1
            refine px_aload dX4_stepOf_50 rfl trivial ?_
            refine px_getf dX4_stepOf_52 F_RX4_191 (cc_step (by first | assumption | (simp only [cxN, cxZ, cxS, cxL, cxR]; assumption))) (by rfl) ?_
            refine px_getf dX4_stepOf_55 F_RX4_60 (cc_pin (by first | assumption | (simp only [cxN, cxZ, cxS, cxL, cxR]; assumption))) (by rfl) ?_
            refine px_astore_n dX4_stepOf_58 (by decide) trivial ?_
            refine px_iinc dX4_stepOf_59 rfl (pn_i1 _) (by decide) ?_
            refine px_goto (tgt := 20) dX4_stepOf_62 (by decide) ?_
            refine px_sub (ih (i + 1) (cn u 3 n 2) (cn u 10 p v) W (by omega) n2 (by have := hW.2 p v; omega) ?_) rfl
            rw [← g4]
            show _ = (match cFs u p v with | none => none | some r => _)
            rw [e]
          · cases e'
    exact px_sub (loop K 0 60 w (.inl .null) (by omega) hs hw rfl) rfl
  · refine px_anull dX4_stepOf_4 ?_
    refine px_aret (v := .inl .null) dX4_stepOf_5 rfl (Or.inl ⟨_, rfl⟩) trivial ?_ (by omega) (by omega)
    refine ⟨?_, rfl⟩
    rw [if_neg ?_]; rfl
    intro z
    refine h1 (Int32.le_iff_toInt_le.mpr ?_)
    simpa using z
/-- the reaches are g -/
def cG (u : cc_U) (g : Nat → Int) : cc_U := fun k i => if k = 2 then ((u 2 i).1, px_upN (u 2 i).2.1 0 (g i), (u 2 i).2.2) else u k i
section CGW
variable (u : cc_U) (g : Nat → Int) (k i j : Nat)
theorem cnG : cn (cG u g) k i j = cn u k i j := by
  unfold cn cG
  split
  · rename_i h; rw [h]
  · rfl
theorem clG : cl (cG u g) k i = cl u k i := by
  unfold cl cG
  split
  · rename_i h; rw [h]
  · rfl
theorem csG : cs (cG u g) k i j = cs u k i j := by
  unfold cs cG
  split
  · rename_i h; rw [h]
  · rfl
theorem cxG : cx (cG u g) k i ↔ cx u k i := by
  unfold cx cG
  split
  · rename_i h; rw [h]
  · exact Iff.rfl
theorem czG (h : k ≠ 2) : cz (cG u g) k i j = cz u k i j := by
  unfold cz cG
  rw [if_neg h]
theorem czG2 : cz (cG u g) 2 i 0 = g i := rfl
theorem cG_Z (q : Nat) (x : Int) : cZ (cG u g) 2 q 0 x = cG u (px_upN g q x) := by
  funext k' i'
  unfold cZ cc_set
  by_cases h : k' = 2 ∧ i' = q
  · obtain ⟨rfl, rfl⟩ := h
    rw [if_pos ⟨rfl, rfl⟩]
    unfold cG
    rw [if_pos rfl, if_pos rfl]
    refine Prod.ext rfl (Prod.ext (funext fun j => ?_) rfl)
    show px_upN (px_upN (u 2 i').2.1 0 (g i')) 0 x j = px_upN (u 2 i').2.1 0 (px_upN g i' x i') j
    unfold px_upN
    by_cases hj : j = 0 <;> simp [hj]
  · rw [if_neg h]
    unfold cG
    by_cases h2 : k' = 2
    · subst h2
      have hq : i' ≠ q := fun e => h ⟨rfl, e⟩
      rw [if_pos rfl, if_pos rfl]
      have e : px_upN g q x i' = g i' := if_neg hq
      rw [e]
    · rw [if_neg h2, if_neg h2]
theorem cG_id : cG u (fun p => cz u 2 p 0) = u := by
  funext k' i'
  unfold cG
  split
  · rename_i h
    subst h
    refine Prod.ext rfl (Prod.ext (funext fun j => ?_) rfl)
    show px_upN (u 2 i').2.1 0 (cz u 2 i' 0) j = (u 2 i').2.1 j
    unfold px_upN
    split
    · rename_i hj; rw [hj]; rfl
    · rfl
  · rfl
theorem cG_G (g' : Nat → Int) : cG (cG u g) g' = cG u g' := by
  funext k' i'
  unfold cG
  by_cases h : k' = 2
  · subst h
    rw [if_pos rfl, if_pos rfl, if_pos rfl]
    refine Prod.ext rfl (Prod.ext (funext fun j => ?_) rfl)
    show px_upN (px_upN (u 2 i').2.1 0 (g i')) 0 (g' i') j = px_upN (u 2 i').2.1 0 (g' i') j
    unfold px_upN
    split <;> rfl
  · rw [if_neg h, if_neg h, if_neg h]
end CGW
/-- what one pin's steps do to the reaches -/
def cFur (u : cc_U) (b : Nat) (s0 : Int) : List Nat → (Nat → Int) → (Nat → Int)
  | [], g => g
  | n :: L, g => cFur u b s0 L (if (b = 0 ∨ cn u 2 (cn u 3 n 2) 2 = b) ∧ g (cn u 3 n 2) < s0 + cz u 3 n 0 then px_upN g (cn u 3 n 2) (s0 + cz u 3 n 0) else g)
theorem cFur_ap (u : cc_U) (b : Nat) (s0 : Int) : ∀ (L : List Nat) (n : Nat) (g : Nat → Int), cFur u b s0 (L ++ [n]) g = (if (b = 0 ∨ cn u 2 (cn u 3 n 2) 2 = b) ∧ cFur u b s0 L g (cn u 3 n 2) < s0 + cz u 3 n 0 then px_upN (cFur u b s0 L g) (cn u 3 n 2) (s0 + cz u 3 n 0) else cFur u b s0 L g)
  | [], n, g => rfl
  | m :: L, n, g => cFur_ap u b s0 L n _
theorem cFur_bd {u : cc_U} {b : Nat} {s0 : Int} (B : Int) : ∀ {L : List Nat} {g : Nat → Int}, (∀ n ∈ L, (s0 + cz u 3 n 0).natAbs ≤ B) → (∀ q, (g q).natAbs ≤ B) → ∀ q, (cFur u b s0 L g q).natAbs ≤ B
  | [], g, _, h, q => h q
  | n :: L, g, hL, h, q => by
    refine cFur_bd B (fun m hm => hL m (List.mem_cons_of_mem _ hm)) (fun q => ?_) q
    split
    · unfold px_upN
      split
      · exact hL n List.mem_cons_self
      · exact h q
    · exact h q
theorem cFur_ne {u : cc_U} {b : Nat} {s0 : Int} {p : Nat} : ∀ {L : List Nat} {g : Nat → Int}, (∀ n ∈ L, cn u 3 n 2 ≠ p) → cFur u b s0 L g p = g p
  | [], g, _ => rfl
  | n :: L, g, hL => by
    show cFur u b s0 L _ p = g p
    rw [cFur_ne fun m hm => hL m (List.mem_cons_of_mem _ hm)]
    split
    · exact if_neg (fun e => hL n List.mem_cons_self e.symm)
    · rfl
set_option maxRecDepth 100000 in
set_option maxHeartbeats 4000000 in
theorem ce_further {u : cc_U} {X : px_M} (hX : c9 X) {p b : Nat} {L : List Nat} (g : Nat → Int) (hp : cx u 2 p) (hq : cx u 13 p) (hL : cl u 13 p = c3 L) (hl : L.length ≤ 200) (hs : ∀ n ∈ L, cx u 3 n ∧ cx u 2 (cn u 3 n 2) ∧ cn u 2 (cn u 3 n 2) 2 ≤ 60 ∧ cn u 3 n 2 ≠ p ∧ (cz u 3 n 0).natAbs ≤ 2 ^ 30) (hb : b ≤ 60) (hg : ∀ q, (g q).natAbs ≤ 2 ^ 33) (hgp : (g p).natAbs ≤ 2 ^ 32) (h0 : cx u 14 0) : px_Met 3 0 0 mX4_spreadFurther [.inr (14, 0), .inr (2, p), .inl (.int (px_o b))] (cc_M (cG u g) X) (px_rt none (cc_M (cG u (cFur u b (g p) L g)) X)) := by
  refine px_ofW (by decide) W_mX4_spreadFurther (Nat.le_of_ble_eq_true rfl) ?_
  have loop : ∀ (m i : Nat), i + m = L.length → px_W 3 0 0 mX4_spreadFurther (px_rt none (cc_M (cG u (cFur u b (g p) L g)) X)) 2 [(0, .inr (14, 0)), (1, .inr (2, p)), (2, .inl (.int (px_o b))), (3, .inl (.int (nI i)))] [] (cc_M (cG u (cFur u b (g p) (L.take i) g)) X) 0 0 := by
    intro m
    induction m with
    | zero =>
      intro i h1
      have k2 := (cxG u (cFur u b (g p) (L.take i) g) 2 p).mpr hp
      have k13 := (cxG u (cFur u b (g p) (L.take i) g) 13 p).mpr hq
      refine px_iload_n dX4_spreadFurther_2 rfl ?_
      refine px_aload_n dX4_spreadFurther_3 rfl trivial ?_
      refine px_getf dX4_spreadFurther_4 F_RX4_120 (cc_pin (by first | assumption | (simp only [cxN, cxZ, cxS, cxL, cxR]; assumption))) (by rfl) ?_
      refine px_callVr (cl_size rfl (by first | assumption | (simp only [cxN, cxZ, cxS, cxL, cxR]; assumption)) hX) dX4_spreadFurther_7 L_RX4_70 (cc_rcL rfl (by first | assumption | (simp only [cxN, cxZ, cxS, cxL, cxR]; assumption))) rfl rfl (by decide) (by omega) (by omega) (Nat.le_of_ble_eq_true rfl) ?_
      rw [clG, hL, List.length_map]
      refine pn_icmp_ge (tgt := 85) dX4_spreadFurther_10 (by decide) (nI_leI (by omega) (by omega)) (fun h7 => ?_) (fun h7 => ?_)
      · refine px_vret dX4_spreadFurther_85 rfl ?_ (by omega) (by omega)
        refine ⟨rfl, ?_⟩
        rw [List.take_of_length_le (by omega)]
      · omega
    | succ m ih =>
      intro i h1
      obtain ⟨n, hn⟩ : ∃ n, L[i]? = some n := ⟨_, List.getElem?_eq_getElem (by omega)⟩
      have hm := List.mem_of_getElem? hn
      obtain ⟨s1, s2, s3, s4, s5⟩ := hs n hm
      have e1 : L.take (i + 1) = L.take i ++ [n] := by
        rw [List.take_add_one, hn]; rfl
      have ih1 := ih (i + 1) (by omega)
      rw [e1, cFur_ap] at ih1
      have gp : cFur u b (g p) (L.take i) g p = g p := cFur_ne fun m hm => (hs m (List.mem_of_mem_take hm)).2.2.2.1
      have gb : ∀ q, (cFur u b (g p) (L.take i) g q).natAbs ≤ (2 ^ 33 : Int) := cFur_bd (2 ^ 33) (fun m hm => by
        have := (hs m (List.mem_of_mem_take hm)).2.2.2.2
        omega) (fun q => by have := hg q; omega)
      generalize cFur u b (g p) (L.take i) g = G at ih1 gp gb
      have k2 := (cxG u G 2 p).mpr hp
      have k13 := (cxG u G 13 p).mpr hq
      have k3 := (cxG u G 3 n).mpr s1
      have kt : cx (cG u G) 2 (cn (cG u G) 3 n 2) := by rw [cnG, cxG]; exact s2
      have kt' := kt
      unfold cn at kt'
      have ec : ((cG u G 3 n).2.1 0 : Int) = cz u 3 n 0 := czG u G 3 n 0 (by decide)
      have ep : ((cG u G 2 p).2.1 0 : Int) = g p := gp
      have et : ((cG u G 3 n).1 2 : Nat) = cn u 3 n 2 := cnG u G 3 n 2
      refine px_iload_n dX4_spreadFurther_2 rfl ?_
      refine px_aload_n dX4_spreadFurther_3 rfl trivial ?_
      refine px_getf dX4_spreadFurther_4 F_RX4_120 (cc_pin (by first | assumption | (simp only [cxN, cxZ, cxS, cxL, cxR]; assumption))) (by rfl) ?_
      refine px_callVr (cl_size rfl (by first | assumption | (simp only [cxN, cxZ, cxS, cxL, cxR]; assumption)) hX) dX4_spreadFurther_7 L_RX4_70 (cc_rcL rfl (by first | assumption | (simp only [cxN, cxZ, cxS, cxL, cxR]; assumption))) rfl rfl (by decide) (by omega) (by omega) (Nat.le_of_ble_eq_true rfl) ?_
      rw [clG, hL, List.length_map]
      refine pn_icmp_ge (tgt := 85) dX4_spreadFurther_10 (by decide) (nI_leI (by omega) (by omega)) (fun h7 => ?_) (fun h7 => ?_)
      · omega
      refine px_aload_n dX4_spreadFurther_13 rfl trivial ?_
      refine px_getf dX4_spreadFurther_14 F_RX4_120 (cc_pin (by first | assumption | (simp only [cxN, cxZ, cxS, cxL, cxR]; assumption))) (by rfl) ?_
      refine px_iload_n dX4_spreadFurther_17 rfl ?_
      refine px_callVr (cl_get (x := (3, n)) (by rw [clG, hL]; exact c3_get hn) rfl (by first | assumption | (simp only [cxN, cxZ, cxS, cxL, cxR]; assumption)) hX) dX4_spreadFurther_18 L_RX4_98 (cc_rcL rfl (by first | assumption | (simp only [cxN, cxZ, cxS, cxL, cxR]; assumption))) rfl rfl (by decide) (by omega) (by omega) (Nat.le_of_ble_eq_true rfl) ?_
      refine px_cast dX4_spreadFurther_21 (cc_step (by first | assumption | (simp only [cxN, cxZ, cxS, cxL, cxR]; assumption))) rfl K_RX4_115 ?_
      refine px_astore dX4_spreadFurther_24 (by decide) trivial ?_
      refine px_aload_n dX4_spreadFurther_26 rfl trivial ?_
      refine px_getf dX4_spreadFurther_27 F_RX4_106 (cc_pin (by first | assumption | (simp only [cxN, cxZ, cxS, cxL, cxR]; assumption))) (by rfl) ?_
      refine px_aload dX4_spreadFurther_30 rfl trivial ?_
      refine px_getf dX4_spreadFurther_32 F_RX4_194 (cc_step (by first | assumption | (simp only [cxN, cxZ, cxS, cxL, cxR]; assumption))) (by rfl) ?_
      rw [ec, ep]
      refine pn_dadd dX4_spreadFurther_35 (by omega) (by omega) (by first | exact Int.add_zero _ | rfl) ?_
      refine px_dstore dX4_spreadFurther_36 (by decide) ?_
      have skip : ¬ ((b = 0 ∨ cn u 2 (cn u 3 n 2) 2 = b) ∧ G (cn u 3 n 2) < g p + cz u 3 n 0) → px_W 3 0 0 mX4_spreadFurther (px_rt none (cc_M (cG u (cFur u b (g p) L g)) X)) 79 [(0, .inr (14, 0)), (1, .inr (2, p)), (2, .inl (.int (px_o b))), (3, .inl (.int (nI i)))] [] (cc_M (cG u G) X) 0 0 := fun hz => by
        rw [if_neg hz] at ih1
        refine px_iinc dX4_spreadFurther_79 rfl (pn_i1 _) (by decide) ?_
        refine px_goto (tgt := 2) dX4_spreadFurther_82 (by decide) ?_
        exact px_sub ih1 rfl
      have go : (b = 0 ∨ cn u 2 (cn u 3 n 2) 2 = b) → px_W 3 0 0 mX4_spreadFurther (px_rt none (cc_M (cG u (cFur u b (g p) L g)) X)) 55 [(0, .inr (14, 0)), (1, .inr (2, p)), (2, .inl (.int (px_o b))), (3, .inl (.int (nI i))), (4, .inr (3, n)), (5, .inl (.double (dz (g p + cz u 3 n 0))))] [] (cc_M (cG u G) X) 0 0 := fun hz => by
        refine px_dload dX4_spreadFurther_55 rfl ?_
        refine px_aload dX4_spreadFurther_57 rfl trivial ?_
        refine px_getf dX4_spreadFurther_59 F_RX4_191 (cc_step (by first | assumption | (simp only [cxN, cxZ, cxS, cxL, cxR]; assumption))) (by rfl) ?_
        have er : ((cG u G 2 ((cG u G 3 n).1 2)).2.1 0 : Int) = G (cn u 3 n 2) := by rw [et]; rfl
        have gb1 := gb (cn u 3 n 2)
        refine px_getf dX4_spreadFurther_62 F_RX4_106 (cc_pin (by first | assumption | (simp only [cxN, cxZ, cxS, cxL, cxR]; assumption))) (by rfl) ?_
        rw [er]
        refine pn_dcmp dX4_spreadFurther_65 rfl rfl (by omega) (by omega) ?_
        refine pn_if_le (tgt := 79) dX4_spreadFurther_66 (by decide) (dz_c_le _ _) (fun h9 => ?_) (fun h9 => ?_)
        · exact px_sub (skip fun z => by have := z.2; omega) rfl
        · rw [if_pos ⟨hz, by omega⟩] at ih1
          refine px_aload dX4_spreadFurther_69 rfl trivial ?_
          refine px_getf dX4_spreadFurther_71 F_RX4_191 (cc_step (by first | assumption | (simp only [cxN, cxZ, cxS, cxL, cxR]; assumption))) (by rfl) ?_
          refine px_dload dX4_spreadFurther_74 rfl ?_
          refine cp_reach dX4_spreadFurther_76 F_RX4_106 (by first | assumption | (simp only [cxN, cxZ, cxS, cxL, cxR]; assumption)) (by first | rfl | exact dz_m1) ?_
          rw [cG_Z, et]
          refine px_iinc dX4_spreadFurther_79 rfl (pn_i1 _) (by decide) ?_
          refine px_goto (tgt := 2) dX4_spreadFurther_82 (by decide) ?_
          exact px_sub ih1 rfl
      refine px_iload_n dX4_spreadFurther_38 rfl ?_
      refine px_iconst (v := -1) dX4_spreadFurther_39 (by decide) ?_
      refine pn_icmp_eq (tgt := 55) dX4_spreadFurther_40 (by decide) (px_o_no (by omega)) (fun h8 => ?_) (fun h8 => ?_)
      · exact px_sub (go (Or.inl h8)) rfl
      · have eb : ((cG u G 2 ((cG u G 3 n).1 2)).1 2 : Nat) = cn u 2 (cn u 3 n 2) 2 := by rw [et]; exact cnG u G 2 _ 2
        refine px_aload dX4_spreadFurther_43 rfl trivial ?_
        refine px_getf dX4_spreadFurther_45 F_RX4_191 (cc_step (by first | assumption | (simp only [cxN, cxZ, cxS, cxL, cxR]; assumption))) (by rfl) ?_
        refine px_getf dX4_spreadFurther_48 F_RX4_183 (cc_pin (by first | assumption | (simp only [cxN, cxZ, cxS, cxL, cxR]; assumption))) (by rfl) ?_
        rw [eb]
        refine px_iload_n dX4_spreadFurther_51 rfl ?_
        refine pn_icmp_ne (tgt := 79) dX4_spreadFurther_52 (by decide) (px_o_eq (by omega) (by omega)) (fun h9 => ?_) (fun h9 => ?_)
        · exact px_sub (skip fun z => z.1.elim h8 h9) rfl
        · exact px_sub (go (Or.inr h9)) rfl
  refine px_iconst (v := nI 0) dX4_spreadFurther_0 (by decide) ?_
  refine px_istore_n dX4_spreadFurther_1 (by decide) ?_
  exact px_sub (loop L.length 0 (by omega)) rfl
