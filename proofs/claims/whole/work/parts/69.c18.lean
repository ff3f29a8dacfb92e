/-! ===== the next ways of steps ===== -/
/-- the steps' nexts are f -/
def cNx (u : cc_U) (f : Nat → Nat) : cc_U := fun k i => if k = 3 then (px_upN (u 3 i).1 4 (f i), (u 3 i).2) else u k i
section CNX
variable (u : cc_U) (f : Nat → Nat) (k i j : Nat)
theorem cnX (h : ¬ (k = 3 ∧ j = 4)) : cn (cNx u f) k i j = cn u k i j := by
  unfold cn cNx
  split
  · rename_i e; subst e
    exact if_neg (fun z => h ⟨rfl, z⟩)
  · rfl
theorem cnX4 : cn (cNx u f) 3 i 4 = f i := rfl
theorem clX : cl (cNx u f) k i = cl u k i := by
  unfold cl cNx
  split
  · rename_i h; rw [h]
  · rfl
theorem csX : cs (cNx u f) k i j = cs u k i j := by
  unfold cs cNx
  split
  · rename_i h; rw [h]
  · rfl
theorem cxX : cx (cNx u f) k i ↔ cx u k i := by
  unfold cx cNx
  split
  · rename_i h; rw [h]
  · exact Iff.rfl
theorem czX : cz (cNx u f) k i j = cz u k i j := by
  unfold cz cNx
  split
  · rename_i h; rw [h]
  · rfl
theorem cNx_N (q x : Nat) : cN (cNx u f) 3 q 4 x = cNx u (px_upN f q x) := by
  funext k' i'
  unfold cN cc_set
  by_cases h : k' = 3 ∧ i' = q
  · obtain ⟨rfl, rfl⟩ := h
    rw [if_pos ⟨rfl, rfl⟩]
    unfold cNx
    rw [if_pos rfl, if_pos rfl]
    refine Prod.ext (funext fun j => ?_) rfl
    show px_upN (px_upN (u 3 i').1 4 (f i')) 4 x j = px_upN (u 3 i').1 4 (px_upN f i' x i') j
    unfold px_upN
    by_cases hj : j = 4 <;> simp [hj]
  · rw [if_neg h]
    unfold cNx
    by_cases h2 : k' = 3
    · subst h2
      have hq : i' ≠ q := fun e => h ⟨rfl, e⟩
      rw [if_pos rfl, if_pos rfl]
      have e : px_upN f q x i' = f i' := if_neg hq
      rw [e]
    · rw [if_neg h2, if_neg h2]
theorem cNx_id : cNx u (fun n => cn u 3 n 4) = u := by
  funext k' i'
  unfold cNx
  split
  · rename_i h
    subst h
    refine Prod.ext (funext fun j => ?_) rfl
    show px_upN (u 3 i').1 4 (cn u 3 i' 4) j = (u 3 i').1 j
    unfold px_upN
    split
    · rename_i hj; rw [hj]; rfl
    · rfl
  · rfl
theorem cPnX (p : Nat) : cPn (cNx u f) p ↔ cPn u p := by
  unfold cPn
  simp only [cxX, cnX u f 7 p 0 (by omega)]
end CNX
/-- what stands behind a step: how many ways, what is left by one, its group -/
def csz (v : cc_U) (n : Nat) : Nat := cn v 7 (cn v 3 n 2) 0
def clf (v : cc_U) (n r : Nat) : Int := cz v 8 (cn v 3 n 2) r - cz v 3 n 0
def cgp (v : cc_U) (n r : Nat) : Nat := if cn v 3 n 2 = 61 then cn v 3 n 3 else cn v 11 (cn v 3 n 2) r
/-- a step that may be looked behind -/
def cBh (v : cc_U) (n : Nat) : Prop := cx v 3 n ∧ cPn v (cn v 3 n 2) ∧ (∀ r, r < csz v n → cgp v n r < 8 ∧ (cz v 8 (cn v 3 n 2) r).natAbs ≤ 2 ^ 45) ∧ (cz v 3 n 0).natAbs ≤ 2 ^ 30
theorem cszX (u : cc_U) (f : Nat → Nat) (n : Nat) : csz (cNx u f) n = csz u n := by
  unfold csz; rw [cnX u f 3 n 2 (by omega), cnX u f 7 _ 0 (by omega)]
theorem clfX (u : cc_U) (f : Nat → Nat) (n r : Nat) : clf (cNx u f) n r = clf u n r := by
  unfold clf; rw [cnX u f 3 n 2 (by omega), czX, czX]
theorem cgpX (u : cc_U) (f : Nat → Nat) (n r : Nat) : cgp (cNx u f) n r = cgp u n r := by
  unfold cgp; rw [cnX u f 3 n 2 (by omega), cnX u f 3 n 3 (by omega), cnX u f 11 _ r (by omega)]
theorem cBhX (u : cc_U) (f : Nat → Nat) (n : Nat) : cBh (cNx u f) n ↔ cBh u n := by
  unfold cBh
  simp only [cxX, cnX u f 3 n 2 (by omega), cPnX, cszX, cgpX, czX]
theorem cBh.lt {v : cc_U} {n : Nat} (h : cBh v n) {r : Nat} (hr : r < csz v n) : r < cc_wl (cn v 3 n 2) := Nat.lt_of_lt_of_le hr h.2.1.2.2.2.2.2.2.2.2
set_option maxRecDepth 100000 in
set_option maxHeartbeats 4000000 in
theorem ce_gon {v : cc_U} {X : px_M} {n : Nat} (h0 : cx v 14 0) (h : cBh v n) (hr : cn v 3 n 4 < csz v n) : px_Met 0 0 0 mX4_groupOfNext [.inr (14, 0), .inr (3, n)] (cc_M v X) (px_rt (some (.inl (.int (nI (cgp v n (cn v 3 n 4)))))) (cc_M v X)) := by
  refine px_ofW (by decide) W_mX4_groupOfNext (Nat.le_of_ble_eq_true rfl) ?_
  have hw := h.lt hr
  obtain ⟨h3, hp, hb, hc⟩ := h
  have hp' := hp
  unfold cn at hp' hw
  obtain ⟨p2, p7, p8, p9, p10, p11, p12, p13, p14⟩ := hp'
  refine px_aload_n dX4_groupOfNext_0 rfl trivial ?_
  refine px_getf dX4_groupOfNext_1 F_RX4_191 (cc_step (by first | assumption | (simp only [cxN, cxZ, cxS, cxL, cxR]; assumption))) (by rfl) ?_
  refine px_aload_n dX4_groupOfNext_4 rfl trivial ?_
  refine px_getf dX4_groupOfNext_5 F_RX4_44 (cc_obj (by first | assumption | (simp only [cxN, cxZ, cxS, cxL, cxR]; assumption))) (by rfl) ?_
  refine px_acmp_ne (tgt := 18) dX4_groupOfNext_8 (by decide) (fun g1 => ?_) (fun g1 => ?_)
  · refine px_aload_n dX4_groupOfNext_18 rfl trivial ?_
    refine px_getf dX4_groupOfNext_19 F_RX4_191 (cc_step (by first | assumption | (simp only [cxN, cxZ, cxS, cxL, cxR]; assumption))) (by rfl) ?_
    refine px_getf dX4_groupOfNext_22 F_RX4_60 (cc_pin (by first | assumption | (simp only [cxN, cxZ, cxS, cxL, cxR]; assumption))) (by rfl) ?_
    refine px_getf dX4_groupOfNext_25 F_RX4_271 (cc_ways (by first | assumption | (simp only [cxN, cxZ, cxS, cxL, cxR]; assumption))) (by rfl) ?_
    refine px_aload_n dX4_groupOfNext_28 rfl trivial ?_
    refine px_getf dX4_groupOfNext_29 F_RX4_248 (cc_step (by first | assumption | (simp only [cxN, cxZ, cxS, cxL, cxR]; assumption))) (by rfl) ?_
    refine ca_grp dX4_groupOfNext_32 (by first | assumption | (simp only [cxN, cxZ, cxS, cxL, cxR]; assumption)) (by first | rfl | assumption) (by first | assumption | omega) ?_
    refine px_iret dX4_groupOfNext_33 rfl ?_ (by omega) (by omega)
    refine ⟨?_, rfl⟩
    unfold cgp
    rw [if_neg (show ¬ cn v 3 n 2 = 61 from fun e => g1 (congrArg (fun y => ((2, y) : px_R)) e))]
    rfl
  · refine px_aload_n dX4_groupOfNext_11 rfl trivial ?_
    refine px_getf dX4_groupOfNext_12 F_RX4_172 (cc_step (by first | assumption | (simp only [cxN, cxZ, cxS, cxL, cxR]; assumption))) (by rfl) ?_
    refine px_goto (tgt := 33) dX4_groupOfNext_15 (by decide) ?_
    refine px_iret dX4_groupOfNext_33 rfl ?_ (by omega) (by omega)
    refine ⟨?_, rfl⟩
    unfold cgp
    rw [if_pos (show cn v 3 n 2 = 61 from congrArg Prod.snd g1)]
    rfl
set_option maxRecDepth 100000 in
set_option maxHeartbeats 4000000 in
theorem ce_lbn {v : cc_U} {X : px_M} {n : Nat} (h0 : cx v 14 0) (h : cBh v n) (hr : cn v 3 n 4 < csz v n) : px_Met 0 0 0 mX4_leftByNext [.inr (14, 0), .inr (3, n)] (cc_M v X) (px_rt (some (.inl (.double (dz (clf v n (cn v 3 n 4)))))) (cc_M v X)) := by
  refine px_ofW (by decide) W_mX4_leftByNext (Nat.le_of_ble_eq_true rfl) ?_
  have hw := h.lt hr
  obtain ⟨h3, hp, hb, hc⟩ := h
  have hb' : (cz v 8 ((v 3 n).1 2) ((v 3 n).1 4)).natAbs ≤ 2 ^ 45 := (hb _ hr).2
  have hc' : ((v 3 n).2.1 0).natAbs ≤ 2 ^ 30 := hc
  have hp' := hp
  unfold cn at hp' hw
  obtain ⟨p2, p7, p8, p9, p10, p11, p12, p13, p14⟩ := hp'
  refine px_aload_n dX4_leftByNext_0 rfl trivial ?_
  refine px_getf dX4_leftByNext_1 F_RX4_191 (cc_step (by first | assumption | (simp only [cxN, cxZ, cxS, cxL, cxR]; assumption))) (by rfl) ?_
  refine px_getf dX4_leftByNext_4 F_RX4_60 (cc_pin (by first | assumption | (simp only [cxN, cxZ, cxS, cxL, cxR]; assumption))) (by rfl) ?_
  refine px_getf dX4_leftByNext_7 F_RX4_157 (cc_ways (by first | assumption | (simp only [cxN, cxZ, cxS, cxL, cxR]; assumption))) (by rfl) ?_
  refine px_aload_n dX4_leftByNext_10 rfl trivial ?_
  refine px_getf dX4_leftByNext_11 F_RX4_248 (cc_step (by first | assumption | (simp only [cxN, cxZ, cxS, cxL, cxR]; assumption))) (by rfl) ?_
  refine ca_left dX4_leftByNext_14 (by first | assumption | (simp only [cxN, cxZ, cxS, cxL, cxR]; assumption)) (by first | rfl | assumption) (by first | assumption | omega) ?_
  refine px_aload_n dX4_leftByNext_15 rfl trivial ?_
  refine px_getf dX4_leftByNext_16 F_RX4_194 (cc_step (by first | assumption | (simp only [cxN, cxZ, cxS, cxL, cxR]; assumption))) (by rfl) ?_
  rw [cz_def]
  refine pn_dsub dX4_leftByNext_19 (by omega) (by omega) (by first | exact Int.add_zero _ | rfl) ?_
  refine px_dret dX4_leftByNext_20 rfl ?_ (by omega) (by omega)
  exact ⟨rfl, rfl⟩
/-- past the ways whose group is full -/
def cSk (v : cc_U) (k n : Nat) : Nat → Nat → Nat
  | 0, r => r
  | m + 1, r => if r < csz v n ∧ k ≤ cn v 14 8 (cgp v n r) then cSk v k n m (r + 1) else r
theorem cSk_ge (v : cc_U) (k n : Nat) : ∀ (m r : Nat), r ≤ cSk v k n m r
  | 0, r => Nat.le_refl _
  | m + 1, r => by
    unfold cSk
    split
    · exact Nat.le_trans (Nat.le_succ r) (cSk_ge v k n m (r + 1))
    · exact Nat.le_refl _
theorem cSk_le (v : cc_U) (k n : Nat) : ∀ (m r : Nat), r ≤ csz v n → cSk v k n m r ≤ csz v n
  | 0, r, h => h
  | m + 1, r, h => by
    unfold cSk
    split
    · rename_i h1; exact cSk_le v k n m (r + 1) (by have := h1.1; omega)
    · exact h
theorem cSk_full (v : cc_U) (k n : Nat) : ∀ (m r j : Nat), r ≤ j → j < cSk v k n m r → k ≤ cn v 14 8 (cgp v n j)
  | 0, r, j, h1, h2 => absurd h2 (Nat.not_lt.mpr h1)
  | m + 1, r, j, h1, h2 => by
    unfold cSk at h2
    split at h2
    · rename_i h3
      rcases Nat.lt_or_ge r j with h4 | h4
      · exact cSk_full v k n m (r + 1) j h4 h2
      · obtain rfl : j = r := by omega
        exact h3.2
    · omega
theorem cSk_end (v : cc_U) (k n : Nat) : ∀ (m r : Nat), csz v n < r + m → cSk v k n m r < csz v n → cn v 14 8 (cgp v n (cSk v k n m r)) < k
  | 0, r, h1, h2 => by have : r < csz v n := h2; omega
  | m + 1, r, h1, h2 => by
    unfold cSk at h2 ⊢
    split at h2
    · rename_i h3
      rw [if_pos h3]
      exact cSk_end v k n m (r + 1) (by omega) h2
    · rename_i h3
      rw [if_neg h3]
      exact Nat.lt_of_not_le fun z => h3 ⟨h2, z⟩
/-- .. for good -/
def cNe (v : cc_U) (k n r : Nat) : Nat := cSk v k n (csz v n + 1) r
set_option maxRecDepth 100000 in
set_option maxHeartbeats 4000000 in
theorem ce_hn {v : cc_U} {X : px_M} {n k : Nat} (f : Nat → Nat) (h0 : cx v 14 0) (h8 : cx v 14 8) (h : cBh v n) (hf : f n ≤ csz v n) (hk : k ≤ 40) (ht : ∀ g, g < 8 → cn v 14 8 g ≤ 1000) : px_Met 1 0 0 mX4_hasNext [.inr (14, 0), .inr (3, n), .inl (.int (nI k))] (cc_M (cNx v f) X) (px_rt (some (.inl (.int (nI (if cNe v k n (f n) < csz v n then 1 else 0))))) (cc_M (cNx v (px_upN f n (cNe v k n (f n)))) X)) := by
  refine px_ofW (by decide) W_mX4_hasNext (Nat.le_of_ble_eq_true rfl) ?_
  have hz := h.2.1.2.2.2.2.2.2.2.2
  have hwb := cc_wl_b (cn v 3 n 2)
  have hszb : csz v n ≤ 320 := Nat.le_trans hz hwb
  have loop : ∀ (m r : Nat), csz v n < r + m → r ≤ csz v n → px_W 1 0 0 mX4_hasNext (px_rt (some (.inl (.int (nI (if cSk v k n m r < csz v n then 1 else 0))))) (cc_M (cNx v (px_upN f n (cSk v k n m r))) X)) 11 [(0, .inr (14, 0)), (1, .inr (3, n)), (2, .inl (.int (nI k))), (3, .inl (.int (nI (csz v n))))] [] (cc_M (cNx v (px_upN f n r)) X) 0 0 := by
    intro m
    induction m with
    | zero => intro r h1 h2; omega
    | succ m ih =>
      intro r h1 h2
      have h' := (cBhX v (px_upN f n r) n).mpr h
      have k3 := h'.1
      have k0 := (cxX v (px_upN f n r) 14 0).mpr h0
      have k8 := (cxX v (px_upN f n r) 14 8).mpr h8
      have e4 : ((cNx v (px_upN f n r) 3 n).1 4 : Nat) = r := by
        show px_upN f n r n = r
        exact if_pos rfl
      have fin : ∀ r', r' = cSk v k n (m + 1) r → r' = r → px_W 1 0 0 mX4_hasNext (px_rt (some (.inl (.int (nI (if cSk v k n (m + 1) r < csz v n then 1 else 0))))) (cc_M (cNx v (px_upN f n (cSk v k n (m + 1) r))) X)) 46 [(0, .inr (14, 0)), (1, .inr (3, n)), (2, .inl (.int (nI k))), (3, .inl (.int (nI (csz v n))))] [] (cc_M (cNx v (px_upN f n r)) X) 0 0 := by
        intro r' e1 e2
        have e3 : cSk v k n (m + 1) r = r := e1.symm.trans e2
        rw [e3]
        refine px_aload_n dX4_hasNext_46 rfl trivial ?_
        refine px_getf dX4_hasNext_47 F_RX4_248 (cc_step (by first | assumption | (simp only [cxN, cxZ, cxS, cxL, cxR]; assumption))) (by rfl) ?_
        refine px_iload_n dX4_hasNext_50 rfl ?_
        rw [e4]
        refine pn_icmp_ge (tgt := 58) dX4_hasNext_51 (by decide) (nI_leI (by omega) (by omega)) (fun g7 => ?_) (fun g7 => ?_)
        · refine px_iconst (v := nI 0) dX4_hasNext_58 (by decide) ?_
          refine px_zret dX4_hasNext_59 rfl (by first | decide | assumption) ?_ (by omega) (by omega)
          exact ⟨by rw [if_neg (by omega)], rfl⟩
        · refine px_iconst (v := nI 1) dX4_hasNext_54 (by decide) ?_
          refine px_goto (tgt := 59) dX4_hasNext_55 (by decide) ?_
          refine px_zret dX4_hasNext_59 rfl (by first | decide | assumption) ?_ (by omega) (by omega)
          exact ⟨by rw [if_pos (by omega)], rfl⟩
      refine px_aload_n dX4_hasNext_11 rfl trivial ?_
      refine px_getf dX4_hasNext_12 F_RX4_248 (cc_step (by first | assumption | (simp only [cxN, cxZ, cxS, cxL, cxR]; assumption))) (by rfl) ?_
      refine px_iload_n dX4_hasNext_15 rfl ?_
      rw [e4]
      refine pn_icmp_ge (tgt := 46) dX4_hasNext_16 (by decide) (nI_leI (by omega) (by omega)) (fun g1 => ?_) (fun g1 => ?_)
      · refine px_sub (fin r ?_ rfl) rfl
        unfold cSk
        rw [if_neg (by omega)]
      · have hr : r < csz v n := by omega
        have hr' : cn (cNx v (px_upN f n r)) 3 n 4 < csz (cNx v (px_upN f n r)) n := by rw [cszX]; show ((cNx v (px_upN f n r) 3 n).1 4 : Nat) < _; rw [e4]; exact hr
        have hg := h.2.2.1 r hr
        have htg := ht _ hg.1
        refine px_aload_n dX4_hasNext_19 rfl trivial ?_
        refine px_getf dX4_hasNext_20 F_RX4_47 (cc_obj (by first | assumption | (simp only [cxN, cxZ, cxS, cxL, cxR]; assumption))) (by rfl) ?_
        refine px_aload_n dX4_hasNext_23 rfl trivial ?_
        refine px_aload_n dX4_hasNext_24 rfl trivial ?_
        refine px_callVr (ce_gon k0 h' hr') dX4_hasNext_25 L_RX4_267 (cc_rc4 (by first | assumption | (simp only [cxN, cxZ, cxS, cxL, cxR]; assumption))) rfl rfl (by decide) (by omega) (by omega) (Nat.le_of_ble_eq_true rfl) ?_
        rw [cgpX, show cn (cNx v (px_upN f n r)) 3 n 4 = r from e4]
        have hg1 := hg.1
        refine ca_tak dX4_hasNext_28 (by first | assumption | (simp only [cxN, cxZ, cxS, cxL, cxR]; assumption)) (by first | rfl | assumption) (by first | assumption | omega) ?_
        refine px_iload_n dX4_hasNext_29 rfl ?_
        rw [cnX v _ 14 8 _ (by omega)]
        refine pn_icmp_lt (tgt := 46) dX4_hasNext_30 (by decide) (nI_ltI (by omega) (by omega)) (fun g2 => ?_) (fun g2 => ?_)
        · refine px_sub (fin r ?_ rfl) rfl
          unfold cSk
          rw [if_neg (by omega)]
        · refine px_aload_n dX4_hasNext_33 rfl trivial ?_
          refine px_dup dX4_hasNext_34 rfl ?_
          refine px_getf dX4_hasNext_35 F_RX4_248 (cc_step (by first | assumption | (simp only [cxN, cxZ, cxS, cxL, cxR]; assumption))) (by rfl) ?_
          rw [e4]
          refine px_iconst (v := nI 1) dX4_hasNext_38 (by decide) ?_
          refine pn_iadd dX4_hasNext_39 (by first | exact nI_add _ _ | rfl) ?_
          refine cp_next dX4_hasNext_40 F_RX4_248 (by first | assumption | (simp only [cxN, cxZ, cxS, cxL, cxR]; assumption)) rfl ?_
          refine px_goto (tgt := 11) dX4_hasNext_43 (by decide) ?_
          have ih1 := ih (r + 1) (by omega) (by omega)
          rw [show cSk v k n (m + 1) r = cSk v k n m (r + 1) by rw [cSk, if_pos ⟨hr, by omega⟩]]
          have eN : cN (cNx v (px_upN f n r)) 3 n 4 (r + 1) = cNx v (px_upN f n (r + 1)) := by
            rw [cNx_N]
            congr 1
            funext q
            unfold px_upN
            split <;> rfl
          rw [eN]
          exact px_sub ih1 rfl
  have h' := (cBhX v f n).mpr h
  have k3 := h'.1
  have kp := h'.2.1
  have kp' := kp
  unfold cn at kp'
  have kp2 := kp'.1
  have kp7 := kp'.2.1
  have es : ((cNx v f 7 ((cNx v f 3 n).1 2)).1 0 : Nat) = csz v n := by
    show csz (cNx v f) n = csz v n
    exact cszX v f n
  refine px_aload_n dX4_hasNext_0 rfl trivial ?_
  refine px_getf dX4_hasNext_1 F_RX4_191 (cc_step (by first | assumption | (simp only [cxN, cxZ, cxS, cxL, cxR]; assumption))) (by rfl) ?_
  refine px_getf dX4_hasNext_4 F_RX4_60 (cc_pin (by first | assumption | (simp only [cxN, cxZ, cxS, cxL, cxR]; assumption))) (by rfl) ?_
  refine px_getf dX4_hasNext_7 F_RX4_64 (cc_ways (by first | assumption | (simp only [cxN, cxZ, cxS, cxL, cxR]; assumption))) (by rfl) ?_
  rw [es]
  refine px_istore_n dX4_hasNext_10 (by decide) ?_
  have e0 : px_upN f n (f n) = f := by
    funext q
    unfold px_upN
    split
    · rename_i e; rw [e]
    · rfl
  have := loop (csz v n + 1) (f n) (by omega) hf
  rw [e0] at this
  exact px_sub this rfl
