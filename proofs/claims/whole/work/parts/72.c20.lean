/-! ===== gather ===== -/
/-- all but p's ways, the nexts and the counts is as it was -/
def cGf (p : Nat) (u v : cc_U) : Prop := (∀ k i, cx v k i ↔ cx u k i) ∧ (∀ k i, cl v k i = cl u k i) ∧ (∀ k i j, ¬ (k = 3 ∧ j = 4) → ¬ (k = 7 ∧ i = p) → ¬ (k = 10 ∧ i = p) → ¬ (k = 11 ∧ i = p) → ¬ (k = 14 ∧ i = 8) → cn v k i j = cn u k i j) ∧ (∀ k i j, ¬ (k = 8 ∧ i = p) → cz v k i j = cz u k i j) ∧ ∀ k i j, ¬ (k = 9 ∧ i = p) → cs v k i j = cs u k i j
theorem cGf.rf (p : Nat) (u : cc_U) : cGf p u u := ⟨fun _ _ => Iff.rfl, fun _ _ => rfl, fun _ _ _ _ _ _ _ _ => rfl, fun _ _ _ _ => rfl, fun _ _ _ _ => rfl⟩
theorem cGf.tr {p : Nat} {u v w : cc_U} (h : cGf p u v) (g : cGf p v w) : cGf p u w := ⟨fun k i => (g.1 k i).trans (h.1 k i), fun k i => (g.2.1 k i).trans (h.2.1 k i), fun k i j a b c d e => (g.2.2.1 k i j a b c d e).trans (h.2.2.1 k i j a b c d e), fun k i j a => (g.2.2.2.1 k i j a).trans (h.2.2.2.1 k i j a), fun k i j a => (g.2.2.2.2 k i j a).trans (h.2.2.2.2 k i j a)⟩
theorem cGf.nx (p : Nat) (u : cc_U) (f : Nat → Nat) : cGf p u (cNx u f) := ⟨fun k i => cxX u f k i, fun k i => clX u f k i, fun k i j a _ _ _ _ => cnX u f k i j a, fun k i j _ => czX u f k i j, fun k i j _ => csX u f k i j⟩
theorem cGf.tk (p : Nat) (u : cc_U) (n m : Nat) : cGf p u (cTk u p n m) := by
  unfold cTk
  refine ⟨fun k i => by rw [cxN, cxN, cxN, cxN, cxN, cxS, cxZ], fun k i => by rw [clN, clN, clN, clN, clN, clS, clZ], fun k i j a b c d e => ?_, fun k i j a => ?_, fun k i j a => ?_⟩
  · rw [cnN, if_neg (by omega), cnN, if_neg (by omega), cnN, if_neg (by omega), cnN, if_neg (by omega), cnN, if_neg (by omega), cnS, cnZ]
  · rw [czN, czN, czN, czN, czN, czS, czZ, if_neg (by omega)]
  · rw [csN, csN, csN, csN, csN, csS, if_neg (by omega), csZ]
theorem cGf.pn {p : Nat} {u v : cc_U} (h : cGf p u v) {q : Nat} (hq : q ≠ p) : cPn v q ↔ cPn u q := by
  unfold cPn
  simp only [h.1]
  rw [h.2.2.1 7 q 0 (by omega) (by omega) (by omega) (by omega) (by omega)]
theorem cGf.stp {p : Nat} {u v : cc_U} (h : cGf p u v) (n : Nat) {j : Nat} (hj : j ≠ 4) : cn v 3 n j = cn u 3 n j := h.2.2.1 3 n j (by omega) (by omega) (by omega) (by omega) (by omega)
theorem cGf.bh {p : Nat} {u v : cc_U} (h : cGf p u v) {n : Nat} (hq : cn u 3 n 2 ≠ p) : csz v n = csz u n ∧ (∀ r, clf v n r = clf u n r ∧ cgp v n r = cgp u n r) ∧ (cBh v n ↔ cBh u n) := by
  have e2 := h.stp n (j := 2) (by decide)
  have e3 := h.stp n (j := 3) (by decide)
  have z3 := h.2.2.2.1 3 n 0 (by omega)
  have s1 : csz v n = csz u n := by unfold csz; rw [e2]; exact h.2.2.1 7 _ 0 (by omega) (by omega) (by omega) (by omega) (by omega)
  have z8 : ∀ r, cz v 8 (cn u 3 n 2) r = cz u 8 (cn u 3 n 2) r := fun r => h.2.2.2.1 8 _ r (by omega)
  have s3 : ∀ r, cgp v n r = cgp u n r := fun r => by unfold cgp; rw [e2, e3, h.2.2.1 11 _ r (by omega) (by omega) (by omega) (by omega) (by omega)]
  refine ⟨s1, fun r => ⟨by unfold clf; rw [e2, z3, z8], s3 r⟩, ?_⟩
  unfold cBh
  simp only [h.1, e2, h.pn hq, s1, s3, z8, z3]
/-- what stands behind p's steps -/
def cGp (u : cc_U) (p : Nat) (L : List Nat) (cd : Nat → List cW) (gr : cW → Nat) : Prop := ∀ n ∈ L, cBh u n ∧ cn u 3 n 2 ≠ p ∧ csz u n = (cd n).length ∧ ∀ r, r < (cd n).length → clf u n r = (cWy cd (n, r)).1 ∧ cgp u n r = gr (cWy cd (n, r))
def cGI (u : cc_U) (p k : Nat) (L : List Nat) (cd : Nat → List cW) (st : Nat → Nat) (gr : cW → Nat) (v : cc_U) (A : List (Nat × Nat)) (nx : Nat → Nat) : Prop :=
  cGf p u v ∧ cMI L cd st gr k A nx ∧ (∀ n ∈ L, cn v 3 n 4 = nx n) ∧ cn v 7 p 0 = A.length ∧ A.length ≤ 320 ∧ (∀ j a, A[j]? = some a → cs v 9 p j = some (3, a.1) ∧ cn v 10 p j = a.2 ∧ cz v 8 p j = (cWy cd a).1 ∧ cn v 11 p j = gr (cWy cd a)) ∧
  (∀ g, g < 8 → cn v 14 8 g = cCt cd gr A g) ∧ (∀ j r, cs v 9 p j = some r → ∃ n, r = (3, n) ∧ cx u 3 n) ∧ ∀ j, cn v 10 p j ≤ 320
theorem cTk9 (v : cc_U) (p n m j : Nat) : cs (cTk v p n m) 9 p j = if j = m then some (3, n) else cs v 9 p j := by
  unfold cTk
  rw [csN, csN, csN, csN, csN, csS]
  by_cases e : j = m
  · rw [if_pos ⟨rfl, rfl, e⟩, if_pos e]
  · rw [if_neg (fun z => e z.2.2), if_neg e, csZ]
theorem cTk10 (v : cc_U) (p n m j : Nat) : cn (cTk v p n m) 10 p j = if j = m then cn v 3 n 4 else cn v 10 p j := by
  unfold cTk
  rw [cnN, if_neg (by omega), cnN, if_neg (by omega), cnN, if_neg (by omega), cnN, if_neg (by omega), cnN]
  by_cases e : j = m
  · rw [if_pos ⟨rfl, rfl, e⟩, if_pos e]
  · rw [if_neg (fun z => e z.2.2), if_neg e, cnS, cnZ]
theorem cTk11 (v : cc_U) (p n m j : Nat) : cn (cTk v p n m) 11 p j = if j = m then cgp v n (cn v 3 n 4) else cn v 11 p j := by
  unfold cTk
  rw [cnN, if_neg (by omega), cnN, if_neg (by omega), cnN, if_neg (by omega), cnN]
  by_cases e : j = m
  · rw [if_pos ⟨rfl, rfl, e⟩, if_pos e]
  · rw [if_neg (fun z => e z.2.2), if_neg e, cnN, if_neg (by omega), cnS, cnZ]
theorem cTk8 (v : cc_U) (p n m j : Nat) : cz (cTk v p n m) 8 p j = if j = m then clf v n (cn v 3 n 4) else cz v 8 p j := by
  unfold cTk
  rw [czN, czN, czN, czN, czN, czS, czZ]
  by_cases e : j = m
  · rw [if_pos ⟨rfl, rfl, e⟩, if_pos e]
  · rw [if_neg (fun z => e z.2.2), if_neg e]
theorem cTk148 (v : cc_U) (p n m j : Nat) : cn (cTk v p n m) 14 8 j = if j = cgp v n (cn v 3 n 4) then cn v 14 8 (cgp v n (cn v 3 n 4)) + 1 else cn v 14 8 j := by
  unfold cTk
  rw [cnN, if_neg (by omega), cnN]
  by_cases e : j = cgp v n (cn v 3 n 4)
  · rw [if_pos ⟨rfl, rfl, e⟩, if_pos e]
  · rw [if_neg (fun z => e z.2.2), if_neg e, cnN, if_neg (by omega), cnN, if_neg (by omega), cnN, if_neg (by omega), cnS, cnZ]
section CGG
variable {u : cc_U} {p k : Nat} {L : List Nat} {cd : Nat → List cW} {st : Nat → Nat} {gr : cW → Nat} {v : cc_U} {A : List (Nat × Nat)} {nx : Nat → Nat}
/-- firstOf's work -/
theorem cGI.first (hP : cGp u p L cd gr) (h : cGI u p k L cd st gr v A nx) (F : Nat → Nat) (hF : ∀ n, F n = cNe v k n (cn v 3 n 4)) : cGI u p k L cd st gr (cNx v (fun n => if n ∈ L then F n else cn v 3 n 4)) A F ∧ (∀ n ∈ L, F n < (cd n).length → cCt cd gr A (gr (cWy cd (n, F n))) < k) := by
  obtain ⟨h1, h2, h3, h4, h5, h6, h7, h8, h9⟩ := id h
  have sz : ∀ n ∈ L, csz v n = (cd n).length := fun n hn => ((h1.bh (hP n hn).2.1).1).trans (hP n hn).2.2.1
  have gp : ∀ n ∈ L, ∀ r, r < (cd n).length → cgp v n r = gr (cWy cd (n, r)) ∧ gr (cWy cd (n, r)) < 8 := fun n hn r hr => by
    have e1 := ((h1.bh (hP n hn).2.1).2.1 r).2
    have e2 := ((hP n hn).2.2.2 r hr).2
    have e3 := ((hP n hn).1.2.2.1 r (by rw [(hP n hn).2.2.1]; exact hr)).1
    rw [e2] at e3
    exact ⟨e1.trans e2, e3⟩
  have f1 : ∀ n ∈ L, nx n ≤ F n ∧ F n ≤ (cd n).length := fun n hn => by
    have := (h2.2.1 n hn).2
    rw [hF, h3 n hn]
    exact ⟨cSk_ge _ _ _ _ _, by rw [← sz n hn]; exact cSk_le _ _ _ _ _ (by rw [sz n hn]; exact this)⟩
  have f2 : ∀ n ∈ L, ∀ r, nx n ≤ r → r < F n → k ≤ cCt cd gr A (gr (cWy cd (n, r))) := fun n hn r g1 g2 => by
    have g3 := (f1 n hn).2
    rw [hF, h3 n hn] at g2
    have := cSk_full v k n _ _ r g1 g2
    obtain ⟨e1, e2⟩ := gp n hn r (by rw [hF, h3 n hn] at g3; omega)
    rw [e1, h7 _ e2] at this
    exact this
  refine ⟨⟨h1.tr (cGf.nx p v _), h2.skip f1 f2, fun n hn => by rw [cnX4]; exact if_pos hn, by rw [cnX _ _ _ _ _ (by omega)]; exact h4, h5, fun j a ha => ?_, fun g hg => by rw [cnX _ _ _ _ _ (by omega)]; exact h7 g hg, fun j r hr => by rw [csX] at hr; exact h8 j r hr, fun j => by rw [cnX _ _ _ _ _ (by omega)]; exact h9 j⟩, fun n hn hlt => ?_⟩
  · rw [csX, czX, cnX _ _ _ _ _ (by omega), cnX _ _ _ _ _ (by omega)]; exact h6 j a ha
  · obtain ⟨e1, e2⟩ := gp n hn _ hlt
    have g3 := cSk_end v k n (csz v n + 1) (cn v 3 n 4) (by omega) (by
      show cNe v k n (cn v 3 n 4) < _
      rw [← hF, sz n hn]; exact hlt)
    rw [← h7 _ e2, ← e1, hF]
    exact g3
/-- take's work -/
theorem cGI.take (hM : cMg L cd st gr) (hP : cGp u p L cd gr) (h : cGI u p k L cd st gr v A nx) {b : Nat} {T1 T2 : List Nat} (hL : L = T1 ++ b :: T2) (hb : nx b < (cd b).length) (hc : cCt cd gr A (gr (cWy cd (b, nx b))) < k) (hm1 : ∀ m ∈ T1, nx m < (cd m).length → (cWy cd (b, nx b)).1 < (cWy cd (m, nx m)).1) (hm2 : ∀ m ∈ T2, nx m < (cd m).length → (cWy cd (b, nx b)).1 ≤ (cWy cd (m, nx m)).1) (hA : A.length < 320) :
    cGI u p k L cd st gr (cTk v p b A.length) (A ++ [(b, nx b)]) (px_upN nx b (nx b + 1)) := by
  obtain ⟨h1, h2, h3, h4, h5, h6, h7, h8, h9⟩ := id h
  have hbL : b ∈ L := by rw [hL]; simp
  have e1 := (h1.bh (hP b hbL).2.1).2.1 (nx b)
  have e2 := (hP b hbL).2.2.2 (nx b) hb
  have e3 := h3 b hbL
  have hg8 := ((hP b hbL).1.2.2.1 (nx b) (by rw [(hP b hbL).2.2.1]; exact hb)).1
  rw [e2.2] at hg8
  have hnb : nx b < 320 := by
    have := (hP b hbL).1.2.1.2.2.2.2.2.2.2.2
    have h9 := cc_wl_b (cn u 3 b 2)
    have h8 := (hP b hbL).2.2.1
    unfold csz at h8
    omega
  have lf : clf v b (cn v 3 b 4) = (cWy cd (b, nx b)).1 := by rw [e3, e1.1, e2.1]
  have gp : cgp v b (cn v 3 b 4) = gr (cWy cd (b, nx b)) := by rw [e3, e1.2, e2.2]
  have fr := cGf.tk p v b A.length
  refine ⟨h1.tr fr, h2.take hM hL hb hc hm1 hm2, fun n hn => ?_, ?_, by simp; omega, fun j a ha => ?_, fun g hg => ?_, fun j r hr => ?_, fun j => ?_⟩
  · unfold cTk px_upN
    rw [cnN]
    by_cases e : n = b
    · rw [if_pos ⟨rfl, e, rfl⟩, if_pos e, e3]
    · rw [if_neg (fun z => e z.2.1), if_neg e, cnN, if_neg (by omega), cnN, if_neg (by omega), cnN, if_neg (by omega), cnN, if_neg (by omega), cnS, cnZ]
      exact h3 n hn
  · unfold cTk
    rw [cnN, if_neg (by omega), cnN, if_neg (by omega), cnN, if_pos ⟨rfl, rfl, rfl⟩, List.length_append]; rfl
  · rw [cTk9, cTk10, cTk8, cTk11]
    rcases Nat.lt_or_ge j A.length with g | g
    · rw [List.getElem?_append_left g] at ha
      rw [if_neg (by omega), if_neg (by omega), if_neg (by omega), if_neg (by omega)]
      exact h6 j a ha
    · have g2 : j < A.length + 1 := by have := (List.getElem?_eq_some_iff.mp ha).1; simp at this; omega
      obtain rfl : j = A.length := by omega
      rw [List.getElem?_append_right (Nat.le_refl _), Nat.sub_self] at ha
      obtain rfl : (b, nx b) = a := Option.some.inj ha
      rw [if_pos rfl, if_pos rfl, if_pos rfl, if_pos rfl, lf, gp]
      exact ⟨rfl, e3, rfl, rfl⟩
  · rw [cCt_app, cTk148, gp, h7 _ hg8]
    by_cases e : gr (cWy cd (b, nx b)) = g
    · rw [if_pos e.symm, if_pos e, e]
    · rw [if_neg (fun z => e z.symm), if_neg e]
      exact h7 g hg
  · rw [cTk9] at hr
    split at hr
    · exact ⟨b, (Option.some.inj hr).symm, (hP b hbL).1.1⟩
    · exact h8 j r hr
  · rw [cTk10]
    split
    · rw [e3]; omega
    · exact h9 j
end CGG
theorem cPo_c {p : Nat} {u v : cc_U} (h : cGf p u v) (j : Nat) : cPo v j = cPo u j := by
  unfold cPo
  rw [h.2.2.1 14 7 j (by omega) (by omega) (by omega) (by omega) (by omega)]
  cases cn u 14 7 j with
  | zero => rfl
  | succ q => exact h.2.2.1 2 q 0 (by omega) (by omega) (by omega) (by omega) (by omega)
theorem cLv_c {p : Nat} {u v : cc_U} (h : cGf p u v) (n : Nat) : cLv v n ↔ cLv u n := by
  unfold cLv
  simp only [cPo_c h, h.stp n (j := 1) (by decide), h.stp n (j := 2) (by decide), fun q => h.2.2.1 2 q 0 (by omega) (by omega) (by omega) (by omega) (by omega)]
theorem cThr_c {p N : Nat} {u v : cc_U} (h : cGf p u v) (ht : cThr u N) : cThr v N := by
  obtain ⟨a1, a2, a3, a4, a5, a6, a7⟩ := ht
  refine ⟨(h.1 _ _).mpr a1, (h.1 _ _).mpr a2, (h.1 _ _).mpr a3, by rw [h.2.1]; exact a4, a5, fun q hq => ⟨(h.1 _ _).mpr (a6 q hq).1, ?_⟩, fun j hj => ?_⟩
  · rw [h.2.2.1 2 q 0 (by omega) (by omega) (by omega) (by omega) (by omega)]; exact (a6 q hq).2
  · rw [h.2.2.1 14 7 j (by omega) (by omega) (by omega) (by omega) (by omega)]; exact a7 j hj
theorem cR_eq {u : cc_U} {X : px_M} (h8 : cx u 14 8) (f : Nat → Int32) (g : Nat → Nat) (hf : ∀ j, f j = nI (g j)) : px_up (cc_M u X) (14, 8) (.inr (.inl (0, 8, .inl f))) = cc_M (cR u 14 8 g) X := by
  have e : f = fun j => nI (g j) := funext hf
  subst e
  exact cc_upx (e := (g, (u 14 8).2)) (by decide) h8 rfl rfl
set_option maxRecDepth 100000 in
set_option maxHeartbeats 4000000 in
theorem ce_gather {u : cc_U} {X : px_M} (hX : c9 X) {p k N : Nat} {L : List Nat} {cd : Nat → List cW} {st : Nat → Nat} {gr : cW → Nat} (hT : cThr u N) (h8 : cx u 14 8) (hp : cPn u p) (hp61 : p ≠ 61) (hL : cl u 13 p = c3 L) (hl : L.length ≤ 200) (hM : cMg L cd st gr) (hP : cGp u p L cd gr) (hpl : ∀ n ∈ L, cx u 2 (cn u 3 n 1) ∧ cn u 2 (cn u 3 n 1) 0 ≤ 100 ∧ cn u 2 (cn u 3 n 2) 0 ≤ 100) (hst : ∀ n ∈ L, (cLv u n → st n = (cd n).length) ∧ (¬ cLv u n → st n = 0)) (hk : k ≤ 40) (hsl : ∀ j r, cs u 9 p j = some r → ∃ n, r = (3, n) ∧ cx u 3 n) (hrl : ∀ j, cn u 10 p j ≤ 320) :
    px_Met 5 0 0 mX4_gather [.inr (14, 0), .inr (2, p), .inl (.int (nI k))] (cc_M u X) (fun o M' => o = .inl none ∧ ∃ v A nx, M' = cc_M v X ∧ cGI u p k L cd st gr v A nx ∧ ((∀ b ∈ L, (cd b).length ≤ nx b) ∨ A.length = 320)) := by
  refine px_ofW (by decide) W_mX4_gather (Nat.le_of_ble_eq_true rfl) ?_
  obtain ⟨p2, p7, p8, p9, p10, p11, p12, p13, p14⟩ := id hp
  have h0 := hT.1
  have hw : cc_wl p = 320 := if_neg hp61
  -- the taking
  have lp : ∀ (m : Nat) (v : cc_U) (A : List (Nat × Nat)) (nx : Nat → Nat) (lv5 : px_V), A.length + m = 320 → cGI u p k L cd st gr v A nx → px_W 5 0 0 mX4_gather (fun o M' => o = .inl none ∧ ∃ v A nx, M' = cc_M v X ∧ cGI u p k L cd st gr v A nx ∧ ((∀ b ∈ L, (cd b).length ≤ nx b) ∨ A.length = 320)) 85 [(0, .inr (14, 0)), (1, .inr (2, p)), (2, .inl (.int (nI k))), (3, .inr (7, p)), (4, .inl (.int (nI A.length)))] [] (cc_M v X) 0 0 := by
    intro m
    induction m with
    | zero =>
      intro v A nx lv5 e1 hI
      have k7 := (hI.1.1 7 p).mpr p7
      have k8 := (hI.1.1 8 p).mpr p8
      refine px_iload dX4_gather_85 rfl ?_
      refine px_aload_n dX4_gather_87 rfl trivial ?_
      refine px_getf dX4_gather_88 F_RX4_157 (cc_ways (by first | assumption | (simp only [cxN, cxZ, cxS, cxL, cxR]; assumption))) (by rfl) ?_
      refine px_alen dX4_gather_91 (cc_at k8 (by decide) rfl) (by decide) ?_
      rw [hw]
      refine pn_icmp_ge (tgt := 125) dX4_gather_92 (by decide) (nI_leI (by omega) (by omega)) (fun g1 => ?_) (fun g1 => ?_)
      · refine px_vret dX4_gather_125 rfl ?_ (by omega) (by omega)
        exact ⟨rfl, v, A, nx, rfl, hI, Or.inr (by omega)⟩
      · omega
    | succ m ih =>
      intro v A nx lv5 e1 hI
      have hfr := hI.1
      have k0 := (hfr.1 14 0).mpr h0
      have k7 := (hfr.1 7 p).mpr p7
      have k8 := (hfr.1 8 p).mpr p8
      have k2 := (hfr.1 2 p).mpr p2
      have k148 := (hfr.1 14 8).mpr h8
      have k13 := (hfr.1 13 p).mpr p13
      have sz : ∀ n ∈ L, csz v n = (cd n).length := fun n hn => ((hfr.bh (hP n hn).2.1).1).trans (hP n hn).2.2.1
      have lf : ∀ n ∈ L, ∀ r, r < (cd n).length → clf v n r = (cWy cd (n, r)).1 := fun n hn r hr => (((hfr.bh (hP n hn).2.1).2.1 r).1).trans ((hP n hn).2.2.2 r hr).1
      have hcb : ∀ g, cCt cd gr A g ≤ 1000 := fun g => by have := hI.2.1.2.2.2.1 g; omega
      refine px_iload dX4_gather_85 rfl ?_
      refine px_aload_n dX4_gather_87 rfl trivial ?_
      refine px_getf dX4_gather_88 F_RX4_157 (cc_ways (by first | assumption | (simp only [cxN, cxZ, cxS, cxL, cxR]; assumption))) (by rfl) ?_
      refine px_alen dX4_gather_91 (cc_at k8 (by decide) rfl) (by decide) ?_
      rw [hw]
      refine pn_icmp_ge (tgt := 125) dX4_gather_92 (by decide) (nI_leI (by omega) (by omega)) (fun g1 => ?_) (fun g1 => ?_)
      · omega
      refine px_aload_n dX4_gather_95 rfl trivial ?_
      refine px_aload_n dX4_gather_96 rfl trivial ?_
      refine px_getf dX4_gather_97 F_RX4_120 (cc_pin (by first | assumption | (simp only [cxN, cxZ, cxS, cxL, cxR]; assumption))) (by rfl) ?_
      refine px_iload_n dX4_gather_100 rfl ?_
      have hf1 := ce_first (X := X) (v := v) hX (p := p) (k := k) (L := L) (fun n => cn v 3 n 4) k0 k148 k13 (by rw [hfr.2.1]; exact hL) hl hM.1 (fun n hn => ⟨((hfr.bh (hP n hn).2.1).2.2).mpr (hP n hn).1, by
        show cn v 3 n 4 ≤ _
        rw [hI.2.2.1 n hn, sz n hn]; exact (hI.2.1.2.1 n hn).2⟩) hk (fun g hg => by rw [hI.2.2.2.2.2.2.1 g hg]; exact hcb g)
      rw [cNx_id] at hf1
      refine px_callV (hf1) dX4_gather_101 L_RX4_251 (cc_rc4 (by first | assumption | (simp only [cxN, cxZ, cxS, cxL, cxR]; assumption))) rfl rfl (by decide) (by omega) (by omega) (Nat.le_of_ble_eq_true rfl) (fun v9 M9 hq => ?_) (fun E9 M9 hq => ?_)
      · obtain ⟨b, e2, hB, rfl⟩ := hq
        cases e2
        obtain ⟨F, hFF⟩ : ∃ F : Nat → Nat, ∀ n, F n = cNe v k n (cn v 3 n 4) := ⟨_, fun _ => rfl⟩
        have eB : (fun n => cNe v k n (cn v 3 n 4)) = F := funext fun n => (hFF n).symm
        rw [eB] at hB
        have eW : (fun n => if n ∈ L then cNe v k n (cn v 3 n 4) else cn v 3 n 4) = fun n => if n ∈ L then F n else cn v 3 n 4 := funext fun n => by rw [hFF]
        rw [eW]
        obtain ⟨hI1, hful⟩ := hI.first hP F hFF
        generalize cNx v (fun n => if n ∈ L then F n else cn v 3 n 4) = v2 at hI1
        have hfr2 := hI1.1
        refine px_astore dX4_gather_104 (by decide) (px_rf_ref _) ?_
        refine px_aload dX4_gather_106 rfl (px_rf_ref _) ?_
        cases b with
        | none =>
          refine px_ifnonnull (o := none) (tgt := 112) dX4_gather_108 (by decide) (fun r h => by cases h) (fun _ => ?_)
          refine px_vret dX4_gather_111 rfl ?_ (by omega) (by omega)
          refine ⟨rfl, v2, A, F, rfl, hI1, Or.inl fun b hb => ?_⟩
          have := hB.2 rfl b hb
          rw [sz b hb] at this
          omega
        | some b =>
          refine px_ifnonnull (o := some (3, b)) (tgt := 112) dX4_gather_108 (by decide) (fun r h => ?_) (fun h => by cases h)
          obtain ⟨T1, T2, eL, b1, b2, b3⟩ := hB.1 b rfl
          have hbL : b ∈ L := by rw [eL]; simp
          have b1' : F b < (cd b).length := by rw [← sz b hbL]; exact b1
          have hI2 := hI1.take hM hP eL b1' (hful b hbL b1') (fun m hm hl => by
            have hmL : m ∈ L := by rw [eL]; simp [hm]
            rw [← lf b hbL _ b1', ← lf m hmL _ hl]
            exact b2 m hm (by rw [sz m hmL]; exact hl)) (fun m hm hl => by
            have hmL : m ∈ L := by rw [eL]; simp [hm]
            rw [← lf b hbL _ b1', ← lf m hmL _ hl]
            exact b3 m hm (by rw [sz m hmL]; exact hl)) (by omega)
          have kk0 := (hfr2.1 14 0).mpr h0
          have kk8 := (hfr2.1 14 8).mpr h8
          have kp2 : cPn v2 p := by
            unfold cPn
            simp only [hfr2.1]
            exact ⟨p2, p7, p8, p9, p10, p11, p12, p13, by rw [hI1.2.2.2.1, hw]; omega⟩
          have kb := ((hfr2.bh (hP b hbL).2.1).2.2).mpr (hP b hbL).1
          have kr : cn v2 3 b 4 < csz v2 b := by
            rw [hI1.2.2.1 b hbL, (hfr2.bh (hP b hbL).2.1).1, (hP b hbL).2.2.1]; exact b1'
          refine px_aload_n dX4_gather_112 rfl trivial ?_
          refine px_aload (v := .inr (3, b)) dX4_gather_113 rfl trivial ?_
          refine px_aload_n dX4_gather_115 rfl trivial ?_
          refine px_callVv (ce_take kk0 kk8 kp2 hI1.2.2.2.1 (by rw [hw]; omega) kb kr (fun g hg => by rw [hI1.2.2.2.2.2.2.1 g hg]; exact hcb g)) dX4_gather_116 L_RX4_255 (cc_rc4 (by first | assumption | (simp only [cxN, cxZ, cxS, cxL, cxR]; assumption))) rfl rfl (by decide) (by omega) (by omega) (Nat.le_of_ble_eq_true rfl) ?_
          refine px_iinc dX4_gather_119 rfl (pn_i1 _) (by decide) ?_
          refine px_goto (tgt := 85) dX4_gather_122 (by decide) ?_
          have ih1 := ih _ _ _ (.inr (3, b)) (by rw [List.length_append, List.length_singleton]; omega) hI2
          rw [show (A ++ [(b, F b)]).length = A.length + 1 by simp] at ih1
          exact px_sub ih1 rfl
      · obtain ⟨b, e2, -⟩ := hq
        cases e2
  -- the nexts
  have ln : ∀ (v1 : cc_U), cGf p u v1 → cn v1 7 p 0 = 0 → (∀ g, g < 8 → cn v1 14 8 g = 0) → (∀ j r, cs v1 9 p j = some r → ∃ n, r = (3, n) ∧ cx u 3 n) → (∀ j, cn v1 10 p j ≤ 320) → ∀ (S T : List Nat), T ++ S = L → px_W 5 0 0 mX4_gather (fun o M' => o = .inl none ∧ ∃ v A nx, M' = cc_M v X ∧ cGI u p k L cd st gr v A nx ∧ ((∀ b ∈ L, (cd b).length ≤ nx b) ∨ A.length = 320)) 21 [(0, .inr (14, 0)), (1, .inr (2, p)), (2, .inl (.int (nI k))), (3, .inr (7, p)), (4, .inl (.int (nI T.length)))] [] (cc_M (cNx v1 (fun n => if n ∈ T then st n else cn v1 3 n 4)) X) 0 0 := by
    intro v1 hfr z1 z2 z3 z4 S
    induction S with
    | nil =>
      intro T e1
      rw [List.append_nil] at e1
      subst e1
      have hfr2 := hfr.tr (cGf.nx p v1 (fun n => if n ∈ T then st n else cn v1 3 n 4))
      have k2 := (hfr2.1 2 p).mpr p2
      have k13 := (hfr2.1 13 p).mpr p13
      refine px_iload dX4_gather_21 rfl ?_
      refine px_aload_n dX4_gather_23 rfl trivial ?_
      refine px_getf dX4_gather_24 F_RX4_120 (cc_pin (by first | assumption | (simp only [cxN, cxZ, cxS, cxL, cxR]; assumption))) (by rfl) ?_
      refine px_callVr (cl_size rfl (by first | assumption | (simp only [cxN, cxZ, cxS, cxL, cxR]; assumption)) hX) dX4_gather_27 L_RX4_70 (cc_rcL rfl (by first | assumption | (simp only [cxN, cxZ, cxS, cxL, cxR]; assumption))) rfl rfl (by decide) (by omega) (by omega) (Nat.le_of_ble_eq_true rfl) ?_
      rw [clX, hfr.2.1, hL, List.length_map]
      refine pn_icmp_ge (tgt := 82) dX4_gather_30 (by decide) (nI_leI (by omega) (by omega)) (fun g1 => ?_) (fun g1 => ?_)
      · refine px_iconst (v := nI 0) dX4_gather_82 (by decide) ?_
        refine px_istore dX4_gather_83 (by decide) ?_
        refine px_sub (lp 320 _ [] st (.inl .null) rfl ⟨hfr2, cMI.beg hM, fun n hn => by rw [cnX4]; exact if_pos hn, by rw [cnX _ _ _ _ _ (by omega)]; exact z1, by simp, fun j a ha => by simp at ha, fun g hg => by rw [cnX _ _ _ _ _ (by omega)]; exact z2 g hg, fun j r hr => by rw [csX] at hr; exact z3 j r hr, fun j => by rw [cnX _ _ _ _ _ (by omega)]; exact z4 j⟩) rfl
      · omega
    | cons n S ih =>
      intro T e1
      have hnL : n ∈ L := by rw [← e1]; simp
      have hTl : T.length < L.length := by rw [← e1]; simp
      have ih1 := ih (T ++ [n]) (by rw [← e1]; simp)
      rw [show (T ++ [n]).length = T.length + 1 by simp] at ih1
      have eg : L[T.length]? = some n := by
        rw [← e1, List.getElem?_append_right (Nat.le_refl _), Nat.sub_self]; rfl
      have eF : px_upN (fun m => if m ∈ T then st m else cn v1 3 m 4) n (st n) = fun m => if m ∈ T ++ [n] then st m else cn v1 3 m 4 := by
        funext m
        unfold px_upN
        by_cases em : m = n
        · subst em; rw [if_pos rfl, if_pos (by simp)]
        · rw [if_neg em]
          by_cases hm : m ∈ T
          · simp only [if_pos hm]; rw [if_pos (by simp [hm])]
          · simp only [if_neg hm]; rw [if_neg (by simp [hm, em])]
      have hfr2 := hfr.tr (cGf.nx p v1 (fun n => if n ∈ T then st n else cn v1 3 n 4))
      have k0 := (hfr2.1 14 0).mpr h0
      have k2 := (hfr2.1 2 p).mpr p2
      have k13 := (hfr2.1 13 p).mpr p13
      have bn := hP n hnL
      have k3 := (hfr2.1 3 n).mpr bn.1.1
      have hpl' := hpl n hnL
      have s1 := hfr2.stp n (j := 1) (by decide)
      have s2 := hfr2.stp n (j := 2) (by decide)
      have pl : ∀ q, cn (cNx v1 (fun n => if n ∈ T then st n else cn v1 3 n 4)) 2 q 0 = cn u 2 q 0 := fun q => hfr2.2.2.1 2 q 0 (by omega) (by omega) (by omega) (by omega) (by omega)
      have hlv := cLv_c hfr2 n
      have bh2 := hfr2.bh bn.2.1
      have kt := ((bh2.2.2).mpr bn.1).2.1
      have ktt := kt
      unfold cn at ktt
      have kt2 := ktt.1
      have kt7 := ktt.2.1
      have fin : ∀ x : Nat, x = st n → px_W 5 0 0 mX4_gather (fun o M' => o = .inl none ∧ ∃ v A nx, M' = cc_M v X ∧ cGI u p k L cd st gr v A nx ∧ ((∀ b ∈ L, (cd b).length ≤ nx b) ∨ A.length = 320)) 73 [(0, .inr (14, 0)), (1, .inr (2, p)), (2, .inl (.int (nI k))), (3, .inr (7, p)), (4, .inl (.int (nI T.length)))] [.inl (.int (nI x)), .inr (3, n)] (cc_M (cNx v1 (fun n => if n ∈ T then st n else cn v1 3 n 4)) X) 0 0 := by
        intro x hx
        subst hx
        refine cp_next dX4_gather_73 F_RX4_248 (by first | assumption | (simp only [cxN, cxZ, cxS, cxL, cxR]; assumption)) rfl ?_
        rw [cNx_N, eF]
        refine px_iinc dX4_gather_76 rfl (pn_i1 _) (by decide) ?_
        refine px_goto (tgt := 21) dX4_gather_79 (by decide) ?_
        exact px_sub ih1 rfl
      refine px_iload dX4_gather_21 rfl ?_
      refine px_aload_n dX4_gather_23 rfl trivial ?_
      refine px_getf dX4_gather_24 F_RX4_120 (cc_pin (by first | assumption | (simp only [cxN, cxZ, cxS, cxL, cxR]; assumption))) (by rfl) ?_
      refine px_callVr (cl_size rfl (by first | assumption | (simp only [cxN, cxZ, cxS, cxL, cxR]; assumption)) hX) dX4_gather_27 L_RX4_70 (cc_rcL rfl (by first | assumption | (simp only [cxN, cxZ, cxS, cxL, cxR]; assumption))) rfl rfl (by decide) (by omega) (by omega) (Nat.le_of_ble_eq_true rfl) ?_
      rw [clX, hfr.2.1, hL, List.length_map]
      refine pn_icmp_ge (tgt := 82) dX4_gather_30 (by decide) (nI_leI (by omega) (by omega)) (fun g1 => ?_) (fun g1 => ?_)
      · omega
      refine px_aload_n dX4_gather_33 rfl trivial ?_
      refine px_getf dX4_gather_34 F_RX4_120 (cc_pin (by first | assumption | (simp only [cxN, cxZ, cxS, cxL, cxR]; assumption))) (by rfl) ?_
      refine px_iload dX4_gather_37 rfl ?_
      refine px_callVr (cl_get (x := (3, n)) (by rw [clX, hfr.2.1, hL]; exact c3_get eg) rfl (by first | assumption | (simp only [cxN, cxZ, cxS, cxL, cxR]; assumption)) hX) dX4_gather_39 L_RX4_98 (cc_rcL rfl (by first | assumption | (simp only [cxN, cxZ, cxS, cxL, cxR]; assumption))) rfl rfl (by decide) (by omega) (by omega) (Nat.le_of_ble_eq_true rfl) ?_
      refine px_cast dX4_gather_42 (cc_step (by first | assumption | (simp only [cxN, cxZ, cxS, cxL, cxR]; assumption))) rfl K_RX4_115 ?_
      refine px_astore dX4_gather_45 (by decide) trivial ?_
      refine px_aload dX4_gather_47 rfl trivial ?_
      refine px_aload_n dX4_gather_49 rfl trivial ?_
      refine px_aload dX4_gather_50 rfl trivial ?_
      refine px_callVr (ce_leaves hX (cThr_c hfr2 hT) k3 (by rw [s1]; exact (hfr2.1 _ _).mpr hpl'.1) kt.1 (by rw [s1, pl]; exact hpl'.2.1) (by rw [s2, pl]; exact hpl'.2.2)) dX4_gather_52 L_RX4_244 (cc_rc4 (by first | assumption | (simp only [cxN, cxZ, cxS, cxL, cxR]; assumption))) rfl rfl (by decide) (by omega) (by omega) (Nat.le_of_ble_eq_true rfl) ?_
      refine pn_if_eq (tgt := 72) dX4_gather_55 (by decide) (px_ch_z _) (fun g9 => ?_) (fun g9 => ?_)
      · refine px_iconst (v := nI 0) dX4_gather_72 (by decide) ?_
        exact px_sub (fin 0 ((hst n hnL).2 (fun z => g9 (hlv.mpr z))).symm) rfl
      · have g8 := hlv.mp (Classical.byContradiction g9)
        refine px_aload dX4_gather_58 rfl trivial ?_
        refine px_getf dX4_gather_60 F_RX4_191 (cc_step (by first | assumption | (simp only [cxN, cxZ, cxS, cxL, cxR]; assumption))) (by rfl) ?_
        refine px_getf dX4_gather_63 F_RX4_60 (cc_pin (by first | assumption | (simp only [cxN, cxZ, cxS, cxL, cxR]; assumption))) (by rfl) ?_
        refine px_getf dX4_gather_66 F_RX4_64 (cc_ways (by first | assumption | (simp only [cxN, cxZ, cxS, cxL, cxR]; assumption))) (by rfl) ?_
        have es : ((cNx v1 (fun n => if n ∈ T then st n else cn v1 3 n 4) 7 ((cNx v1 (fun n => if n ∈ T then st n else cn v1 3 n 4) 3 n).1 2)).1 0 : Nat) = (cd n).length := by
          show csz (cNx v1 (fun n => if n ∈ T then st n else cn v1 3 n 4)) n = _
          rw [bh2.1, bn.2.2.1]
        rw [es]
        refine px_goto (tgt := 73) dX4_gather_69 (by decide) ?_
        exact px_sub (fin _ ((hst n hnL).1 g8).symm) rfl
  refine px_aload_n dX4_gather_0 rfl trivial ?_
  refine px_getf dX4_gather_1 F_RX4_47 (cc_obj (by first | assumption | (simp only [cxN, cxZ, cxS, cxL, cxR]; assumption))) (by rfl) ?_
  refine px_iconst (v := nI 0) dX4_gather_4 (by decide) ?_
  refine px_callSv (jl_fill (len := 8) (f := fun j => nI ((u 14 8).1 j)) (v := nI 0) (by decide) (cc_at h8 (by decide) rfl)) dX4_gather_5 L_RX4_54 rfl rfl (by decide) (by omega) (by omega) (Nat.le_of_ble_eq_true rfl) ?_
  refine px_eqM (cR_eq h8 _ (fun j => if j < 8 then 0 else (u 14 8).1 j) (fun j => by split <;> rfl)) ?_
  have f1 : cGf p u (cR u 14 8 (fun j => if j < 8 then 0 else (u 14 8).1 j)) := ⟨fun k i => cxR u 14 8 k i _, fun k i => clR u 14 8 k i _, fun k i j a b c d e => by rw [cnR, if_neg (by omega)], fun k i j a => czR u 14 8 k i j _, fun k i j a => csR u 14 8 k i j _⟩
  have k2 := (f1.1 2 p).mpr p2
  have k7 := (f1.1 7 p).mpr p7
  refine px_aload_n dX4_gather_8 rfl trivial ?_
  refine px_getf dX4_gather_9 F_RX4_60 (cc_pin (by first | assumption | (simp only [cxN, cxZ, cxS, cxL, cxR]; assumption))) (by rfl) ?_
  refine px_astore_n dX4_gather_12 (by decide) trivial ?_
  refine px_aload_n dX4_gather_13 rfl trivial ?_
  refine px_iconst (v := nI 0) dX4_gather_14 (by decide) ?_
  refine cp_size dX4_gather_15 F_RX4_64 (by first | assumption | (simp only [cxN, cxZ, cxS, cxL, cxR]; assumption)) rfl ?_
  have f2 : cGf p u (cN (cR u 14 8 (fun j => if j < 8 then 0 else (u 14 8).1 j)) 7 p 0 0) := ⟨fun k i => by rw [cxN]; exact f1.1 k i, fun k i => by rw [clN]; exact f1.2.1 k i, fun k i j a b c d e => by rw [cnN, if_neg (by omega)]; exact f1.2.2.1 k i j a b c d e, fun k i j a => by rw [czN]; exact f1.2.2.2.1 k i j a, fun k i j a => by rw [csN]; exact f1.2.2.2.2 k i j a⟩
  refine px_iconst (v := nI 0) dX4_gather_18 (by decide) ?_
  refine px_istore dX4_gather_19 (by decide) ?_
  have := ln _ f2 (by rw [cnN, if_pos ⟨rfl, rfl, rfl⟩]) (fun g hg => by rw [cnN, if_neg (by omega), cnR, if_pos ⟨rfl, rfl⟩, if_pos hg]) (fun j r hr => by rw [csN, csR] at hr; exact hsl j r hr) (fun j => by rw [cnN, if_neg (by omega), cnR, if_neg (by omega)]; exact hrl j) L [] rfl
  have e0 : (fun n => if n ∈ ([] : List Nat) then st n else cn (cN (cR u 14 8 (fun j => if j < 8 then 0 else (u 14 8).1 j)) 7 p 0 0) 3 n 4) = fun n => cn (cN (cR u 14 8 (fun j => if j < 8 then 0 else (u 14 8).1 j)) 7 p 0 0) 3 n 4 := funext fun n => if_neg List.not_mem_nil
  rw [e0, cNx_id] at this
  exact px_sub this rfl
