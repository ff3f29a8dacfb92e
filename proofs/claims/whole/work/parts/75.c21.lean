/-! ===== run: what is gathered ===== -/
def cUp (LL : Nat → List cW) (p : Nat) (W : List cW) : Nat → List cW := fun r => if r = p then W else LL r
theorem cUp_s (LL : Nat → List cW) (p : Nat) (W : List cW) : cUp LL p W p = W := if_pos rfl
theorem cUp_n {LL : Nat → List cW} {p : Nat} {W : List cW} {q : Nat} (h : q ≠ p) : cUp LL p W q = LL q := if_neg h
def cTo (s : mm_S) (n : Nat) : Nat := if 200 ≤ n then s.2.1 7 (n - 200) else s.2.1 4 n
theorem cRl.inj {s : mm_S} {u : cc_U} {O : List Nat} (h : cRl s u O) {p q : Nat} (hp : p < s.1 1) (hq : q < s.1 1) (e : cn u 2 p 0 = cn u 2 q 0) : p = q := by
  obtain ⟨i, hi⟩ := List.getElem?_of_mem ((h.2.1.2.1 p).mpr hp)
  obtain ⟨j, hj⟩ := List.getElem?_of_mem ((h.2.1.2.1 q).mpr hq)
  have h1 := h.2.1.2.2.1 i p hi
  have h2 := h.2.1.2.2.1 j q hj
  rw [show i = j by omega, hj] at hi
  exact (Option.some.inj hi).symm
theorem cRl.po {s : mm_S} {u : cc_U} {O : List Nat} (h : cRl s u O) (ok : mm_ok s) {j : Nat} (hj : j < 10) : (s.2.1 14 j = 0 → cPo u j = 0) ∧ ∀ p, s.2.1 14 j = p + 1 → cPo u j = cn u 2 p 0 ∧ p < s.1 1 := by
  have e := h.2.2.2.2.2.1.1 j hj
  have hb := ok.2.2.2.2.1 j hj
  unfold cPo
  rw [e]
  exact ⟨fun z => by rw [z], fun p z => by rw [z] at hb ⊢; exact ⟨rfl, hb⟩⟩
theorem cRl.po60 {s : mm_S} {u : cc_U} {O : List Nat} (h : cRl s u O) (ok : mm_ok s) {j : Nat} (hj : j < 10) : cPo u j ≤ 60 := by
  obtain ⟨h1, h2⟩ := h.po ok hj
  have := ok.1.1
  cases e : s.2.1 14 j with
  | zero => rw [h1 e]; omega
  | succ p =>
    obtain ⟨a, b⟩ := h2 p e
    have := (h.place b).2
    omega
theorem cRl.hp {s : mm_S} {u : cc_U} {O : List Nat} (h : cRl s u O) (ok : mm_ok s) : cHp s (fun p => cn u 2 p 0) (cPo u) (cLv u) := by
  have hb := ok.1.1
  refine ⟨h.2.1.2.2.2, fun p hp => ⟨(h.place hp).1, by have := (h.place hp).2; show cn u 2 p 0 ≤ 60; omega⟩, fun p q hp hq e => h.inj hp hq e, fun j hj => h.po ok hj, fun a ha => ?_, fun i hi => ?_, fun e he => ?_⟩
  · obtain ⟨-, a1, a2, -⟩ := h.2.2.2.1.2.1 a ha
    unfold cLv
    rw [a1, a2]
  · obtain ⟨-, a1, a2, -⟩ := h.2.2.2.1.2.2.1 i hi
    unfold cLv
    rw [a1, a2, h.2.2.1.2.2.2.2.2.1]
    exact ⟨fun ⟨j, j1, j2, j3, j4⟩ => ⟨j, j1, j2, j4⟩, fun ⟨j, j1, j2, j3⟩ => ⟨j, j1, j2, by omega, j3⟩⟩
  · obtain ⟨-, a1, a2, -⟩ := h.2.2.2.1.2.2.2 e he
    unfold cLv
    rw [a1, a2, h.2.2.1.2.2.2.2.2.2]
    exact ⟨fun ⟨j, j1, j2, j3, j4⟩ => ⟨j, j1, j2, j3⟩, fun ⟨j, j1, j2, j3⟩ => ⟨j, j1, j2, j3, by have := h.po60 ok j1; omega⟩⟩
theorem cq.po {u v : cc_U} (h : cq u v) (j : Nat) : cPo v j = cPo u j := by
  unfold cPo
  rw [h.2.2.1 14 7 j (by omega) (by omega) (by omega) (by omega) (by omega)]
  cases cn u 14 7 j with
  | zero => rfl
  | succ q => exact h.2.2.1 2 q 0 (by omega) (by omega) (by omega) (by omega) (by omega)
theorem cq.lv {u v : cc_U} (h : cq u v) (n : Nat) : cLv v n ↔ cLv u n := by
  unfold cLv
  simp only [h.po, h.2.2.1 3 n 1 (by omega) (by omega) (by omega) (by omega) (by omega), h.2.2.1 3 n 2 (by omega) (by omega) (by omega) (by omega) (by omega), fun q => h.2.2.1 2 q 0 (by omega) (by omega) (by omega) (by omega) (by omega)]
theorem cq.rf (u : cc_U) : cq u u := ⟨fun _ _ => Iff.rfl, fun _ _ => rfl, fun _ _ _ _ _ _ _ _ => rfl, fun _ _ _ _ _ => rfl⟩
theorem cq.tr {u v w : cc_U} (h : cq u v) (g : cq v w) : cq u w := ⟨fun k i => (g.1 k i).trans (h.1 k i), fun k i => (g.2.1 k i).trans (h.2.1 k i), fun k i j a b c d e => (g.2.2.1 k i j a b c d e).trans (h.2.2.1 k i j a b c d e), fun k i j a b => (g.2.2.2 k i j a b).trans (h.2.2.2 k i j a b)⟩
theorem cGf.cq {p : Nat} {u v : cc_U} (h : cGf p u v) : cq u v := ⟨h.1, h.2.1, fun k i j a b c d e => h.2.2.1 k i j a (fun z => b z.1) (fun z => c z.1) (fun z => d z.1) e, fun k i j a b => h.2.2.2.1 k i j fun z => b z.1⟩
theorem cRl.gat {s : mm_S} {u v : cc_U} {O : List Nat} {p k : Nat} {L : List Nat} {cd : Nat → List cW} {st : Nat → Nat} {gr : cW → Nat} {A : List (Nat × Nat)} {nx : Nat → Nat} (h : cRl s u O) (hp : p ≠ 61) (hI : cGI u p k L cd st gr v A nx) : cRl s v O := by
  obtain ⟨h1, h2, h3, h4, h5, h6, h7, h8, h9⟩ := hI
  refine h.scr h1.cq (fun q hq => ?_) ?_
  · by_cases e : q = p
    · rw [e, h4]; unfold cc_wl; rw [if_neg hp]; exact h5
    · rw [h1.2.2.1 7 q 0 (by omega) (by omega) (by omega) (by omega) (by omega)]
      exact (h.2.2.1.1 q hq).2.2.2.2.2.2.2.2
  · obtain ⟨g1, g2, g3, g4, g5⟩ := h.2.2.2.2.2.2.2
    refine ⟨fun q => by rw [h1.2.2.2.1 2 q 0 (by omega)]; exact g1 q, fun q j r hr => ?_, fun q j => ?_, by rw [h1.2.2.1 7 61 0 (by omega) (by omega) (by omega) (by omega) (by omega)]; exact g4, by rw [h1.2.2.2.1 8 61 0 (by omega)]; exact g5.1, by rw [h1.2.2.2.2 9 61 0 (by omega)]; exact g5.2⟩
    · by_cases e : q = p
      · rw [e] at hr
        obtain ⟨n, e1, e2⟩ := h8 j r hr
        exact ⟨n, e1, (h.2.2.2.1.1 n).mp e2⟩
      · rw [h1.2.2.2.2 9 q j (by omega)] at hr
        exact g2 q j r hr
    · by_cases e : q = p
      · rw [e]; exact h9 j
      · rw [h1.2.2.1 10 q j (by omega) (by omega) (by omega) (by omega) (by omega)]; exact g3 q j
theorem cHold.cg {s : mm_S} {u v : cc_U} {LL : Nat → List cW} {W : List cW} {p q : Nat} (h : cHold s u LL q) (hf : cGf p u v) (hq : q ≠ p) (ht : ∀ n ∈ cOL s q, n < 300 → cTo s n ≠ p) : cHold s v (cUp LL p W) q := by
  obtain ⟨h1, h2⟩ := h
  unfold cHold
  rw [cUp_n hq]
  refine ⟨by rw [hf.2.2.1 7 q 0 (by omega) (by omega) (by omega) (by omega) (by omega)]; exact h1, fun j w hj => ?_⟩
  obtain ⟨n, a1, a2, a3, a4, a5⟩ := h2 j w hj
  refine ⟨n, by rw [hf.2.2.2.2 9 q j (by omega)]; exact a1, a2, ?_, by rw [hf.2.2.2.1 8 q j (by omega)]; exact a4, by rw [hf.2.2.1 11 q j (by omega) (by omega) (by omega) (by omega) (by omega)]; exact a5⟩
  rw [hf.2.2.1 10 q j (by omega) (by omega) (by omega) (by omega) (by omega)]
  have e : cCd s (cUp LL p W) n = cCd s LL n := by
    unfold cCd
    by_cases z : 300 ≤ n
    · rw [if_pos z, if_pos z]
    · have := ht n a2 (by omega)
      unfold cTo at this
      rw [if_neg z, if_neg z]
      by_cases z2 : 200 ≤ n
      · rw [if_pos z2] at this
        rw [if_pos z2, if_pos z2, cUp_n this]
      · rw [if_neg z2] at this
        rw [if_neg z2, if_neg z2, cUp_n this]
  rw [e]
  exact a3
theorem cCd_row {s : mm_S} (LL : Nat → List cW) {n : Nat} (h : n < 300) {r : Nat} : (cCd s LL n)[r]? = ((LL (cTo s n))[r]?).map (fun w => cEx (if 200 ≤ n then s.2.2 8 (n - 200) else s.2.2 5 n) (if 200 ≤ n then n - 200 else n) w) := by
  unfold cCd cTo
  rw [if_neg (by omega)]
  by_cases z : 200 ≤ n
  · rw [if_pos z, if_pos z, if_pos z, if_pos z, List.getElem?_map]
  · rw [if_neg z, if_neg z, if_neg z, if_neg z, List.getElem?_map]
/-- what stands behind the steps of p -/
theorem cGp_of {s : mm_S} {u : cc_U} {O : List Nat} {k p : Nat} {Lv : Nat → Prop} {LL : Nat → List cW} (hR : cRl s u O) (ok : mm_ok s) (hp : p = 60 ∨ p < s.1 1) (hL : ∀ q, q < s.1 1 → (∃ n ∈ cOL s p, n < 300 ∧ (if 200 ≤ n then s.2.1 7 (n - 200) else s.2.1 4 n) = q) → cHold s u LL q ∧ cLG s Lv k q (LL q)) : cGp u p (cOL s p) (cCd s LL) (cgr s) := by
  intro n hn
  have h9 := ok.1.2.2.1
  have h6 := ok.1.2.1
  have h1 := ok.1.1
  have stp : cStp s n := ((hR.outs (hp.symm) h1).2 n hn).1
  have cxn : cx u 3 n := (hR.2.2.2.1.1 n).mpr stp
  obtain ⟨c1, c2, c3, -, -, -⟩ := hR.stp ok stp
  have pn2 := hR.2.2.1.1 _ c2
  -- with a pin behind it
  have pin : ∀ q, n < 300 → q < s.1 1 → cTo s n = q → cn u 3 n 2 = q → q ≠ p → (cz u 3 n 0 = if 200 ≤ n then s.2.2 8 (n - 200) else s.2.2 5 n) → cBh u n ∧ cn u 3 n 2 ≠ p ∧ csz u n = (cCd s LL n).length ∧ ∀ r, r < (cCd s LL n).length → clf u n r = (cWy (cCd s LL) (n, r)).1 ∧ cgp u n r = cgr s (cWy (cCd s LL) (n, r)) := by
    intro q hn3 hq e1 e2 hqp e3
    obtain ⟨⟨g1, g2⟩, hLG⟩ := hL q hq ⟨n, hn, hn3, e1⟩
    have row : ∀ r, (cCd s LL n)[r]? = ((LL q)[r]?).map (fun w => cEx (if 200 ≤ n then s.2.2 8 (n - 200) else s.2.2 5 n) (if 200 ≤ n then n - 200 else n) w) := fun r => by rw [cCd_row LL hn3, e1]
    have len : (cCd s LL n).length = (LL q).length := by
      unfold cCd
      unfold cTo at e1
      rw [if_neg (by omega)]
      by_cases z : 200 ≤ n
      · rw [if_pos z] at e1 ⊢; rw [List.length_map, e1]
      · rw [if_neg z] at e1 ⊢; rw [List.length_map, e1]
    have sz : csz u n = (LL q).length := by unfold csz; rw [e2]; exact g1
    have at_ : ∀ r, r < (LL q).length → ∃ w, (LL q)[r]? = some w ∧ w ∈ LL q ∧ cz u 8 q r = w.1 ∧ cn u 11 q r = cgr s w := fun r hr => by
      obtain ⟨w, hw⟩ : ∃ w, (LL q)[r]? = some w := ⟨_, List.getElem?_eq_getElem hr⟩
      obtain ⟨m, -, -, -, b1, b2⟩ := g2 r w hw
      exact ⟨w, hw, List.mem_of_getElem? hw, b1, b2⟩
    have cgq : ∀ r, cgp u n r = cn u 11 q r := fun r => by unfold cgp; rw [e2, if_neg (by omega)]
    refine ⟨⟨cxn, pn2, fun r hr => ?_, by omega⟩, by rw [e2]; exact hqp, by rw [sz, len], fun r hr => ?_⟩
    · rw [sz] at hr
      obtain ⟨w, w1, w2, w3, w4⟩ := at_ r hr
      rw [cgq, w4, e2, w3]
      have := ((hLG.mem w2).bd ok).1
      exact ⟨hLG.2.1 w w2, by omega⟩
    · have hr' := hr
      rw [len] at hr'
      obtain ⟨w, w1, w2, w3, w4⟩ := at_ r hr'
      have e4 := cWy_get hr
      rw [row r, w1] at e4
      have e4 := Option.some.inj e4
      rw [← e4, cgq, w4]
      refine ⟨?_, rfl⟩
      unfold clf
      rw [e2, w3, e3]
      rfl
  rcases cOL_kd h9 hn with ⟨e0, i, e, hi⟩ | ⟨e0, i, e, hi, hi'⟩ | ⟨e0, hn', hi'⟩
  · obtain ⟨-, -, a2, a3⟩ := hR.2.2.2.1.2.2.1 i hi
    have hlt := (ok.2.2.1 i hi).1
    rw [← e] at a2 a3
    refine pin _ (by omega) hlt ?_ a2 (by omega) ?_
    · unfold cTo; rw [if_pos (by omega), e, show 200 + i - 200 = i by omega]
    · rw [if_pos (by omega), a3, e, show 200 + i - 200 = i by omega]
  · obtain ⟨-, -, a2, a3, a4⟩ := hR.2.2.2.1.2.2.2 i hi
    have hg := (ok.2.2.2.1 i hi).2.1
    rw [← e] at a2 a3 a4
    have sz : csz u n = 1 := by unfold csz; rw [a2]; exact hR.2.2.2.2.2.2.2.2.2.2.1
    have z8 := hR.2.2.2.2.2.2.2.2.2.2.2.1
    have cc : cCd s LL n = [(s.2.2 11 i, [], i)] := by rw [e]; exact cCd_e LL i
    refine ⟨⟨cxn, pn2, fun r hr => ?_, by omega⟩, by rw [a2]; omega, by rw [sz, cc]; rfl, fun r hr => ?_⟩
    · rw [sz] at hr
      rw [show r = 0 by omega, a2, z8]
      unfold cgp
      rw [if_pos a2, a4]
      exact ⟨hg, by omega⟩
    · have e4 := cWy_get hr
      rw [cc] at hr
      have hr : r < 1 := hr
      have hr : r = 0 := by omega
      subst hr
      have e5 : (cCd s LL n)[0]? = some (s.2.2 11 i, [], i) := by rw [cc]; rfl
      rw [e5] at e4
      rw [← Option.some.inj e4]
      unfold clf cgp
      rw [a2, z8, a3, if_pos rfl, a4]
      exact ⟨by show (0 : Int) - (0 - s.2.2 11 i) = s.2.2 11 i; omega, rfl⟩
  · obtain ⟨-, a1, a2, a3⟩ := hR.2.2.2.1.2.1 n hn'
    have hlt := (ok.2.1 n hn').2.1
    have hrs := hR.2.1.2.2.2 n hn'
    refine pin _ (by omega) hlt ?_ a2 ?_ ?_
    · unfold cTo; rw [if_neg (by omega)]
    · intro z; rw [z, hi'] at hrs; exact Nat.lt_irrefl _ hrs
    · rw [if_neg (by omega), a3]
/-- no step leads back -/
theorem cTo_ne {s : mm_S} {u : cc_U} {O : List Nat} (hR : cRl s u O) (ok : mm_ok s) {q n : Nat} (hn : n ∈ cOL s q) (h3 : n < 300) : cTo s n < s.1 1 ∧ cn u 2 q 0 < cn u 2 (cTo s n) 0 := by
  have h9 := ok.1.2.2.1
  have h6 := ok.1.2.1
  unfold cTo
  rcases cOL_kd h9 hn with ⟨e0, i, e, hi⟩ | ⟨e0, i, e, hi, hi'⟩ | ⟨e0, hn', hi'⟩
  · have hlt := (ok.2.2.1 i hi).1
    rw [if_pos (by omega), e, show 200 + i - 200 = i by omega]
    refine ⟨hlt, ?_⟩
    rw [e0, hR.2.2.1.2.2.2.2.2.1]
    exact (hR.place hlt).1
  · omega
  · rw [if_neg (by omega)]
    have := hR.2.1.2.2.2 n hn'
    rw [hi'] at this
    exact ⟨(ok.2.1 n hn').2.1, this⟩
theorem cRl.thr {s : mm_S} {u : cc_U} {O : List Nat} (hR : cRl s u O) (ok : mm_ok s) : cThr u (s.1 1) := by
  have hb := ok.1.1
  refine ⟨hR.obj (by decide), hR.obj (by decide), hR.obj (by decide), hR.1.2.1, hb, fun p hp => ⟨(hR.2.2.1.1 p (Or.inl hp)).1, by have := (hR.place hp).2; omega⟩, fun j hj => ?_⟩
  rw [hR.2.2.2.2.2.1.1 j hj]
  exact ok.2.2.2.2.1 j hj
set_option maxRecDepth 100000 in
set_option maxHeartbeats 4000000 in
theorem ce_gat {s : mm_S} {u : cc_U} {X : px_M} (hX : c9 X) (ok : mm_ok s) {O : List Nat} (hR : cRl s u O) {k p : Nat} (hk : k ≤ 40) (hp : p = 60 ∨ p < s.1 1) {Lv : Nat → Prop} (hlv : ∀ n, cLv u n ↔ Lv n) {LL : Nat → List cW} (hL : ∀ q, q < s.1 1 → (∃ n ∈ cOL s p, n < 300 ∧ (if 200 ≤ n then s.2.1 7 (n - 200) else s.2.1 4 n) = q) → cHold s u LL q ∧ cLG s Lv k q (LL q)) :
    px_Met 5 0 0 mX4_gather [.inr (14, 0), .inr (2, p), .inl (.int (nI k))] (cc_M u X) (fun o M' => o = .inl none ∧ ∃ v W, M' = cc_M v X ∧ cGf p u v ∧ cRl s v O ∧ cHold s v (cUp LL p W) p ∧ cLG s Lv k p W) := by
  have hb := ok.h1
  have h13 := ok.1.2.2.2.1
  have h61 : p ≠ 61 := by omega
  have hpx : cPx s p := by unfold cPx; omega
  have ho := hR.outs hp.symm hb.1
  have hL1 := fun q hq hn => (hL q hq hn).2
  have st : ∃ st : Nat → Nat, ∀ n, (cLv u n → st n = (cCd s LL n).length) ∧ (¬ cLv u n → st n = 0) := ⟨fun n => @ite Nat (cLv u n) (Classical.propDecidable _) (cCd s LL n).length 0, fun n => ⟨fun z => if_pos z, fun z => if_neg z⟩⟩
  obtain ⟨st, hst⟩ := st
  have hle : ∀ n, st n ≤ (cCd s LL n).length := fun n => by
    by_cases z : cLv u n
    · rw [(hst n).1 z]; exact Nat.le_refl _
    · rw [(hst n).2 z]; exact Nat.zero_le _
  have hM := cMg_of ok (fun n _ => hle n) hL1
  have hlen : (cOL s p).length ≤ 200 := by
    rcases hp with e | e
    · unfold cOL; rw [if_pos e, cSt_len]; omega
    · exact (hR.cok ok e).2.2.2.1
  have g := ce_gather hX (hR.thr ok) (hR.obj (by decide)) (hR.2.2.1.1 p hpx) h61 ho.1 hlen hM (cGp_of hR ok hp hL) (fun n hn => ?_) (fun n hn => hst n) hk (fun j r hr => ?_) (fun j => hR.2.2.2.2.2.2.2.2.2.1 p j)
  · refine g.mono ?_
    rintro o M' ⟨e1, v, A, nx, e2, hI, hend⟩
    have fin := cMI.fin hM hI.2.1 hk hend
    refine ⟨e1, v, A.map (cWy (cCd s LL)), e2, hI.1, hR.gat h61 hI, ?_, cLG.step ok hp (fun n hn => ⟨fun z => (hst n).1 ((hlv n).mpr z), fun z => (hst n).2 fun w => z ((hlv n).mp w)⟩) hL1 fin⟩
    obtain ⟨i1, i2, i3, i4, i5, i6, i7, i8, i9⟩ := hI
    refine ⟨by rw [cUp_s, List.length_map]; exact i4, fun j w hj => ?_⟩
    rw [cUp_s, List.getElem?_map] at hj
    cases ea : A[j]? with
    | none => rw [ea] at hj; cases hj
    | some a =>
      rw [ea] at hj
      have ew : cWy (cCd s LL) a = w := Option.some.inj hj
      obtain ⟨a1, a2, a3, a4⟩ := i6 j a ea
      obtain ⟨m1, m2, m3⟩ := i2.1 a (List.mem_of_getElem? ea)
      have m4 := (i2.2.1 a.1 m1).2
      refine ⟨a.1, a1, m1, ?_, by rw [a3, ew], by rw [a4, ew]⟩
      have ec : cCd s (cUp LL p (A.map (cWy (cCd s LL)))) a.1 = cCd s LL a.1 := by
        unfold cCd
        by_cases z : 300 ≤ a.1
        · rw [if_pos z, if_pos z]
        · have h := cTo_ne hR ok m1 (by omega)
          have hne : cTo s a.1 ≠ p := fun e => by rw [e] at h; exact Nat.lt_irrefl _ h.2
          unfold cTo at hne
          rw [if_neg z, if_neg z]
          by_cases z2 : 200 ≤ a.1
          · rw [if_pos z2] at hne
            rw [if_pos z2, if_pos z2, cUp_n hne]
          · rw [if_neg z2] at hne
            rw [if_neg z2, if_neg z2, cUp_n hne]
      rw [ec, a2, ← ew]
      exact cWy_get (cd := cCd s LL) (b := a.1) (r := a.2) (by omega)
  · obtain ⟨h1, h2⟩ := ho.2 n hn
    obtain ⟨c1, c2, -, -, -, -⟩ := hR.stp ok h1
    have pl : ∀ q, cPx s q → cn u 2 q 0 ≤ 100 := fun q hq => by
      rcases hq with z | z | z
      · have := (hR.place z).2; omega
      · rw [z, hR.2.2.1.2.2.2.2.2.1]; omega
      · rw [z, hR.2.2.1.2.2.2.2.2.2]; omega
    exact ⟨(hR.2.2.1.1 _ c1).1, pl _ c1, pl _ c2⟩
  · obtain ⟨n, e1, e2⟩ := hR.2.2.2.2.2.2.2.2.1 p j r hr
    exact ⟨n, e1, (hR.2.2.2.1.1 n).mpr e2⟩
