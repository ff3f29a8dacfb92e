/-! ===== the net stays a net ===== -/
def cRk (s : mm_S) : Prop := ∃ rk : Nat → Nat, ∀ a, a < s.1 6 → rk (s.2.1 3 a) < rk (s.2.1 4 a)
theorem cok.rk {s : mm_S} {u : cc_U} (h : cok s u) : cRk s := by
  obtain ⟨⟨O, hR⟩, -⟩ := h
  exact ⟨fun p => cn u 2 p 0, hR.2.1.2.2.2⟩
theorem ok_pin {s : mm_S} (ok : mm_ok s) : mm_ok (nx_pin s) := by
  unfold nx_pin
  split
  · rename_i h
    have hk : s.1 1 ≠ 60 := by
      unfold kc_pin at h
      split at h
      · omega
      · assumption
    obtain ⟨⟨b1, b2, b3, b4, b5, b6, b7⟩, hB, hC, hD, hE, hF, hG, hH⟩ := ok
    refine ⟨⟨show s.1 1 + 1 ≤ 60 by omega, b2, b3, b4, b5, show 0 ≤ 1 by omega, b7⟩, fun a ha => ?_, fun i hi => ?_, fun i hi => ?_, fun j hj => ?_, fun p hp => ?_, hG, hH⟩
    · have := hB a ha
      exact ⟨show s.2.1 3 a < s.1 1 + 1 by omega, show s.2.1 4 a < s.1 1 + 1 by omega, this.2.2⟩
    · have := hC i hi
      exact ⟨show s.2.1 7 i < s.1 1 + 1 by omega, this.2⟩
    · have := hD i hi
      exact ⟨show s.2.1 10 i < s.1 1 + 1 by omega, this.2⟩
    · have := hE j hj
      show s.2.1 14 j ≤ s.1 1 + 1
      omega
    · have hp : p < s.1 1 + 1 := hp
      show px_upN (s.2.1 2) (s.1 1) 0 p ≤ 8
      unfold px_upN
      split
      · omega
      · exact hF p (by omega)
  · exact ok
theorem ok_arc {s : mm_S} (ok : mm_ok s) {x y : Int32} {d : Int} (hr : cRk (nx_arc s x y d)) : mm_ok (nx_arc s x y d) := by
  unfold nx_arc at hr ⊢
  split
  · rename_i h
    rw [if_pos h] at hr
    obtain ⟨k1, k2, k3, k4, k5, -⟩ := kc_arc0 h
    obtain ⟨-, k1⟩ := px_ix_tn k1
    obtain ⟨-, k2⟩ := px_ix_tn k2
    obtain ⟨⟨b1, b2, b3, b4, b5, b6, b7⟩, hB, hC, hD, hE, hF, hG, hH⟩ := ok
    refine ⟨⟨b1, show s.1 6 + 1 ≤ 150 by omega, b3, b4, b5, show 0 ≤ 1 by omega, b7⟩, fun a ha => ?_, hC, hD, hE, hF, fun i hi => ?_, hr⟩
    · have ha : a < s.1 6 + 1 := ha
      show px_upN (s.2.1 3) (s.1 6) (px_tn x) a < s.1 1 ∧ px_upN (s.2.1 4) (s.1 6) (px_tn y) a < s.1 1 ∧ 0 ≤ px_upN (s.2.2 5) (s.1 6) d a ∧ px_upN (s.2.2 5) (s.1 6) d a ≤ 8388608
      unfold px_upN
      by_cases e : a = s.1 6
      · rw [if_pos e, if_pos e, if_pos e]; exact ⟨k1, k2, k4, k5⟩
      · rw [if_neg e, if_neg e, if_neg e]; exact hB a (by omega)
    · have := hG i hi
      exact ⟨show s.2.1 15 i < s.1 6 + 1 by omega, this.2⟩
  · exact ok
theorem ok_end {s : mm_S} (ok : mm_ok s) {x : Int32} {d : Int} : mm_ok (nx_end s x d) := by
  unfold nx_end
  split
  · rename_i h
    have hk : px_ix x (s.1 1) ∧ s.1 13 ≠ 30 ∧ -8388608 ≤ d ∧ d ≤ 8388608 := by
      unfold kc_end at h
      by_cases h1 : px_ix x (s.1 1)
      · rw [if_neg (fun z => z h1)] at h
        by_cases h2 : s.1 13 = 30
        · rw [if_pos h2] at h; omega
        · rw [if_neg h2] at h
          by_cases h3 : -8388608 ≤ d ∧ d ≤ 8388608
          · exact ⟨h1, h2, h3⟩
          · rw [if_neg h3] at h; omega
      · rw [if_pos h1] at h; omega
    obtain ⟨k1, k2, k3, k4⟩ := hk
    obtain ⟨-, k1⟩ := px_ix_tn k1
    obtain ⟨⟨b1, b2, b3, b4, b5, b6, b7⟩, hB, hC, hD, hE, hF, hG, hH⟩ := ok
    refine ⟨⟨b1, b2, b3, show s.1 13 + 1 ≤ 30 by omega, b5, show 0 ≤ 1 by omega, b7⟩, hB, hC, fun i hi => ?_, hE, hF, hG, hH⟩
    have hi : i < s.1 13 + 1 := hi
    show px_upN (s.2.1 10) (s.1 13) (px_tn x) i < s.1 1 ∧ px_upN (s.2.1 12) (s.1 13) 0 i < 8 ∧ -8388608 ≤ px_upN (s.2.2 11) (s.1 13) d i ∧ px_upN (s.2.2 11) (s.1 13) d i ≤ 8388608
    unfold px_upN
    by_cases e : i = s.1 13
    · rw [if_pos e, if_pos e, if_pos e]; exact ⟨k1, by omega, k3, k4⟩
    · rw [if_neg e, if_neg e, if_neg e]; exact hD i (by omega)
  · exact ok
theorem ok_start {s : mm_S} (ok : mm_ok s) {x : Int32} {d : Int} : mm_ok (nx_start s x d) := by
  unfold nx_start
  split
  · rename_i h
    have hk : px_ix x (s.1 1) ∧ s.1 9 ≠ 30 ∧ -8388608 ≤ d ∧ d ≤ 8388608 := by
      unfold kc_start at h
      by_cases h1 : px_ix x (s.1 1)
      · rw [if_neg (fun z => z h1)] at h
        by_cases h2 : s.1 9 = 30
        · rw [if_pos h2] at h; omega
        · rw [if_neg h2] at h
          by_cases h3 : -8388608 ≤ d ∧ d ≤ 8388608
          · exact ⟨h1, h2, h3⟩
          · rw [if_neg h3] at h; omega
      · rw [if_pos h1] at h; omega
    obtain ⟨k1, k2, k3, k4⟩ := hk
    obtain ⟨-, k1⟩ := px_ix_tn k1
    obtain ⟨⟨b1, b2, b3, b4, b5, b6, b7⟩, hB, hC, hD, hE, hF, hG, hH⟩ := ok
    refine ⟨⟨b1, b2, show s.1 9 + 1 ≤ 30 by omega, b4, b5, show 0 ≤ 1 by omega, b7⟩, hB, fun i hi => ?_, hD, hE, hF, hG, hH⟩
    have hi : i < s.1 9 + 1 := hi
    show px_upN (s.2.1 7) (s.1 9) (px_tn x) i < s.1 1 ∧ -8388608 ≤ px_upN (s.2.2 8) (s.1 9) d i ∧ px_upN (s.2.2 8) (s.1 9) d i ≤ 8388608
    unfold px_upN
    by_cases e : i = s.1 9
    · rw [if_pos e, if_pos e]; exact ⟨k1, k3, k4⟩
    · rw [if_neg e, if_neg e]; exact hC i (by omega)
  · exact ok
theorem ok_through {s : mm_S} (ok : mm_ok s) {x o : Int32} : mm_ok (nx_through s x o) := by
  unfold nx_through
  split
  · rename_i h
    have hk : x ≠ -1 → px_ix x (s.1 1) := fun hx => Classical.byContradiction fun z => by
      have := h.1
      unfold kc_through at this
      rw [if_pos ⟨hx, z⟩] at this
      omega
    obtain ⟨-, k1⟩ := px_oc_o hk
    obtain ⟨⟨b1, b2, b3, b4, b5, b6, b7⟩, hB, hC, hD, hE, hF, hG, hH⟩ := ok
    refine ⟨⟨b1, b2, b3, b4, b5, show 0 ≤ 1 by omega, b7⟩, hB, hC, hD, fun j hj => ?_, hF, hG, hH⟩
    show px_upN (s.2.1 14) (px_tn o) (px_oc x) j ≤ s.1 1
    unfold px_upN
    split
    · exact k1
    · exact hE j hj
  · exact ok
theorem ok_group {s : mm_S} (ok : mm_ok s) {x g : Int32} : mm_ok (nx_group s x g) := by
  unfold nx_group
  split
  · rename_i h
    obtain ⟨k1, k2⟩ := kc_group0 h
    obtain ⟨-, k2⟩ := px_ix_tn k2
    obtain ⟨⟨b1, b2, b3, b4, b5, b6, b7⟩, hB, hC, hD, hE, hF, hG, hH⟩ := ok
    refine ⟨⟨b1, b2, b3, b4, b5, ?_, b7⟩, hB, hC, fun i hi => ?_, hE, hF, hG, hH⟩
    · show (if s.1 25 ≠ 0 ∧ s.2.1 12 (px_tn x) = px_tn g then 1 else 0) ≤ 1
      split <;> omega
    · show s.2.1 10 i < s.1 1 ∧ px_upN (s.2.1 12) (px_tn x) (px_tn g) i < 8 ∧ -8388608 ≤ s.2.2 11 i ∧ s.2.2 11 i ≤ 8388608
      have := hD i hi
      refine ⟨this.1, ?_, this.2.2⟩
      unfold px_upN
      split
      · exact k2
      · exact this.2.1
  · exact ok
theorem ok_into {s : mm_S} (ok : mm_ok s) {x b : Int32} : mm_ok (nx_into s x b) := by
  unfold nx_into
  split
  · rename_i h
    obtain ⟨-, k2⟩ := kc_into0 h.1
    obtain ⟨-, k2⟩ := px_oc_o k2
    obtain ⟨h1, hB, hC, hD, hE, hF, hG, hH⟩ := ok
    refine ⟨h1, hB, hC, hD, hE, fun p hp => ?_, hG, hH⟩
    show px_upN (s.2.1 2) (px_tn x) (px_oc b) p ≤ 8
    unfold px_upN
    split
    · exact k2
    · exact hF p hp
  · exact ok
theorem ok_whatIf {s : mm_S} (ok : mm_ok s) {x : Int32} {d : Int} : mm_ok (nx_whatIf s x d) := by
  unfold nx_whatIf
  split
  · rename_i h
    obtain ⟨k1, k2, k3, k4⟩ := kc_whatIf0 h.1
    obtain ⟨-, k1⟩ := px_ix_tn k1
    obtain ⟨⟨b1, b2, b3, b4, b5, b6, b7⟩, hB, hC, hD, hE, hF, hG, hH⟩ := ok
    refine ⟨⟨b1, b2, b3, b4, show s.1 17 + 1 ≤ 50 by omega, show 0 ≤ 1 by omega, b7⟩, fun a ha => ?_, hC, hD, hE, hF, fun i hi => ?_, hH⟩
    · have := hB a ha
      refine ⟨this.1, this.2.1, ?_⟩
      show 0 ≤ px_upN (s.2.2 5) (px_tn x) d a ∧ px_upN (s.2.2 5) (px_tn x) d a ≤ 8388608
      unfold px_upN
      split
      · exact ⟨k3, k4⟩
      · exact this.2.2
    · have hi : i < s.1 17 + 1 := hi
      show px_upN (s.2.1 15) (s.1 17) (px_tn x) i < s.1 6 ∧ 0 ≤ px_upN (s.2.2 16) (s.1 17) (s.2.2 5 (px_tn x)) i ∧ px_upN (s.2.2 16) (s.1 17) (s.2.2 5 (px_tn x)) i ≤ 8388608
      unfold px_upN
      by_cases e : i = s.1 17
      · rw [if_pos e, if_pos e]; exact ⟨k1, (hB _ k1).2.2⟩
      · rw [if_neg e, if_neg e]; exact hG i (by omega)
  · exact ok
theorem ok_back {s : mm_S} (ok : mm_ok s) : mm_ok (nx_back s) := by
  unfold nx_back
  split
  · exact ok
  · rename_i h
    obtain ⟨⟨b1, b2, b3, b4, b5, b6, b7⟩, hB, hC, hD, hE, hF, hG, hH⟩ := ok
    have hg := hG (s.1 17 - 1) (by omega)
    refine ⟨⟨b1, b2, b3, b4, show s.1 17 - 1 ≤ 50 by omega, show 0 ≤ 1 by omega, b7⟩, fun a ha => ?_, hC, hD, hE, hF, fun i hi => hG i (by have hi : i < s.1 17 - 1 := hi; omega), hH⟩
    have := hB a ha
    refine ⟨this.1, this.2.1, ?_⟩
    show 0 ≤ px_upN (s.2.2 5) (s.2.1 15 (s.1 17 - 1)) (s.2.2 16 (s.1 17 - 1)) a ∧ px_upN (s.2.2 5) (s.2.1 15 (s.1 17 - 1)) (s.2.2 16 (s.1 17 - 1)) a ≤ 8388608
    unfold px_upN
    split
    · exact hg.2
    · exact this.2.2
/-- what cRl reads of the net -/
def cEq (s t : mm_S) : Prop := (t.1 1 = s.1 1 ∧ t.1 6 = s.1 6 ∧ t.1 9 = s.1 9 ∧ t.1 13 = s.1 13 ∧ t.1 17 = s.1 17 ∧ t.1 25 = s.1 25) ∧ (t.2.1 2 = s.2.1 2 ∧ t.2.1 3 = s.2.1 3 ∧ t.2.1 4 = s.2.1 4 ∧ t.2.1 7 = s.2.1 7 ∧ t.2.1 10 = s.2.1 10 ∧ t.2.1 12 = s.2.1 12 ∧ t.2.1 14 = s.2.1 14 ∧ t.2.1 15 = s.2.1 15) ∧ t.2.2 5 = s.2.2 5 ∧ t.2.2 8 = s.2.2 8 ∧ t.2.2 11 = s.2.2 11 ∧ t.2.2 16 = s.2.2 16
theorem mm_nq.ceq {s t : mm_S} (q : mm_nq s t) : cEq s t := ⟨⟨q.1 1 (by decide), q.1 6 (by decide), q.1 9 (by decide), q.1 13 (by decide), q.1 17 (by decide), q.1 25 (by decide)⟩, ⟨(q.2 2 (by decide)).1, (q.2 3 (by decide)).1, (q.2 4 (by decide)).1, (q.2 7 (by decide)).1, (q.2 10 (by decide)).1, (q.2 12 (by decide)).1, (q.2 14 (by decide)).1, (q.2 15 (by decide)).1⟩, (q.2 5 (by decide)).2, (q.2 8 (by decide)).2, (q.2 11 (by decide)).2, (q.2 16 (by decide)).2⟩
theorem cRl.ceq {s t : mm_S} {u : cc_U} {O : List Nat} (h : cRl s u O) (q : cEq s t) : cRl t u O := by
  obtain ⟨⟨a1, a2, a3, a4, a5, a6⟩, ⟨b1, b2, b3, b4, b5, b6, b7, b8⟩, c1, c2, c3, c4⟩ := q
  obtain ⟨hA, hB, hC, hD, hE, hF, hG, hH⟩ := h
  refine ⟨?_, ?_, ?_, ?_, ?_, ?_, ?_, ?_⟩
  · unfold cRA cSt at *; rw [a1, a2, a3, a4]; exact hA
  · unfold cRB at *; rw [a1, a2, b2, b3]; exact hB
  · unfold cRC cPx at *; rw [a1, b1]; exact hC
  · unfold cRD cStp at *; rw [a2, a3, a4, b2, b3, b4, b5, b6, c1, c2, c3]; exact hD
  · unfold cRE cOL cSt cEn cAr cInn at *; rw [a1, a2, a3, a4, b2, b3, b4, b5]; exact hE
  · unfold cRF at *; rw [a6, b7]; exact hF
  · unfold cRG at *; rw [a5, b8, c4]; exact hG
  · unfold cRH cStp at *; rw [a2, a3, a4]; exact hH
theorem cwv.ceq {s t : mm_S} {u : cc_U} {Z : List mm_P} (h : cwv s u Z) (a1 : t.1 1 = s.1 1) (a2 : t.1 6 = s.1 6) (a3 : t.1 9 = s.1 9) (a4 : t.1 13 = s.1 13) (b2 : t.2.1 3 = s.2.1 3) (b3 : t.2.1 4 = s.2.1 4) (b4 : t.2.1 7 = s.2.1 7) (b5 : t.2.1 10 = s.2.1 10) (b6 : t.2.1 12 = s.2.1 12) (c1 : t.2.2 5 = s.2.2 5) (c2 : t.2.2 8 = s.2.2 8) (c3 : t.2.2 11 = s.2.2 11) : cwv t u Z := by
  have e1 : cOL t = cOL s := by funext p; unfold cOL cSt cEn cAr; rw [a2, a3, a4, b2, b5]
  have e2 : ∀ LL, cCd t LL = cCd s LL := fun LL => by funext n; unfold cCd; rw [b3, b4, c1, c2, c3]
  have e3 : cgr t = cgr s := by funext w; unfold cgr; rw [b6]
  unfold cwv cHold at *
  rw [a1, e1, e3]
  simp only [e2]
  exact h
theorem cok.nq {s t : mm_S} {u : cc_U} (h : cok s u) (q : mm_nq s t) : cok t u := by
  obtain ⟨⟨O, hR⟩, hW⟩ := h
  have e := q.ceq
  obtain ⟨⟨a1, a2, a3, a4, a5, a6⟩, ⟨b1, b2, b3, b4, b5, b6, b7, b8⟩, c1, c2, c3, c4⟩ := id e
  refine ⟨⟨O, hR.ceq e⟩, fun z => ?_⟩
  rw [a6] at z
  obtain ⟨Z, z1, z2⟩ := hW z
  exact ⟨Z, z1.nq q, z2.ceq a1 a2 a3 a4 b2 b3 b4 b5 b6 c1 c2 c3⟩
theorem ok_run {s t : mm_S} (ok : mm_ok s) (q : mm_rq s t) (h24 : t.1 24 ≤ 320) : mm_ok t := by
  obtain ⟨q1, q2, q3⟩ := q
  have r : ∀ k, k < 26 → k ≠ 18 → k ≠ 19 → k ≠ 21 → k ≠ 22 → k ≠ 23 → t.2.1 k = s.2.1 k := fun k h => (q3 k h).1
  have d : ∀ k, k < 26 → k ≠ 20 → t.2.2 k = s.2.2 k := fun k h => (q3 k h).2
  unfold mm_ok
  rw [q1 1 (by decide) (by decide) (by decide), q1 6 (by decide) (by decide) (by decide), q1 9 (by decide) (by decide) (by decide), q1 13 (by decide) (by decide) (by decide), q1 17 (by decide) (by decide) (by decide), q2, r 3 (by decide) (by decide) (by decide) (by decide) (by decide) (by decide), r 4 (by decide) (by decide) (by decide) (by decide) (by decide) (by decide), d 5 (by decide) (by decide), r 7 (by decide) (by decide) (by decide) (by decide) (by decide) (by decide), d 8 (by decide) (by decide), r 10 (by decide) (by decide) (by decide) (by decide) (by decide) (by decide), d 11 (by decide) (by decide), r 12 (by decide) (by decide) (by decide) (by decide) (by decide) (by decide), r 14 (by decide) (by decide) (by decide) (by decide) (by decide) (by decide), r 2 (by decide) (by decide) (by decide) (by decide) (by decide) (by decide), r 15 (by decide) (by decide) (by decide) (by decide) (by decide) (by decide), d 16 (by decide) (by decide)]
  obtain ⟨⟨b1, b2, b3, b4, b5, b6, b7⟩, h⟩ := ok
  exact ⟨⟨b1, b2, b3, b4, b5, by omega, h24⟩, h⟩
theorem cok_run {s t : mm_S} {u : cc_U} {O : List Nat} {Z : List mm_P} (hR : cRl (mm_I s 25 1) u O) (hw : cwv s u Z) (q : mm_rq s t) (hv : mm_vis t Z) : cok t u := by
  obtain ⟨q1, q2, q3⟩ := q
  have r : ∀ k, k < 26 → k ≠ 18 → k ≠ 19 → k ≠ 21 → k ≠ 22 → k ≠ 23 → t.2.1 k = s.2.1 k := fun k h => (q3 k h).1
  have d : ∀ k, k < 26 → k ≠ 20 → t.2.2 k = s.2.2 k := fun k h => (q3 k h).2
  refine ⟨⟨O, hR.ceq ⟨⟨q1 1 (by decide) (by decide) (by decide), q1 6 (by decide) (by decide) (by decide), q1 9 (by decide) (by decide) (by decide), q1 13 (by decide) (by decide) (by decide), q1 17 (by decide) (by decide) (by decide), q2⟩, ⟨r 2 (by decide) (by decide) (by decide) (by decide) (by decide) (by decide), r 3 (by decide) (by decide) (by decide) (by decide) (by decide) (by decide), r 4 (by decide) (by decide) (by decide) (by decide) (by decide) (by decide), r 7 (by decide) (by decide) (by decide) (by decide) (by decide) (by decide), r 10 (by decide) (by decide) (by decide) (by decide) (by decide) (by decide), r 12 (by decide) (by decide) (by decide) (by decide) (by decide) (by decide), r 14 (by decide) (by decide) (by decide) (by decide) (by decide) (by decide), r 15 (by decide) (by decide) (by decide) (by decide) (by decide) (by decide)⟩, d 5 (by decide) (by decide), d 8 (by decide) (by decide), d 11 (by decide) (by decide), d 16 (by decide) (by decide)⟩⟩, fun _ => ⟨Z, hv, hw.ceq (q1 1 (by decide) (by decide) (by decide)) (q1 6 (by decide) (by decide) (by decide)) (q1 9 (by decide) (by decide) (by decide)) (q1 13 (by decide) (by decide) (by decide)) (r 3 (by decide) (by decide) (by decide) (by decide) (by decide) (by decide)) (r 4 (by decide) (by decide) (by decide) (by decide) (by decide) (by decide)) (r 7 (by decide) (by decide) (by decide) (by decide) (by decide) (by decide)) (r 10 (by decide) (by decide) (by decide) (by decide) (by decide) (by decide)) (r 12 (by decide) (by decide) (by decide) (by decide) (by decide) (by decide)) (d 5 (by decide) (by decide)) (d 8 (by decide) (by decide)) (d 11 (by decide) (by decide))⟩⟩
