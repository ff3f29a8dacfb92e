/-! ===== slack, at ===== -/
theorem cHold.nil {s : mm_S} {u : cc_U} {LL : Nat → List cW} {q j : Nat} {w : cW} (ok : mm_ok s) (h : cHold s u LL q) (hj : (LL q)[j]? = some w) (e : w.2.1 = []) : q ≠ 60 ∧ cs u 9 q j = some (3, 300 + w.2.2) ∧ w.2.2 < s.1 13 ∧ cn u 10 q j = 0 := by
  obtain ⟨n, a1, a2, a3, a4, a5⟩ := h.2 j w hj
  have h9 := ok.1.2.2.1
  have hm := cCd_key LL (List.mem_of_getElem? a3)
  have h6 := ok.1.2.1
  rcases cOL_kd h9 a2 with ⟨e0, i, e1, hi⟩ | ⟨e0, i, e1, hi, hi'⟩ | ⟨e0, hn', hi'⟩
  · obtain ⟨t, ht⟩ := hm.2.1 (by omega) (by omega)
    rw [e] at ht; cases ht
  · have e2 := (hm.1 (by omega)).2
    rw [e1, cCd_e] at a3
    have hl := (List.getElem?_eq_some_iff.mp a3).1
    have hl : cn u 10 q j < 1 := hl
    have e3 : w.2.2 = i := by omega
    rw [e3]
    exact ⟨e0, by rw [← e1]; exact a1, hi, by omega⟩
  · obtain ⟨t, ht⟩ := hm.2.2 (by omega)
    rw [e] at ht; cases ht
theorem cHold.cons {s : mm_S} {u : cc_U} {LL : Nat → List cW} {q j a : Nat} {ks : List Nat} {w : cW} (ok : mm_ok s) (h : cHold s u LL q) (hj : (LL q)[j]? = some w) (e : w.2.1 = a :: ks) :
    (q ≠ 60 → cs u 9 q j = some (3, a) ∧ a < s.1 6 ∧ ∃ w1, (LL (s.2.1 4 a))[cn u 10 q j]? = some w1 ∧ w1.2.1 = ks ∧ w1.2.2 = w.2.2) ∧
    (q = 60 → cs u 9 q j = some (3, 200 + a) ∧ a < s.1 9 ∧ ∃ w1, (LL (s.2.1 7 a))[cn u 10 q j]? = some w1 ∧ w1.2.1 = ks ∧ w1.2.2 = w.2.2) := by
  obtain ⟨n, a1, a2, a3, a4, a5⟩ := h.2 j w hj
  have h9 := ok.1.2.2.1
  have hm := cCd_key LL (List.mem_of_getElem? a3)
  have h6 := ok.1.2.1
  rcases cOL_kd h9 a2 with ⟨e0, i, e1, hi⟩ | ⟨e0, i, e1, hi, hi'⟩ | ⟨e0, hn', hi'⟩
  · refine ⟨fun z => absurd e0 z, fun _ => ?_⟩
    rw [e1, cCd_s LL (by omega), List.getElem?_map] at a3
    cases e4 : (LL (s.2.1 7 i))[cn u 10 q j]? with
    | none => rw [e4] at a3; cases a3
    | some w1 =>
      rw [e4] at a3
      have e5 : cEx (s.2.2 8 i) i w1 = w := Option.some.inj a3
      rw [← e5] at e
      have e : i :: w1.2.1 = a :: ks := e
      injection e with e6 e7
      subst e6
      refine ⟨by rw [← e1]; exact a1, hi, w1, e4, e7, by rw [← e5]; rfl⟩
  · have e2 := (hm.1 (by omega)).1
    rw [e] at e2; cases e2
  · refine ⟨fun _ => ?_, fun z => absurd z e0⟩
    rw [cCd_a LL (by omega), List.getElem?_map] at a3
    cases e4 : (LL (s.2.1 4 n))[cn u 10 q j]? with
    | none => rw [e4] at a3; cases a3
    | some w1 =>
      rw [e4] at a3
      have e5 : cEx (s.2.2 5 n) n w1 = w := Option.some.inj a3
      rw [← e5] at e
      have e : n :: w1.2.1 = a :: ks := e
      injection e with e6 e7
      subst e6
      refine ⟨a1, hn', w1, e4, e7, by rw [← e5]; rfl⟩
theorem cFs_at {s : mm_S} {u : cc_U} {LL : Nat → List cW} {q j : Nat} {w : cW} (h : cHold s u LL q) (hj : (LL q)[j]? = some w) : cFs u q j = cs u 9 q j := by
  unfold cFs
  rw [if_pos]
  rw [h.1]
  exact (List.getElem?_eq_some_iff.mp hj).1
theorem cFol_none {u : cc_U} {p w : Nat} (h : cFs u p w = none) (k : Nat) : cFol u k p w = none := by
  cases k with
  | zero => exact h
  | succ k => rw [cFol, h]
theorem cFol_pin {s : mm_S} {u : cc_U} {O : List Nat} {LL : Nat → List cW} (hR : cRl s u O) (ok : mm_ok s) (hH : ∀ q, q < s.1 1 → cHold s u LL q) : ∀ (ks : List Nat) (q j : Nat) (w : cW), q < s.1 1 → (LL q)[j]? = some w → w.2.1 = ks → (∀ k, cFol u k q j = ((ks ++ [300 + w.2.2])[k]?).map fun n => ((3, n) : px_R)) ∧ (∀ a ∈ ks, a < s.1 6) ∧ w.2.2 < s.1 13 := by
  have hb := ok.1.1
  intro ks
  induction ks with
  | nil =>
    intro q j w hq hj e
    obtain ⟨h1, h2, h3, h4⟩ := (hH q hq).nil ok hj e
    have hf := cFs_at (hH q hq) hj
    rw [h2] at hf
    refine ⟨fun k => ?_, fun a ha => absurd ha List.not_mem_nil, h3⟩
    cases k with
    | zero => exact hf
    | succ k =>
      rw [cFol, hf]
      show cFol u k (cn u 3 (300 + w.2.2) 2) (cn u 10 q j) = _
      rw [(hR.2.2.2.1.2.2.2 _ h3).2.2.1, h4, cFol_none]
      · rfl
      · have g := hR.2.2.2.2.2.2.2.2.2.2
        unfold cFs
        rw [if_pos (by omega)]
        exact g.2.2
  | cons a ks ih =>
    intro q j w hq hj e
    obtain ⟨h2, h3, w1, h4, h5, h6⟩ := ((hH q hq).cons ok hj e).1 (by omega)
    have hf := cFs_at (hH q hq) hj
    rw [h2] at hf
    obtain ⟨i1, i2, i3⟩ := ih _ _ w1 (ok.2.1 a h3).2.1 h4 h5
    rw [h6] at i1 i3
    refine ⟨fun k => ?_, fun b hb => ?_, i3⟩
    · cases k with
      | zero => exact hf
      | succ k =>
        rw [cFol, hf]
        show cFol u k (cn u 3 a 2) (cn u 10 q j) = _
        rw [(hR.2.2.2.1.2.1 _ h3).2.2.1]
        exact i1 k
    · rcases List.mem_cons.mp hb with z | z
      · rw [z]; exact h3
      · exact i2 b z
def cSq (z : mm_P) : List Nat := (200 + z.2.1) :: (z.2.2.1.reverse ++ [300 + z.2.2.2])
theorem cwv.fol {s : mm_S} {u : cc_U} {O : List Nat} {Z : List mm_P} (hR : cRl s u O) (ok : mm_ok s) (hw : cwv s u Z) {j : Nat} {z : mm_P} (hz : Z[j]? = some z) : (∀ k, cFol u k 60 j = ((cSq z)[k]?).map fun n => ((3, n) : px_R)) ∧ z.2.1 < s.1 9 ∧ (∀ a ∈ z.2.2.1, a < s.1 6) ∧ z.2.2.2 < s.1 13 ∧ cz u 8 60 j = z.1 := by
  obtain ⟨LL, h1, h2, h3⟩ := hw
  have hH := h3 (fun e => by rw [e] at hz; cases hz)
  have hj : (LL 60)[j]? = some (cWm z) := by rw [h1, List.getElem?_map, hz]; rfl
  obtain ⟨g2, g3, w1, g4, g5, g6⟩ := (h2.cons ok hj (show (cWm z).2.1 = z.2.1 :: z.2.2.1.reverse from rfl)).2 rfl
  have hf := cFs_at h2 hj
  rw [g2] at hf
  obtain ⟨i1, i2, i3⟩ := cFol_pin hR ok hH _ _ _ w1 (ok.2.2.1 _ g3).1 g4 g5
  rw [g6] at i1 i3
  obtain ⟨n, -, -, -, a4, -⟩ := h2.2 j _ hj
  refine ⟨fun k => ?_, g3, fun a ha => i2 a (List.mem_reverse.mpr ha), i3, a4⟩
  cases k with
  | zero => exact hf
  | succ k =>
    rw [cFol, hf]
    show cFol u k (cn u 3 (200 + z.2.1) 2) (cn u 10 60 j) = _
    rw [(hR.2.2.2.1.2.2.1 _ g3).2.2.1]
    exact i1 k
theorem cwv.len {s : mm_S} {u : cc_U} {Z : List mm_P} (hw : cwv s u Z) : cn u 7 60 0 = Z.length := by
  obtain ⟨LL, h1, h2, h3⟩ := hw
  rw [h2.1, h1, List.length_map]
theorem cRl.ws {s : mm_S} {u : cc_U} {O : List Nat} (hR : cRl s u O) (ok : mm_ok s) : cWs u := by
  refine ⟨fun p j r hr => ?_, fun p j => hR.2.2.2.2.2.2.2.2.2.1 p j⟩
  obtain ⟨n, e1, e2⟩ := hR.2.2.2.2.2.2.2.2.1 p j r hr
  exact ⟨n, e1, (hR.2.2.2.1.1 n).mpr e2, hR.2.2.1.1 _ (hR.stp ok e2).2.1⟩
set_option maxRecDepth 100000 in
set_option maxHeartbeats 4000000 in
theorem ce_slack {s : mm_S} {u : cc_U} {X : px_M} (hX : c9 X) (ok : mm_ok s) (h : cok s u) {Z : List mm_P} (hZ : s.1 25 ≠ 0 → mm_vis s Z ∧ cwv s u Z) (x : Int32) : px_Met 9 70 8000 mX4_slack [.inr (14, 0), .inl (.int x)] (cc_M u X) (cqo X [cB, cI] (kc_fault s x) (.inl (.double (dz (mm_zd Z x).1))) s) := by
  refine px_ofW (by decide) W_mX4_slack (Nat.le_of_ble_eq_true rfl) ?_
  obtain ⟨⟨O, hR⟩, hW⟩ := id h
  have hbd := ok.h1
  have h0 := hR.obj (i := 0) (by decide)
  have e25 := hR.2.2.2.2.2.1.2
  obtain ⟨p2, p7, p8, p9, p10, p11, p12, p13, p14⟩ := hR.2.2.1.1 60 (Or.inr (Or.inl rfl))
  refine px_aload_n dX4_slack_0 rfl trivial ?_
  by_cases hl : s.1 25 = 0
  · refine px_callVx (ce_lsdN h0 (by rw [e25]; exact hl)) dX4_slack_1 L_RX4_154 (cc_rc4 h0) rfl rfl (by decide) (by omega) (by omega) (Nat.le_of_ble_eq_true rfl) rfl ?_
    exact cqo.no (k := 0) h (by unfold kc_fault; rw [if_pos hl]) rfl
  · obtain ⟨hv, hw⟩ := hZ hl
    have hlen := hw.len
    have h24 := hv.1
    have h320 := hv.2.1
    refine px_callVv (ce_lsd h0 (by rw [e25]; omega) (by rw [e25]; exact hl)) dX4_slack_1 L_RX4_154 (cc_rc4 (by first | assumption | (simp only [cxN, cxZ, cxS, cxL, cxR]; assumption))) rfl rfl (by decide) (by omega) (by omega) (Nat.le_of_ble_eq_true rfl) ?_
    refine px_iload_n dX4_slack_4 rfl ?_
    refine px_aload_n dX4_slack_5 rfl trivial ?_
    refine px_getf dX4_slack_6 F_RX4_40 (cc_obj (by first | assumption | (simp only [cxN, cxZ, cxS, cxL, cxR]; assumption))) (by rfl) ?_
    refine px_getf dX4_slack_9 F_RX4_60 (cc_pin (by first | assumption | (simp only [cxN, cxZ, cxS, cxL, cxR]; assumption))) (by rfl) ?_
    refine px_getf dX4_slack_12 F_RX4_64 (cc_ways (by first | assumption | (simp only [cxN, cxZ, cxS, cxL, cxR]; assumption))) (by rfl) ?_
    rw [cn_def, hlen]
    by_cases hx : px_ix x Z.length
    · refine px_callSv (ce_chk (n := Z.length) (by omega) hx) dX4_slack_15 L_RX4_84 rfl rfl (by decide) (by omega) (by omega) (Nat.le_of_ble_eq_true rfl) ?_
      have hk : kc_fault s x = 0 := by unfold kc_fault; rw [if_neg hl, if_neg (fun z => z (by rw [h24]; exact hx))]
      rw [hk]
      have hg := (hv.get (x := x) (by rw [h24]; exact hx)).1
      have hz8 := (hw.fol hR ok hg).2.2.2.2
      obtain ⟨e1, e2⟩ := px_ix_tn hx
      generalize mm_zd Z x = z at hg hz8 ⊢
      generalize px_tn x = j at e1 e2 hg hz8
      subst e1
      have hj : j < cc_wl 60 := by show j < 320; omega
      refine px_aload_n dX4_slack_18 rfl trivial ?_
      refine px_getf dX4_slack_19 F_RX4_40 (cc_obj (by first | assumption | (simp only [cxN, cxZ, cxS, cxL, cxR]; assumption))) (by rfl) ?_
      refine px_getf dX4_slack_22 F_RX4_60 (cc_pin (by first | assumption | (simp only [cxN, cxZ, cxS, cxL, cxR]; assumption))) (by rfl) ?_
      refine px_getf dX4_slack_25 F_RX4_157 (cc_ways (by first | assumption | (simp only [cxN, cxZ, cxS, cxL, cxR]; assumption))) (by rfl) ?_
      refine px_iload_n dX4_slack_28 rfl ?_
      refine ca_left dX4_slack_29 (by first | assumption | (simp only [cxN, cxZ, cxS, cxL, cxR]; assumption)) (by first | rfl | assumption) (by first | assumption | omega) ?_
      rw [hz8]
      exact px_dret dX4_slack_30 rfl (cqo.ok h rfl) (by omega) (by omega)
    · refine px_callSx (ce_chkN (by omega) hx) dX4_slack_15 L_RX4_84 rfl rfl (by decide) (by omega) (by omega) (Nat.le_of_ble_eq_true rfl) rfl ?_
      exact cqo.no (k := 1) h (by unfold kc_fault; rw [if_neg hl, if_pos (fun z => hx (by rw [h24] at z; exact z))]) rfl
theorem cSq_len (z : mm_P) : (cSq z).length = (mm_seq z).length ∧ (mm_seq z).length = z.2.2.1.length + 2 := by
  unfold cSq mm_seq
  simp
/-- the number of a step on the way -/
theorem cSq_num {s : mm_S} {u : cc_U} {O : List Nat} (hR : cRl s u O) {z : mm_P} (h1 : z.2.1 < s.1 9) (h2 : ∀ a ∈ z.2.2.1, a < s.1 6) (h3 : z.2.2.2 < s.1 13) {k n : Nat} (h : (cSq z)[k]? = some n) : cn u 3 n 0 = (mm_seq z).getD k 0 ∧ cStp s n := by
  unfold cSq at h
  cases k with
  | zero =>
    have e : 200 + z.2.1 = n := Option.some.inj h
    rw [← e]
    exact ⟨(hR.2.2.2.1.2.2.1 _ h1).1, Or.inr (Or.inl (by omega))⟩
  | succ k =>
    have h : (z.2.2.1.reverse ++ [300 + z.2.2.2])[k]? = some n := h
    rcases Nat.lt_or_ge k z.2.2.1.reverse.length with g | g
    · rw [List.getElem?_append_left g] at h
      rw [mm_seq_m h]
      have hm := h2 n (List.mem_reverse.mp (List.mem_of_getElem? h))
      exact ⟨(hR.2.2.2.1.2.1 _ hm).1, Or.inl hm⟩
    · have hl := (List.getElem?_eq_some_iff.mp h).1
      rw [List.length_append, List.length_singleton] at hl
      have ek : k = z.2.2.1.length := by rw [List.length_reverse] at g hl; omega
      rw [List.getElem?_append_right g, show k - z.2.2.1.reverse.length = 0 by omega] at h
      have e : 300 + z.2.2.2 = n := Option.some.inj h
      rw [← e, ek, mm_seq_e]
      exact ⟨(hR.2.2.2.1.2.2.2 _ h3).1, Or.inr (Or.inr (by omega))⟩
set_option maxRecDepth 100000 in
set_option maxHeartbeats 4000000 in
theorem ce_at {s : mm_S} {u : cc_U} {X : px_M} (hX : c9 X) (ok : mm_ok s) (h : cok s u) {Z : List mm_P} (hZ : s.1 25 ≠ 0 → mm_vis s Z ∧ cwv s u Z) (x y : Int32) : px_Met 9 70 8000 mX4_at [.inr (14, 0), .inl (.int x), .inl (.int y)] (cc_M u X) (cqo X [cB, cI] (kc_at s Z x y) (.inl (.int (nI (vr_at Z x y)))) s) := by
  refine px_ofW (by decide) W_mX4_at (Nat.le_of_ble_eq_true rfl) ?_
  obtain ⟨⟨O, hR⟩, hW⟩ := id h
  have hbd := ok.h1
  have h0 := hR.obj (i := 0) (by decide)
  have e25 := hR.2.2.2.2.2.1.2
  have hp60 := hR.2.2.1.1 60 (Or.inr (Or.inl rfl))
  obtain ⟨p2, p7, p8, p9, p10, p11, p12, p13, p14⟩ := id hp60
  refine px_aload_n dX4_at_0 rfl trivial ?_
  by_cases hl : s.1 25 = 0
  · refine px_callVx (ce_lsdN h0 (by rw [e25]; exact hl)) dX4_at_1 L_RX4_154 (cc_rc4 h0) rfl rfl (by decide) (by omega) (by omega) (Nat.le_of_ble_eq_true rfl) rfl ?_
    have e : kc_fault s x = 1 := by unfold kc_fault; rw [if_pos hl]
    exact cqo.no (k := 0) h (by unfold kc_at; rw [e]; rfl) rfl
  · obtain ⟨hv, hw⟩ := hZ hl
    have hlen := hw.len
    have h24 := hv.1
    have h320 := hv.2.1
    refine px_callVv (ce_lsd h0 (by rw [e25]; omega) (by rw [e25]; exact hl)) dX4_at_1 L_RX4_154 (cc_rc4 (by first | assumption | (simp only [cxN, cxZ, cxS, cxL, cxR]; assumption))) rfl rfl (by decide) (by omega) (by omega) (Nat.le_of_ble_eq_true rfl) ?_
    refine px_iload_n dX4_at_4 rfl ?_
    refine px_aload_n dX4_at_5 rfl trivial ?_
    refine px_getf dX4_at_6 F_RX4_40 (cc_obj (by first | assumption | (simp only [cxN, cxZ, cxS, cxL, cxR]; assumption))) (by rfl) ?_
    refine px_getf dX4_at_9 F_RX4_60 (cc_pin (by first | assumption | (simp only [cxN, cxZ, cxS, cxL, cxR]; assumption))) (by rfl) ?_
    refine px_getf dX4_at_12 F_RX4_64 (cc_ways (by first | assumption | (simp only [cxN, cxZ, cxS, cxL, cxR]; assumption))) (by rfl) ?_
    rw [cn_def, hlen]
    by_cases hx : px_ix x Z.length
    · refine px_callSv (ce_chk (n := Z.length) (by omega) hx) dX4_at_15 L_RX4_84 rfl rfl (by decide) (by omega) (by omega) (Nat.le_of_ble_eq_true rfl) ?_
      have hk : kc_fault s x = 0 := by unfold kc_fault; rw [if_neg hl, if_neg (fun z => z (by rw [h24]; exact hx))]
      have hk2 : kc_at s Z x y = if px_ix y (mm_seq (mm_zd Z x)).length then 0 else 2 := by unfold kc_at; rw [if_neg (fun z => z hk)]
      rw [hk2]
      unfold vr_at
      have hg := (hv.get (x := x) (by rw [h24]; exact hx)).1
      obtain ⟨f1, f2, f3, f4, -⟩ := hw.fol hR ok hg
      obtain ⟨e1, e2⟩ := px_ix_tn hx
      generalize mm_zd Z x = z at hg f1 f2 f3 f4 ⊢
      generalize px_tn x = j at e1 e2 hg f1
      subst e1
      refine px_aload_n dX4_at_18 rfl trivial ?_
      refine px_iload_n dX4_at_19 rfl ?_
      refine px_iload_n dX4_at_20 rfl ?_
      refine px_callVr (ce_stepOf h0 hp60 (hR.ws ok) (w := j) (by omega) y) dX4_at_21 L_RX4_161 (cc_rc4 (by first | assumption | (simp only [cxN, cxZ, cxS, cxL, cxR]; assumption))) rfl rfl (by decide) (by omega) (by omega) (Nat.le_of_ble_eq_true rfl) ?_
      rw [f1]
      have hsl := (cSq_len z).1
      by_cases hy : px_ix y (mm_seq z).length
      · rw [if_pos hy, if_pos hy.1]
        obtain ⟨y1, y2⟩ := px_ix_tn hy
        obtain ⟨n, hn⟩ : ∃ n, (cSq z)[px_tn y]? = some n := ⟨_, List.getElem?_eq_getElem (by omega)⟩
        obtain ⟨n1, n2⟩ := cSq_num hR f2 f3 f4 hn
        have kn := (hR.2.2.2.1.1 n).mpr n2
        rw [hn]
        refine px_astore_n dX4_at_24 (by decide) trivial ?_
        refine px_aload_n dX4_at_25 rfl trivial ?_
        refine px_ifnonnull (o := some (3, n)) (tgt := 39) dX4_at_26 (by decide) (fun r g => ?_) (fun g => by cases g)
        refine px_aload_n (v := .inr (3, n)) dX4_at_39 rfl trivial ?_
        refine px_getf dX4_at_40 F_RX4_126 (cc_step (by first | assumption | (simp only [cxN, cxZ, cxS, cxL, cxR]; assumption))) (by rfl) ?_
        rw [cn_def, n1]
        exact px_iret dX4_at_43 rfl (cqo.ok h rfl) (by omega) (by omega)
      · rw [if_neg hy]
        have hno : (if 0 ≤ y.toInt then ((cSq z)[px_tn y]?).map (fun n => ((3, n) : px_R)) else none) = none := by
          split
          · rename_i hy0
            have : (cSq z).length ≤ px_tn y := by
              have h3 : ¬ (0 ≤ y.toInt ∧ y.toInt < ((mm_seq z).length : Int)) := hy
              unfold px_tn
              omega
            rw [List.getElem?_eq_none this]; rfl
          · rfl
        rw [hno]
        refine px_astore_n dX4_at_24 (by decide) trivial ?_
        refine px_aload_n dX4_at_25 rfl trivial ?_
        refine px_ifnonnull (o := none) (tgt := 39) dX4_at_26 (by decide) (fun r g => by cases g) (fun g => ?_)
        refine px_throw (text := "no such place") cT_169 rfl rfl (by decide) dX4_at_29 dX4_at_32 dX4_at_33 dX4_at_35 dX4_at_38 (Nat.le_of_ble_eq_true rfl) ?_ (by omega) (by omega)
        exact cqo.no (k := 1) h rfl rfl
    · refine px_callSx (ce_chkN (by omega) hx) dX4_at_15 L_RX4_84 rfl rfl (by decide) (by omega) (by omega) (Nat.le_of_ble_eq_true rfl) rfl ?_
      have e : kc_fault s x = 2 := by unfold kc_fault; rw [if_neg hl, if_pos (fun z => hx (by rw [h24] at z; exact z))]
      exact cqo.no (k := 1) h (by unfold kc_at; rw [e]; rfl) rfl
