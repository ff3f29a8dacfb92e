/-! ===== firstOf, take ===== -/
def cBest (v : cc_U) (F : Nat → Nat) (o : Option Nat) (T : List Nat) : Prop := (∀ b, o = some b → ∃ T1 T2, T = T1 ++ b :: T2 ∧ F b < csz v b ∧ (∀ m ∈ T1, F m < csz v m → clf v b (F b) < clf v m (F m)) ∧ ∀ m ∈ T2, F m < csz v m → clf v b (F b) ≤ clf v m (F m)) ∧ (o = none → ∀ m ∈ T, ¬ F m < csz v m)
theorem cBest.all {v : cc_U} {F : Nat → Nat} {b : Nat} {T : List Nat} (h : cBest v F (some b) T) : b ∈ T ∧ F b < csz v b ∧ ∀ m ∈ T, F m < csz v m → clf v b (F b) ≤ clf v m (F m) := by
  obtain ⟨T1, T2, rfl, h1, h2, h3⟩ := h.1 b rfl
  refine ⟨by simp, h1, fun m hm hf => ?_⟩
  rcases List.mem_append.mp hm with g | g
  · exact Int.le_of_lt (h2 m g hf)
  · rcases List.mem_cons.mp g with g | g
    · rw [g]; exact Int.le_refl _
    · exact h3 m g hf
theorem cBest.skip {v : cc_U} {F : Nat → Nat} {o : Option Nat} {T : List Nat} (h : cBest v F o T) {n : Nat} (hn : F n < csz v n → ∃ b, o = some b ∧ clf v b (F b) ≤ clf v n (F n)) : cBest v F o (T ++ [n]) := by
  refine ⟨fun b hb => ?_, fun ho m hm => ?_⟩
  · obtain ⟨T1, T2, e, h1, h2, h3⟩ := h.1 b hb
    refine ⟨T1, T2 ++ [n], by rw [e]; simp, h1, h2, fun m hm hf => ?_⟩
    rcases List.mem_append.mp hm with g | g
    · exact h3 m g hf
    · rw [List.mem_singleton.mp g] at hf ⊢
      obtain ⟨b', e', h4⟩ := hn hf
      obtain rfl : b' = b := Option.some.inj (e'.symm.trans hb)
      exact h4
  · rcases List.mem_append.mp hm with g | g
    · exact h.2 ho m g
    · rw [List.mem_singleton.mp g]
      intro hf
      obtain ⟨b', e', -⟩ := hn hf
      rw [ho] at e'; cases e'
theorem cBest.new {v : cc_U} {F : Nat → Nat} {o : Option Nat} {T : List Nat} (h : cBest v F o T) {n : Nat} (hn : F n < csz v n) (hb : ∀ b, o = some b → clf v n (F n) < clf v b (F b)) : cBest v F (some n) (T ++ [n]) := by
  refine ⟨fun b hb' => ?_, fun ho => by cases ho⟩
  obtain rfl : n = b := Option.some.inj hb'
  refine ⟨T, [], rfl, hn, fun m hm hf => ?_, fun m hm => absurd hm List.not_mem_nil⟩
  cases o with
  | none => exact absurd hf (h.2 rfl m hm)
  | some b =>
    have := h.all.2.2 m hm hf
    have := hb b rfl
    omega
abbrev c3o (o : Option Nat) : Option px_R := o.map fun n => ((3, n) : px_R)
theorem px_rf_ref (o : Option px_R) : px_ref (px_rf o) := by cases o <;> trivial
set_option maxRecDepth 100000 in
set_option maxHeartbeats 4000000 in
theorem ce_first {v : cc_U} {X : px_M} (hX : c9 X) {p k : Nat} {L : List Nat} (f : Nat → Nat) (h0 : cx v 14 0) (h8 : cx v 14 8) (h13 : cx v 13 p) (hL : cl v 13 p = c3 L) (hl : L.length ≤ 200) (hnd : L.Nodup) (hb : ∀ n ∈ L, cBh v n ∧ f n ≤ csz v n) (hk : k ≤ 40) (ht : ∀ g, g < 8 → cn v 14 8 g ≤ 1000) : px_Met 3 0 0 mX4_firstOf [.inr (14, 0), .inr (13, p), .inl (.int (nI k))] (cc_M (cNx v f) X) (fun o M' => ∃ b, o = .inl (some (px_rf (c3o b))) ∧ cBest v (fun n => cNe v k n (f n)) b L ∧ M' = cc_M (cNx v (fun n => if n ∈ L then cNe v k n (f n) else f n)) X) := by
  refine px_ofW (by decide) W_mX4_firstOf (Nat.le_of_ble_eq_true rfl) ?_
  have loop : ∀ (S T : List Nat) (b : Option Nat), T ++ S = L → cBest v (fun n => cNe v k n (f n)) b T → px_W 3 0 0 mX4_firstOf (fun o M' => ∃ b, o = .inl (some (px_rf (c3o b))) ∧ cBest v (fun n => cNe v k n (f n)) b L ∧ M' = cc_M (cNx v (fun n => if n ∈ L then cNe v k n (f n) else f n)) X) 5 [(0, .inr (14, 0)), (1, .inr (13, p)), (2, .inl (.int (nI k))), (3, px_rf (c3o b)), (4, .inl (.int (nI T.length)))] [] (cc_M (cNx v (fun n => if n ∈ T then cNe v k n (f n) else f n)) X) 0 0 := by
    intro S
    induction S with
    | nil =>
      intro T b e1 e2
      rw [List.append_nil] at e1
      subst e1
      have k13 := (cxX v (fun n => if n ∈ T then cNe v k n (f n) else f n) 13 p).mpr h13
      refine px_iload dX4_firstOf_5 rfl ?_
      refine px_aload_n dX4_firstOf_7 rfl trivial ?_
      refine px_callVr (cl_size rfl (by first | assumption | (simp only [cxN, cxZ, cxS, cxL, cxR]; assumption)) hX) dX4_firstOf_8 L_RX4_70 (cc_rcL rfl (by first | assumption | (simp only [cxN, cxZ, cxS, cxL, cxR]; assumption))) rfl rfl (by decide) (by omega) (by omega) (Nat.le_of_ble_eq_true rfl) ?_
      rw [clX, hL, List.length_map]
      refine pn_icmp_ge (tgt := 63) dX4_firstOf_11 (by decide) (nI_leI (by omega) (by omega)) (fun g1 => ?_) (fun g1 => ?_)
      · refine px_aload_n dX4_firstOf_63 rfl (px_rf_ref _) ?_
        refine px_aret dX4_firstOf_64 rfl (Or.inl ⟨_, rfl⟩) (px_rf_ref _) ?_ (by omega) (by omega)
        exact ⟨b, rfl, e2, rfl⟩
      · omega
    | cons n S ih =>
      intro T b e1 e2
      have hnL : n ∈ L := by rw [← e1]; simp
      have hnT : n ∉ T := fun hm => by
        rw [← e1] at hnd
        exact (List.nodup_append.mp hnd).2.2 n hm n List.mem_cons_self rfl
      have hTl : T.length < L.length := by rw [← e1]; simp
      obtain ⟨hbn, hfn⟩ := hb n hnL
      have ih1 := fun b' => ih (T ++ [n]) b' (by rw [← e1]; simp)
      rw [show (T ++ [n]).length = T.length + 1 by simp] at ih1
      have eF : px_upN (fun m => if m ∈ T then cNe v k m (f m) else f m) n (cNe v k n (f n)) = fun m => if m ∈ T ++ [n] then cNe v k m (f m) else f m := by
        funext m
        unfold px_upN
        by_cases em : m = n
        · subst em; rw [if_pos rfl, if_pos (by simp)]
        · rw [if_neg em]
          by_cases hm : m ∈ T
          · simp only [if_pos hm]; rw [if_pos (by simp [hm])]
          · simp only [if_neg hm]; rw [if_neg (by simp [hm, em])]
      have eg : L[T.length]? = some n := by
        rw [← e1, List.getElem?_append_right (Nat.le_refl _), Nat.sub_self]; rfl
      have k13 := (cxX v (fun n => if n ∈ T then cNe v k n (f n) else f n) 13 p).mpr h13
      have k0 := (cxX v (fun n => if n ∈ T then cNe v k n (f n) else f n) 14 0).mpr h0
      have k3 := ((cBhX v (fun n => if n ∈ T then cNe v k n (f n) else f n) n).mpr hbn).1
      refine px_iload dX4_firstOf_5 rfl ?_
      refine px_aload_n dX4_firstOf_7 rfl trivial ?_
      refine px_callVr (cl_size rfl (by first | assumption | (simp only [cxN, cxZ, cxS, cxL, cxR]; assumption)) hX) dX4_firstOf_8 L_RX4_70 (cc_rcL rfl (by first | assumption | (simp only [cxN, cxZ, cxS, cxL, cxR]; assumption))) rfl rfl (by decide) (by omega) (by omega) (Nat.le_of_ble_eq_true rfl) ?_
      rw [clX, hL, List.length_map]
      refine pn_icmp_ge (tgt := 63) dX4_firstOf_11 (by decide) (nI_leI (by omega) (by omega)) (fun g1 => ?_) (fun g1 => ?_)
      · omega
      refine px_aload_n dX4_firstOf_14 rfl trivial ?_
      refine px_iload dX4_firstOf_15 rfl ?_
      refine px_callVr (cl_get (x := (3, n)) (by rw [clX, hL]; exact c3_get eg) rfl (by first | assumption | (simp only [cxN, cxZ, cxS, cxL, cxR]; assumption)) hX) dX4_firstOf_17 L_RX4_98 (cc_rcL rfl (by first | assumption | (simp only [cxN, cxZ, cxS, cxL, cxR]; assumption))) rfl rfl (by decide) (by omega) (by omega) (Nat.le_of_ble_eq_true rfl) ?_
      refine px_cast dX4_firstOf_20 (cc_step (by first | assumption | (simp only [cxN, cxZ, cxS, cxL, cxR]; assumption))) rfl K_RX4_115 ?_
      refine px_astore dX4_firstOf_23 (by decide) trivial ?_
      refine px_aload_n dX4_firstOf_25 rfl trivial ?_
      refine px_aload dX4_firstOf_26 rfl trivial ?_
      refine px_iload_n dX4_firstOf_28 rfl ?_
      have hfT : (fun m => if m ∈ T then cNe v k m (f m) else f m) n = f n := if_neg hnT
      have hn1 := ce_hn (X := X) (k := k) (fun m => if m ∈ T then cNe v k m (f m) else f m) h0 h8 hbn (by rw [if_neg hnT]; exact hfn) hk ht
      rw [if_neg hnT, eF] at hn1
      refine px_callVr (hn1) dX4_firstOf_29 L_RX4_259 (cc_rc4 (by first | assumption | (simp only [cxN, cxZ, cxS, cxL, cxR]; assumption))) rfl rfl (by decide) (by omega) (by omega) (Nat.le_of_ble_eq_true rfl) ?_
      generalize hG : (fun m => if m ∈ T ++ [n] then cNe v k m (f m) else f m) = G at ih1
      have Gn : G n = cNe v k n (f n) := by rw [← hG]; exact if_pos (by simp)
      have GT : ∀ m ∈ T, G m = cNe v k m (f m) := fun m hm => by rw [← hG]; exact if_pos (by simp [hm])
      have next : ∀ b', cBest v (fun n => cNe v k n (f n)) b' (T ++ [n]) → px_W 3 0 0 mX4_firstOf (fun o M' => ∃ b, o = .inl (some (px_rf (c3o b))) ∧ cBest v (fun n => cNe v k n (f n)) b L ∧ M' = cc_M (cNx v (fun n => if n ∈ L then cNe v k n (f n) else f n)) X) 57 [(0, .inr (14, 0)), (1, .inr (13, p)), (2, .inl (.int (nI k))), (3, px_rf (c3o b')), (4, .inl (.int (nI T.length)))] [] (cc_M (cNx v G) X) 0 0 := fun b' hb' => by
        cases b' with
        | none =>
          refine px_iinc dX4_firstOf_57 rfl (pn_i1 _) (by decide) ?_
          refine px_goto (tgt := 5) dX4_firstOf_60 (by decide) ?_
          exact px_sub (ih1 none hb') rfl
        | some b' =>
          refine px_iinc dX4_firstOf_57 rfl (pn_i1 _) (by decide) ?_
          refine px_goto (tgt := 5) dX4_firstOf_60 (by decide) ?_
          exact px_sub (ih1 (some b') hb') rfl
      have set : cBest v (fun n => cNe v k n (f n)) (some n) (T ++ [n]) → px_W 3 0 0 mX4_firstOf (fun o M' => ∃ b, o = .inl (some (px_rf (c3o b))) ∧ cBest v (fun n => cNe v k n (f n)) b L ∧ M' = cc_M (cNx v (fun n => if n ∈ L then cNe v k n (f n) else f n)) X) 54 [(0, .inr (14, 0)), (1, .inr (13, p)), (2, .inl (.int (nI k))), (4, .inl (.int (nI T.length))), (5, .inr (3, n))] [] (cc_M (cNx v G) X) 0 0 := fun hb' => by
        refine px_aload dX4_firstOf_54 rfl trivial ?_
        refine px_astore_n dX4_firstOf_56 (by decide) trivial ?_
        exact px_sub (next (some n) hb') rfl
      by_cases hlt : cNe v k n (f n) < csz v n
      · rw [if_pos hlt]
        refine pn_if_eq (tgt := 57) dX4_firstOf_32 (by decide) (pn_z (by omega)) (fun g2 => ?_) (fun g2 => ?_)
        · exact absurd g2 (by decide)
        refine px_aload_n dX4_firstOf_35 rfl (px_rf_ref _) ?_
        refine px_ifnull (o := c3o b) (tgt := 54) dX4_firstOf_36 (by decide) (fun g3 => ?_) (fun r g3 => ?_)
        · cases b with
          | none => exact px_sub (set (e2.new hlt fun b hb => by cases hb)) rfl
          | some b => cases g3
        · cases b with
          | none => cases g3
          | some b =>
            obtain ⟨c1, c2, c3⟩ := e2.all
            obtain ⟨d1, d2⟩ := hb b (by rw [← e1]; simp [c1])
            have kG0 := (cxX v G 14 0).mpr h0
            have kGn := (cBhX v G n).mpr hbn
            have kGb := (cBhX v G b).mpr d1
            have lt1 : cn (cNx v G) 3 n 4 < csz (cNx v G) n := by rw [cnX4, cszX, Gn]; exact hlt
            have lt2 : cn (cNx v G) 3 b 4 < csz (cNx v G) b := by rw [cnX4, cszX, GT b c1]; exact c2
            refine px_aload_n dX4_firstOf_39 rfl trivial ?_
            refine px_aload dX4_firstOf_40 rfl trivial ?_
            refine px_callVr (ce_lbn kG0 kGn lt1) dX4_firstOf_42 L_RX4_263 (cc_rc4 (by first | assumption | (simp only [cxN, cxZ, cxS, cxL, cxR]; assumption))) rfl rfl (by decide) (by omega) (by omega) (Nat.le_of_ble_eq_true rfl) ?_
            refine px_aload_n dX4_firstOf_45 rfl trivial ?_
            refine px_aload_n (v := .inr (3, b)) dX4_firstOf_46 rfl trivial ?_
            refine px_callVr (ce_lbn kG0 kGb lt2) dX4_firstOf_47 L_RX4_263 (cc_rc4 (by first | assumption | (simp only [cxN, cxZ, cxS, cxL, cxR]; assumption))) rfl rfl (by decide) (by omega) (by omega) (Nat.le_of_ble_eq_true rfl) ?_
            rw [clfX, clfX, cnX4, cnX4, Gn, GT b c1]
            have b1 : (clf v n (cNe v k n (f n))).natAbs ≤ 2 ^ 46 := by
              have g1 := (hbn.2.2.1 _ hlt).2
              have g2 := hbn.2.2.2
              unfold clf; omega
            have b2 : (clf v b (cNe v k b (f b))).natAbs ≤ 2 ^ 46 := by
              have g1 := (d1.2.2.1 _ c2).2
              have g2 := d1.2.2.2
              unfold clf; omega
            refine pn_dcmp dX4_firstOf_50 rfl rfl (by omega) (by omega) ?_
            refine pn_if_ge (tgt := 57) dX4_firstOf_51 (by decide) (dz_c_ge _ _) (fun g4 => ?_) (fun g4 => ?_)
            · exact px_sub (next (some b) (e2.skip fun _ => ⟨b, rfl, g4⟩)) rfl
            · exact px_sub (set (e2.new hlt fun b' hb' => by
                obtain rfl : b = b' := Option.some.inj hb'
                show clf v n (cNe v k n (f n)) < clf v b (cNe v k b (f b))
                omega)) rfl
      · rw [if_neg hlt]
        refine pn_if_eq (tgt := 57) dX4_firstOf_32 (by decide) (pn_z (by omega)) (fun g2 => ?_) (fun g2 => ?_)
        · exact px_sub (next b (e2.skip fun z => absurd z hlt)) rfl
        · exact absurd rfl g2
  refine px_anull dX4_firstOf_0 ?_
  refine px_astore_n (v := .inl .null) dX4_firstOf_1 (by decide) trivial ?_
  refine px_iconst (v := nI 0) dX4_firstOf_2 (by decide) ?_
  refine px_istore dX4_firstOf_3 (by decide) ?_
  have e0 : (fun n => if n ∈ ([] : List Nat) then cNe v k n (f n) else f n) = f := funext fun n => if_neg List.not_mem_nil
  have := loop L [] none rfl ⟨fun b hb => (by cases hb), fun _ m hm => absurd hm List.not_mem_nil⟩
  rw [e0] at this
  exact px_sub this rfl
/-- a way taken -/
def cTk (v : cc_U) (p n m : Nat) : cc_U := cN (cN (cN (cN (cN (cS (cZ v 8 p m (clf v n (cn v 3 n 4))) 9 p m (some (3, n))) 10 p m (cn v 3 n 4)) 11 p m (cgp v n (cn v 3 n 4))) 7 p 0 (m + 1)) 14 8 (cgp v n (cn v 3 n 4)) (cn v 14 8 (cgp v n (cn v 3 n 4)) + 1)) 3 n 4 (cn v 3 n 4 + 1)
set_option maxRecDepth 100000 in
set_option maxHeartbeats 4000000 in
theorem ce_take {v : cc_U} {X : px_M} {p n m : Nat} (h0 : cx v 14 0) (h8 : cx v 14 8) (hp : cPn v p) (hm : cn v 7 p 0 = m) (hmw : m < cc_wl p) (h : cBh v n) (hr : cn v 3 n 4 < csz v n) (ht : ∀ g, g < 8 → cn v 14 8 g ≤ 1000) : px_Met 1 0 0 mX4_take [.inr (14, 0), .inr (3, n), .inr (7, p)] (cc_M v X) (px_rt none (cc_M (cTk v p n m) X)) := by
  refine px_ofW (by decide) W_mX4_take (Nat.le_of_ble_eq_true rfl) ?_
  have hg := (h.2.2.1 _ hr).1
  have htg := ht _ hg
  have hrb : cn v 3 n 4 < 320 := Nat.lt_of_lt_of_le (h.lt hr) (cc_wl_b _)
  have h3 := h.1
  obtain ⟨p2, p7, p8, p9, p10, p11, p12, p13, p14⟩ := id hp
  unfold cTk
  refine px_aload_n dX4_take_0 rfl trivial ?_
  refine px_aload_n dX4_take_1 rfl trivial ?_
  refine px_callVr (ce_gon h0 h hr) dX4_take_2 L_RX4_267 (cc_rc4 (by first | assumption | (simp only [cxN, cxZ, cxS, cxL, cxR]; assumption))) rfl rfl (by decide) (by omega) (by omega) (Nat.le_of_ble_eq_true rfl) ?_
  generalize hG : cgp v n (cn v 3 n 4) = G at hg htg
  refine px_istore_n dX4_take_5 (by decide) ?_
  refine px_aload_n dX4_take_6 rfl trivial ?_
  refine px_getf dX4_take_7 F_RX4_157 (cc_ways (by first | assumption | (simp only [cxN, cxZ, cxS, cxL, cxR]; assumption))) (by rfl) ?_
  refine px_aload_n dX4_take_10 rfl trivial ?_
  refine px_getf dX4_take_11 F_RX4_64 (cc_ways (by first | assumption | (simp only [cxN, cxZ, cxS, cxL, cxR]; assumption))) (by rfl) ?_
  rw [cn_def, hm]
  refine px_aload_n dX4_take_14 rfl trivial ?_
  refine px_aload_n dX4_take_15 rfl trivial ?_
  refine px_callVr (ce_lbn h0 h hr) dX4_take_16 L_RX4_263 (cc_rc4 (by first | assumption | (simp only [cxN, cxZ, cxS, cxL, cxR]; assumption))) rfl rfl (by decide) (by omega) (by omega) (Nat.le_of_ble_eq_true rfl) ?_
  generalize hr9 : cn v 3 n 4 = r at hrb
  generalize clf v n r = z
  refine cw_left dX4_take_19 (by first | assumption | (simp only [cxN, cxZ, cxS, cxL, cxR]; assumption)) (by first | rfl | assumption) (by first | assumption | omega) rfl ?_
  refine px_aload_n dX4_take_20 rfl trivial ?_
  refine px_getf dX4_take_21 F_RX4_273 (cc_ways (by first | assumption | (simp only [cxN, cxZ, cxS, cxL, cxR]; assumption))) (by rfl) ?_
  refine px_aload_n dX4_take_24 rfl trivial ?_
  refine px_getf dX4_take_25 F_RX4_64 (cc_ways (by first | assumption | (simp only [cxN, cxZ, cxS, cxL, cxR]; assumption))) (by rfl) ?_
  rw [cn_def, cnZ, hm]
  refine px_aload_n dX4_take_28 rfl trivial ?_
  refine cw_step dX4_take_29 (by first | assumption | (simp only [cxN, cxZ, cxS, cxL, cxR]; assumption)) (by first | assumption | (simp only [cxN, cxZ, cxS, cxL, cxR]; assumption)) (by first | rfl | assumption) (by first | assumption | omega) ?_
  refine px_aload_n dX4_take_30 rfl trivial ?_
  refine px_getf dX4_take_31 F_RX4_277 (cc_ways (by first | assumption | (simp only [cxN, cxZ, cxS, cxL, cxR]; assumption))) (by rfl) ?_
  refine px_aload_n dX4_take_34 rfl trivial ?_
  refine px_getf dX4_take_35 F_RX4_64 (cc_ways (by first | assumption | (simp only [cxN, cxZ, cxS, cxL, cxR]; assumption))) (by rfl) ?_
  rw [cn_def, cnS, cnZ, hm]
  refine px_aload_n dX4_take_38 rfl trivial ?_
  refine px_getf dX4_take_39 F_RX4_248 (cc_step (by first | assumption | (simp only [cxN, cxZ, cxS, cxL, cxR]; assumption))) (by rfl) ?_
  rw [cn_def, cnS, cnZ, hr9]
  refine cw_rest dX4_take_42 (by first | assumption | (simp only [cxN, cxZ, cxS, cxL, cxR]; assumption)) (by first | rfl | assumption) (by first | assumption | omega) rfl ?_
  refine px_aload_n dX4_take_43 rfl trivial ?_
  refine px_getf dX4_take_44 F_RX4_271 (cc_ways (by first | assumption | (simp only [cxN, cxZ, cxS, cxL, cxR]; assumption))) (by rfl) ?_
  refine px_aload_n dX4_take_47 rfl trivial ?_
  refine px_getf dX4_take_48 F_RX4_64 (cc_ways (by first | assumption | (simp only [cxN, cxZ, cxS, cxL, cxR]; assumption))) (by rfl) ?_
  rw [cn_def, cnN, if_neg (by omega), cnS, cnZ, hm]
  refine px_iload_n dX4_take_51 rfl ?_
  refine cw_grp dX4_take_52 (by first | assumption | (simp only [cxN, cxZ, cxS, cxL, cxR]; assumption)) (by first | rfl | assumption) (by first | assumption | omega) rfl ?_
  refine px_aload_n dX4_take_53 rfl trivial ?_
  refine px_dup dX4_take_54 rfl ?_
  refine px_getf dX4_take_55 F_RX4_64 (cc_ways (by first | assumption | (simp only [cxN, cxZ, cxS, cxL, cxR]; assumption))) (by rfl) ?_
  rw [cn_def, cnN, if_neg (by omega), cnN, if_neg (by omega), cnS, cnZ, hm]
  refine px_iconst (v := nI 1) dX4_take_58 (by decide) ?_
  refine pn_iadd dX4_take_59 (by first | exact nI_add _ _ | rfl) ?_
  refine cp_size dX4_take_60 F_RX4_64 (by first | assumption | (simp only [cxN, cxZ, cxS, cxL, cxR]; assumption)) rfl ?_
  refine px_aload_n dX4_take_63 rfl trivial ?_
  refine px_getf dX4_take_64 F_RX4_47 (cc_obj (by first | assumption | (simp only [cxN, cxZ, cxS, cxL, cxR]; assumption))) (by rfl) ?_
  refine px_iload_n dX4_take_67 rfl ?_
  refine px_dup2 dX4_take_68 rfl rfl ?_
  refine ca_tak dX4_take_69 (by first | assumption | (simp only [cxN, cxZ, cxS, cxL, cxR]; assumption)) (by first | rfl | assumption) (by first | assumption | omega) ?_
  rw [cnN, if_neg (by omega), cnN, if_neg (by omega), cnN, if_neg (by omega), cnS, cnZ]
  refine px_iconst (v := nI 1) dX4_take_70 (by decide) ?_
  refine pn_iadd dX4_take_71 (by first | exact nI_add _ _ | rfl) ?_
  refine cw_tak dX4_take_72 (by first | assumption | (simp only [cxN, cxZ, cxS, cxL, cxR]; assumption)) (by first | rfl | assumption) (by first | assumption | omega) rfl ?_
  refine px_aload_n dX4_take_73 rfl trivial ?_
  refine px_dup dX4_take_74 rfl ?_
  refine px_getf dX4_take_75 F_RX4_248 (cc_step (by first | assumption | (simp only [cxN, cxZ, cxS, cxL, cxR]; assumption))) (by rfl) ?_
  rw [cn_def, cnN, if_neg (by omega), cnN, if_neg (by omega), cnN, if_neg (by omega), cnN, if_neg (by omega), cnS, cnZ, hr9]
  refine px_iconst (v := nI 1) dX4_take_78 (by decide) ?_
  refine pn_iadd dX4_take_79 (by first | exact nI_add _ _ | rfl) ?_
  refine cp_next dX4_take_80 F_RX4_248 (by first | assumption | (simp only [cxN, cxZ, cxS, cxL, cxR]; assumption)) rfl ?_
  refine px_vret dX4_take_83 rfl ?_ (by omega) (by omega)
  exact ⟨rfl, rfl⟩
