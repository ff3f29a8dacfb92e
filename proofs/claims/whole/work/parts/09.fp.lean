/-! ===== times: doubles that are whole numbers of 1/8 ===== -/
section FPZ
def dz_sc : FP.Core.Datum → FP.Core.Datum
  | .fin s c q => .fin s c (q + 3)
  | d => d
/-- the double k/8 -/
def dz (k : Int) : UInt64 := FP.Core.of64 (FP.Core.roundRatio FP.Core.b64 (decide (k < 0)) k.natAbs 1 (-3))
def dz_is (k : Int) (a : UInt64) : Prop := FP.Core.Whole k (dz_sc (FP.Core.val64 a))
theorem dz_val (k : Int) : FP.Core.val64 (dz k) = FP.Core.roundRatio FP.Core.b64 (decide (k < 0)) k.natAbs 1 (-3) := FP.Core.val64_of64 (FP.Core.roundRatio_fits FP.Core.good_b64 _ _ (by decide) _)
/-- a datum that is k/8 rounds to dz k's, but for the sign of 0 -/
theorem dz_round {k : Int} {s : Bool} {c : Nat} {q : Int} (h : FP.Core.Whole k (dz_sc (.fin s c q))) : FP.Core.round FP.Core.b64 (.fin s c q) = FP.Core.roundRatio FP.Core.b64 s k.natAbs 1 (-3) := by
  have h1 := FP.Core.whole_natAbs h
  refine FP.Core.roundRatio_congr (by decide) (by decide) ?_
  rw [show (q - -3).toNat = (q + 3).toNat by omega, show (-3 - q).toNat = (-(q + 3)).toNat by omega, Nat.mul_one, Nat.mul_one]
  exact h1
theorem dz_eq {k : Int} {d : FP.Core.Datum} {a : UInt64} (ha : FP.Core.val64 a = FP.Core.round FP.Core.b64 d) (h : FP.Core.Whole k (dz_sc d)) (h0 : ∀ s c q, d = .fin s c q → k = 0 → s = false) : a = dz k := by
  cases d with
  | nan => exact h.elim
  | inf => exact h.elim
  | fin s c q =>
    have hs : s = decide (k < 0) := by
      by_cases hk : k = 0
      · rw [h0 s c q rfl hk, hk]; rfl
      · exact FP.Core.whole_sign h hk
    have e : FP.Core.val64 a = FP.Core.val64 (dz k) := by rw [ha, dz_round h, dz_val, hs]
    refine FP.Core.val64_inj ?_ e
    rw [e, dz_val]
    unfold FP.Core.roundRatio
    split
    · exact fun z => by cases z
    · unfold FP.Core.roundAt FP.Core.settle FP.Core.bound
      split <;> split <;> exact fun z => by cases z
theorem dz_is_dz {k : Int} (h : k.natAbs ≤ 2 ^ 53) : dz_is k (dz k) := by
  unfold dz_is
  rw [dz_val]
  obtain ⟨c', q', hfit, hv⟩ := FP.Core.natFit FP.Core.good_b64 FP.Core.wide_b64 (decide (k < 0)) (show k.natAbs ≤ 2 ^ FP.Core.b64.p from h)
  by_cases hk : k = 0
  · subst hk
    have e : FP.Core.roundRatio FP.Core.b64 (decide ((0 : Int) < 0)) (0 : Int).natAbs 1 (-3) = .fin false 0 FP.Core.b64.qmin := by decide +kernel
    rw [e]
    show FP.Core.signed false (0 * _) = 0 * _
    simp [FP.Core.signed]
  · have hn : 0 < k.natAbs := by omega
    have hq : -53 < q' ∧ q' ≤ 1 := by
      obtain ⟨f1, f2, f3, f4⟩ := hfit
      have hp : FP.Core.b64.p = 53 := rfl
      rw [hp] at f1
      constructor
      · refine Int.lt_of_not_ge fun hge => ?_
        rw [show (q' - 0).toNat = 0 by omega, Nat.pow_zero, Nat.mul_one, Nat.mul_one] at hv
        have h3 : 2 ^ 53 ≤ 2 ^ (0 - q').toNat := Nat.pow_le_pow_right (by decide) (by omega)
        have h4 : 1 * 2 ^ (0 - q').toNat ≤ k.natAbs * 2 ^ (0 - q').toNat := Nat.mul_le_mul_right _ hn
        omega
      · refine Int.le_of_not_gt fun hgt => ?_
        have h6 : FP.Core.b64.tails ≤ c' := by
          rcases f4 with f4 | f4
          · have : FP.Core.b64.qmin = -1074 := by decide
            omega
          · exact f4
        have h7 : FP.Core.b64.tails = 2 ^ 52 := by decide
        rw [show (0 - q').toNat = 0 by omega, Nat.pow_zero, Nat.mul_one, Nat.mul_one] at hv
        have h3 : 2 ^ 2 ≤ 2 ^ (q' - 0).toNat := Nat.pow_le_pow_right (by decide) (by omega)
        have h4 : 2 ^ 52 * 2 ^ 2 ≤ c' * 2 ^ (q' - 0).toNat := Nat.mul_le_mul (by omega) h3
        omega
    have hfit2 : FP.Core.fits FP.Core.b64 (.fin (decide (k < 0)) c' (q' - 3)) := by
      obtain ⟨f1, f2, f3, f4⟩ := hfit
      have e1 : FP.Core.b64.qmin = -1074 := by decide
      have e2 : FP.Core.b64.qmax = 971 := by decide
      refine ⟨f1, by omega, by omega, Or.inr ?_⟩
      rcases f4 with f4 | f4
      · omega
      · exact f4
    rw [FP.Core.roundRatio_exact (c := c') (q := q' - 3) FP.Core.good_b64 (by decide) hfit2 (by rw [show (-3 - (q' - 3)).toNat = (0 - q').toNat by omega, show (q' - 3 - -3).toNat = (q' - 0).toNat by omega]; exact hv)]
    show FP.Core.signed _ (c' * 2 ^ (q' - 3 + 3).toNat) = k * ((2 ^ (-(q' - 3 + 3)).toNat : Nat) : Int)
    rw [show q' - 3 + 3 = q' by omega]
    rw [show (0 - q').toNat = (-q').toNat by omega, show (q' - 0).toNat = q'.toNat by omega, Nat.mul_one] at hv
    rw [← hv, FP.Core.signed_mul]
    congr 1
    unfold FP.Core.signed
    by_cases h : k < 0
    · rw [decide_eq_true h]; simp; omega
    · rw [decide_eq_false h]; simp; omega
theorem dz_sc_sum (x y : FP.Core.Datum) : dz_sc (FP.Core.exactSum x y) = FP.Core.exactSum (dz_sc x) (dz_sc y) := by
  cases x with
  | nan => rfl
  | inf s =>
    cases y with
    | nan => rfl
    | inf t => by_cases h : s = t <;> simp [FP.Core.exactSum, dz_sc, h]
    | fin t d r => rfl
  | fin s c q =>
    cases y with
    | nan => rfl
    | inf t => rfl
    | fin t d r =>
      have e : min (q + 3) (r + 3) = min q r + 3 := by omega
      have e1 : q + 3 - (min q r + 3) = q - min q r := by omega
      have e2 : r + 3 - (min q r + 3) = r - min q r := by omega
      simp only [FP.Core.exactSum, dz_sc, e, FP.Core.sumUnits, FP.Core.inUnits, e1, e2]
theorem dz_sc_neg (x : FP.Core.Datum) : dz_sc (FP.Core.negate x) = FP.Core.negate (dz_sc x) := by cases x <;> rfl
/-- the sign of dz k's datum -/
theorem dz_sign {k : Int} {s : Bool} {c : Nat} {q : Int} (h : FP.Core.val64 (dz k) = .fin s c q) : s = decide (k < 0) := by
  rw [dz_val] at h
  unfold FP.Core.roundRatio at h
  split at h
  · cases h; rfl
  · unfold FP.Core.roundAt FP.Core.settle FP.Core.bound at h
    split at h <;> split at h <;> first | (cases h; done) | (cases h; rfl)
theorem dz_add {a b : Int} (ha : a.natAbs ≤ 2 ^ 53) (hb : b.natAbs ≤ 2 ^ 53) : FP.dadd (dz a) (dz b) = dz (a + b) := by
  refine dz_eq (FP.Core.val64_dadd _ _) ?_ fun s c q h h0 => ?_
  · rw [dz_sc_sum]; exact FP.Core.whole_sum (dz_is_dz ha) (dz_is_dz hb)
  · have h1 := dz_is_dz ha
    have h2 := dz_is_dz hb
    unfold dz_is at h1 h2
    cases e1 : FP.Core.val64 (dz a) with
    | nan => rw [e1] at h1; exact h1.elim
    | inf => rw [e1] at h1; exact h1.elim
    | fin s1 c1 q1 =>
      cases e2 : FP.Core.val64 (dz b) with
      | nan => rw [e2] at h2; exact h2.elim
      | inf => rw [e2] at h2; exact h2.elim
      | fin s2 c2 q2 =>
        rw [e1, e2] at h
        have hw : FP.Core.Whole (a + b) (dz_sc (.fin s c q)) := by rw [← h, dz_sc_sum, ← e1, ← e2]; exact FP.Core.whole_sum h1 h2
        have hc0 : c = 0 := (FP.Core.whole_zero hw).mpr h0
        simp only [FP.Core.exactSum, FP.Core.Datum.fin.injEq] at h
        obtain ⟨g1, g2, -⟩ := h
        rw [← g1]
        unfold FP.Core.sumSign
        rw [if_pos (by omega), dz_sign e1, dz_sign e2]
        by_cases z : a < 0
        · rw [show decide (b < 0) = false by simp; omega]; simp
        · simp [z]
theorem dz_sub {a b : Int} (ha : a.natAbs ≤ 2 ^ 53) (hb : b.natAbs ≤ 2 ^ 53) : FP.dsub (dz a) (dz b) = dz (a - b) := by
  refine dz_eq (FP.Core.val64_dsub _ _) ?_ fun s c q h h0 => ?_
  · rw [dz_sc_sum, dz_sc_neg]; exact FP.Core.whole_sum (dz_is_dz ha) (FP.Core.whole_negate (dz_is_dz hb))
  · have h1 := dz_is_dz ha
    have h2 := dz_is_dz hb
    unfold dz_is at h1 h2
    cases e1 : FP.Core.val64 (dz a) with
    | nan => rw [e1] at h1; exact h1.elim
    | inf => rw [e1] at h1; exact h1.elim
    | fin s1 c1 q1 =>
      cases e2 : FP.Core.val64 (dz b) with
      | nan => rw [e2] at h2; exact h2.elim
      | inf => rw [e2] at h2; exact h2.elim
      | fin s2 c2 q2 =>
        rw [e1, e2] at h
        have hw : FP.Core.Whole (a - b) (dz_sc (.fin s c q)) := by rw [← h, dz_sc_sum, dz_sc_neg, ← e1, ← e2]; exact FP.Core.whole_sum h1 (FP.Core.whole_negate h2)
        have hc0 : c = 0 := (FP.Core.whole_zero hw).mpr h0
        simp only [FP.Core.exactSum, FP.Core.negate, FP.Core.Datum.fin.injEq] at h
        obtain ⟨g1, g2, -⟩ := h
        rw [← g1]
        unfold FP.Core.sumSign
        rw [if_pos (by omega), dz_sign e1, dz_sign e2]
        by_cases z : a < 0
        · rw [show decide (b < 0) = true by simp; omega]; simp
        · simp [z]
theorem dz_num {a : UInt64} (h : FP.Core.val64 a ≠ .nan) : vf_n64 a := by
  unfold vf_n64
  rw [UInt64.le_iff_toNat_le, UInt64.toNat_and]
  have e1 : (0x7fffffffffffffff : UInt64).toNat = 2 ^ 63 - 1 := by decide
  have e2 : (0x7ff0000000000000 : UInt64).toNat = 9218868437227405312 := by decide
  rw [e1, e2, Nat.and_two_pow_sub_one_eq_mod]
  unfold FP.Core.val64 FP.Core.decode at h
  have t1 : FP.Core.b64.tails = 4503599627370496 := by decide
  have t2 : FP.Core.b64.exps = 2048 := by decide
  simp only [FP.Core.fieldE, FP.Core.fieldT, t1, t2] at h
  have hlt := a.toNat_lt
  split at h
  · split at h
    · omega
    · exact absurd rfl h
  · omega
theorem dz_isnum {k : Int} {a : UInt64} (h : dz_is k a) : FP.Core.val64 a ≠ .nan := fun e => by unfold dz_is at h; rw [e] at h; exact h.elim
theorem dz_vf {k : Int} (h : k.natAbs ≤ 2 ^ 53) : vf_n64 (dz k) := dz_num (dz_isnum (dz_is_dz h))
theorem dz_order (x y : FP.Core.Datum) : FP.Core.order (dz_sc x) (dz_sc y) = FP.Core.order x y := by
  cases x with
  | nan => rfl
  | inf s => cases y <;> rfl
  | fin s c q =>
    cases y with
    | nan => rfl
    | inf t => rfl
    | fin t d r =>
      have e : min (q + 3) (r + 3) = min q r + 3 := by omega
      have e1 : q + 3 - (min q r + 3) = q - min q r := by omega
      have e2 : r + 3 - (min q r + 3) = r - min q r := by omega
      simp only [FP.Core.order, dz_sc, e, FP.Core.inUnits, e1, e2]
theorem dz_cmp0 {a b : Int} (ha : a.natAbs ≤ 2 ^ 53) (hb : b.natAbs ≤ 2 ^ 53) : FP.dcmp (dz a) (dz b) = some (compare a b) := by
  show FP.Core.order (FP.Core.val64 (dz a)) (FP.Core.val64 (dz b)) = _
  rw [← dz_order]
  exact FP.Core.order_whole (dz_is_dz ha) (dz_is_dz hb)
/-- what dcmpl and dcmpg push -/
def dz_c (a b : Int) : Int32 := if a < b then -1 else if a = b then 0 else 1
theorem dz_cmp {a b : Int} (op : CmpOp) (ha : a.natAbs ≤ 2 ^ 53) (hb : b.natAbs ≤ 2 ^ 53) : Op.cmpValue (FP.dcmp (dz a) (dz b)) op = dz_c a b := by
  rw [dz_cmp0 ha hb]
  unfold dz_c
  by_cases h1 : a < b
  · rw [if_pos h1, Int.compare_eq_lt.mpr h1]; rfl
  · rw [if_neg h1]
    by_cases h2 : a = b
    · rw [if_pos h2, h2, Int.compare_eq_eq.mpr rfl]; rfl
    · rw [if_neg h2, Int.compare_eq_gt.mpr (by omega)]; rfl
theorem dz_c_eq (a b : Int) : dz_c a b = 0 ↔ a = b := by
  unfold dz_c
  by_cases h1 : a < b
  · rw [if_pos h1]; exact ⟨fun h => absurd h (by decide), fun h => by omega⟩
  · rw [if_neg h1]
    by_cases h2 : a = b
    · rw [if_pos h2]; exact ⟨fun _ => h2, fun _ => rfl⟩
    · rw [if_neg h2]; exact ⟨fun h => absurd h (by decide), fun h => absurd h h2⟩
theorem dz_c_lt (a b : Int) : dz_c a b < 0 ↔ a < b := by
  unfold dz_c
  by_cases h1 : a < b
  · rw [if_pos h1]; exact ⟨fun _ => h1, fun _ => by decide⟩
  · rw [if_neg h1]
    by_cases h2 : a = b
    · rw [if_pos h2]; exact ⟨fun h => absurd h (by decide), fun h => absurd h h1⟩
    · rw [if_neg h2]; exact ⟨fun h => absurd h (by decide), fun h => absurd h h1⟩
theorem dz_c_gt (a b : Int) : 0 < dz_c a b ↔ b < a := by
  unfold dz_c
  by_cases h1 : a < b
  · rw [if_pos h1]; exact ⟨fun h => absurd h (by decide), fun h => by omega⟩
  · rw [if_neg h1]
    by_cases h2 : a = b
    · rw [if_pos h2]; exact ⟨fun h => absurd h (by decide), fun h => by omega⟩
    · rw [if_neg h2]; exact ⟨fun _ => by omega, fun _ => by decide⟩
theorem dz_c_le (a b : Int) : dz_c a b ≤ 0 ↔ a ≤ b := by
  unfold dz_c
  by_cases h1 : a < b
  · rw [if_pos h1]; exact ⟨fun _ => by omega, fun _ => by decide⟩
  · rw [if_neg h1]
    by_cases h2 : a = b
    · rw [if_pos h2]; exact ⟨fun _ => by omega, fun _ => by decide⟩
    · rw [if_neg h2]; exact ⟨fun h => absurd h (by decide), fun h => by omega⟩
theorem dz_c_ge (a b : Int) : 0 ≤ dz_c a b ↔ b ≤ a := by
  unfold dz_c
  by_cases h1 : a < b
  · rw [if_pos h1]; exact ⟨fun h => absurd h (by decide), fun h => by omega⟩
  · rw [if_neg h1]
    by_cases h2 : a = b
    · rw [if_pos h2]; exact ⟨fun _ => by omega, fun _ => by decide⟩
    · rw [if_neg h2]; exact ⟨fun _ => by omega, fun _ => by decide⟩
theorem dz_0 : FP.dconst0 = dz 0 := by decide +kernel
theorem dz_z : (0 : UInt64) = dz 0 := by decide +kernel
theorem dz_m1 : (13830554455654793216 : UInt64) = dz (-8) := by decide +kernel
theorem dz_top : (4697254411347427328 : UInt64) = dz 8388608 := by decide +kernel
theorem dz_bot : (13920626448202203136 : UInt64) = dz (-8388608) := by decide +kernel
theorem dz_w1 : FP.Core.Whole 1 (.fin false (2 ^ 52) (-52)) := by
  show FP.Core.signed false (2 ^ 52 * 2 ^ (-52 : Int).toNat) = 1 * ((2 ^ (- -52 : Int).toNat : Nat) : Int)
  decide +kernel
/-- times 8, as a whole number -/
theorem dz_sc_mul8 (x : FP.Core.Datum) : FP.Core.exactProduct x (.fin false (2 ^ 52) (-49)) = (match x with | .fin s c q => .fin s (c * 2 ^ 52) (q + -49) | .inf s => .inf s | .nan => .nan) := by
  cases x with
  | nan => rfl
  | inf s => cases s <;> rfl
  | fin s c q => cases s <;> rfl
theorem dz_mul8 {a : Int} (ha : a.natAbs ≤ 2 ^ 53) : FP.Core.DInt a (FP.dmul (dz a) 4620693217682128896) := by
  show FP.Core.Whole a (FP.Core.val64 (FP.Core.dmul (dz a) 4620693217682128896))
  rw [FP.Core.val64_dmul, show FP.Core.val64 4620693217682128896 = .fin false (2 ^ 52) (-49) by decide +kernel, dz_sc_mul8]
  refine FP.Core.whole_round FP.Core.good_b64 FP.Core.wide_b64 (show a.natAbs ≤ 2 ^ 53 from ha) ?_
  have h1 := dz_is_dz ha
  unfold dz_is at h1
  cases e1 : FP.Core.val64 (dz a) with
  | nan => rw [e1] at h1; exact h1.elim
  | inf => rw [e1] at h1; exact h1.elim
  | fin s c q =>
    rw [e1] at h1
    have h2 : FP.Core.Whole a (FP.Core.exactProduct (.fin s c (q + 3)) (.fin false (2 ^ 52) (-52))) := by
      have h3 := FP.Core.whole_product (j := 1) h1 (y := .fin false (2 ^ 52) (-52)) dz_w1
      rw [Int.mul_one] at h3
      exact h3
    have e3 : FP.Core.exactProduct (.fin s c (q + 3)) (.fin false (2 ^ 52) (-52)) = .fin s (c * 2 ^ 52) (q + -49) := by
      show FP.Core.Datum.fin (s != false) (c * 2 ^ 52) (q + 3 + -52) = _
      rw [show q + 3 + -52 = q + -49 by omega]
      cases s <;> rfl
    rw [e3] at h2
    exact h2
/-- an int times 0.125 -/
theorem dz_of_int (x : Int32) : FP.dmul (FP.i2d x) 4593671619917905920 = dz x.toInt := by
  have hx := FP.Core.i2d_int x
  unfold FP.Core.DInt at hx
  refine dz_eq (FP.Core.val64_dmul _ _) ?_ fun s c q h h0 => ?_
  · rw [show FP.Core.val64 4593671619917905920 = .fin false (2 ^ 52) (-55) by decide +kernel]
    cases e1 : FP.Core.val64 (FP.i2d x) with
    | nan => rw [show FP.Core.val64 (FP.Core.i2d x) = _ from e1] at hx; exact hx.elim
    | inf => rw [show FP.Core.val64 (FP.Core.i2d x) = _ from e1] at hx; exact hx.elim
    | fin s c q =>
      rw [show FP.Core.val64 (FP.Core.i2d x) = _ from e1] at hx
      have h3 := FP.Core.whole_product (j := 1) hx (y := .fin false (2 ^ 52) (-52)) dz_w1
      rw [Int.mul_one] at h3
      have e3 : dz_sc (FP.Core.exactProduct (.fin s c q) (.fin false (2 ^ 52) (-55))) = FP.Core.exactProduct (.fin s c q) (.fin false (2 ^ 52) (-52)) := by
        show FP.Core.Datum.fin (s != false) (c * 2 ^ 52) (q + -55 + 3) = FP.Core.Datum.fin (s != false) (c * 2 ^ 52) (q + -52)
        rw [show q + -55 + 3 = q + -52 by omega]
      rw [e3]; exact h3
  · rw [show FP.Core.val64 4593671619917905920 = .fin false (2 ^ 52) (-55) by decide +kernel] at h
    have e0 : x = 0 := by
      have h9 : x.toInt = (0 : Int32).toInt := h0
      exact Int32.toInt_inj.mp h9
    subst e0
    rw [show FP.Core.val64 (FP.i2d 0) = .fin false 0 (-1074) by decide +kernel] at h
    have h8 : FP.Core.Datum.fin (false != false) (0 * 2 ^ 52) (-1074 + -55) = .fin s c q := h
    cases h8; rfl
theorem dz_i2d_num (x : Int32) : vf_n64 (FP.dmul (FP.i2d x) 4593671619917905920) := by
  rw [dz_of_int]
  refine dz_vf ?_
  have h1 := x.toInt_lt
  have h2 := x.le_toInt
  omega
end FPZ
