/-! ===== what the Statement gives of the start is px_St ===== -/
section LST
variable {args : Array Value} {s : State}
theorem ls_T (hts : ∀ w ∈ lw_tbl, w.before args s = true) {w : Cond} (h : w ∈ px_T) : w.before args s = true := hts w (List.mem_filter.mp h).1
def ls_f {α : Type} (a0 a1 a2 a3 a4 a5 a6 : α) : Nat → α
  | 0 => a0
  | 1 => a1
  | 2 => a2
  | 3 => a3
  | 4 => a4
  | 5 => a5
  | _ => a6
theorem ls_cl (hts : ∀ w ∈ lw_tbl, w.before args s = true) : ∃ D : va_G, ∀ (c : Nat) (q : vw_C), px_cl[c]? = some q → u_Kn s q.1 q.2.1 q.2.2 (D.1 c) (D.2 c) := by
  obtain ⟨c0, i0, k0⟩ := u_known (C := RX0) (T := TX0) (N := 2) (n := 2) hts (fun w hw => (inX0 w hw).1) (ls_T hts N_RX0)
  obtain ⟨c1, i1, k1⟩ := u_known (C := RX1) (T := TX1) (N := 7) (n := 7) hts (fun w hw => (inX1 w hw).1) (ls_T hts N_RX1)
  obtain ⟨c2, i2, k2⟩ := u_known (C := RX2) (T := TX2) (N := 6) (n := 6) hts (fun w hw => (inX2 w hw).1) (ls_T hts N_RX2)
  obtain ⟨c3, i3, k3⟩ := u_known (C := RX3) (T := TX3) (N := 5) (n := 5) hts (fun w hw => (inX3 w hw).1) (ls_T hts N_RX3)
  obtain ⟨c4, i4, k4⟩ := u_known (C := RX4) (T := TX4) (N := 11) (n := 11) hts (fun w hw => (inX4 w hw).1) (ls_T hts N_RX4)
  obtain ⟨c5, i5, k5⟩ := u_known (C := RX5) (T := TX5) (N := 31) (n := 31) hts (fun w hw => (inX5 w hw).1) (ls_T hts N_RX5)
  obtain ⟨c6, i6, k6⟩ := u_known (C := RJx4a65c) (T := TJx4a65c) (N := 3) (n := 3) hts (fun w hw => (inJx4a65c w hw).1) (ls_T hts N_RJx4a65c)
  refine ⟨(ls_f c0 c1 c2 c3 c4 c5 c6, ls_f i0 i1 i2 i3 i4 i5 i6), ?_⟩
  intro c q h
  have hc : c < 7 := (List.getElem?_eq_some_iff.mp h).1
  rcases (show c = 0 ∨ c = 1 ∨ c = 2 ∨ c = 3 ∨ c = 4 ∨ c = 5 ∨ c = 6 by omega) with rfl | rfl | rfl | rfl | rfl | rfl | rfl
  · cases h; exact k0
  · cases h; exact k1
  · cases h; exact k2
  · cases h; exact k3
  · cases h; exact k4
  · cases h; exact k5
  · cases h; exact k6
theorem ls_ap {ty : FieldType} (h : (Cond.arrayClass ty).before args s = true) (hn : ∀ C, ty ≠ .object C) : ∃ cA, ArrOfT s cA ty ∧ va_RA s cA ty := by
  obtain ⟨c, k, comp, h1, h2, h3⟩ := Cond.arrayClass_spec h
  refine ⟨c, fun n z => ⟨fun k h => (by cases h), k, h2, comp, h3⟩, ?_⟩
  cases ty with
  | object C => exact absurd rfl (hn C)
  | _ => exact h1
theorem ls_ao {C : String} (h : (Cond.arrayOver (.object C)).before args s = true) : ∃ cA, ArrOfT s cA (.object C) ∧ va_RA s cA (.object C) := by
  obtain ⟨comp, c, k, h1, -, h2, h3, h4⟩ := Cond.arrayOver_spec h
  exact ⟨c, fun n z => ⟨fun k h => (by cases h), k, h2, comp, h3⟩, k, comp, h2, h3, h1, h4⟩
theorem ls_oS : Cond.arrayOver (.object "PathLists$Step") ∈ lw_tbl := by decide +kernel
theorem ls_oO : Cond.arrayOver (.object "java/lang/Object") ∈ lw_tbl := by decide +kernel
theorem ls_K (hts : ∀ w ∈ lw_tbl, w.before args s = true) : ∃ (D : va_G) (A : Nat → ClassId), va_K D px_cl [(A 0, .int), (A 1, .double), (A 2, .boolean), (A 3, .long), (A 4, .object "PathLists$Step"), (A 5, .object "java/lang/Object")] s := by
  obtain ⟨D, hD⟩ := ls_cl hts
  obtain ⟨a0, b0⟩ := ls_ap (ls_T hts A_int) (fun C z => by cases z)
  obtain ⟨a1, b1⟩ := ls_ap (ls_T hts A_double) (fun C z => by cases z)
  obtain ⟨a2, b2⟩ := ls_ap (ls_T hts A_boolean) (fun C z => by cases z)
  obtain ⟨a3, b3⟩ := ls_ap (ls_T hts A_long) (fun C z => by cases z)
  obtain ⟨a4, b4⟩ := ls_ao (hts _ ls_oS)
  obtain ⟨a5, b5⟩ := ls_ao (hts _ ls_oO)
  refine ⟨D, ls_f a0 a1 a2 a3 a4 a5 a5, hD, fun k q h => ?_⟩
  have hc : k < 6 := (List.getElem?_eq_some_iff.mp h).1
  rcases (show k = 0 ∨ k = 1 ∨ k = 2 ∨ k = 3 ∨ k = 4 ∨ k = 5 by omega) with rfl | rfl | rfl | rfl | rfl | rfl
  · cases h; exact b0
  · cases h; exact b1
  · cases h; exact b2
  · cases h; exact b3
  · cases h; exact b4
  · cases h; exact b5
abbrev ls_tE : Term := .static "java/util/ArrayList" "DEFAULTCAPACITY_EMPTY_ELEMENTDATA" "[Ljava/lang/Object;"
def ls_N : List Cond := flatC (Jvm.Cond.and given_1 narrow_1)
theorem ls_e1 : Cond.arrayOf ls_tE (.object "java/lang/Object") ∈ ls_N := by decide +kernel
theorem ls_e2 : Cond.eq (.length ls_tE) (.int 0) ∈ ls_N := by decide +kernel
theorem ls_e3 : Cond.exactly ls_tE "[Ljava/lang/Object;" ∈ ls_N := by decide +kernel
theorem ls_z1 : Cond.isRef (.static Bundle.tN "UNASSIGNED_STACK" Bundle.steD) ∈ ls_N := by decide +kernel
theorem ls_z2 : Cond.isRef (.static Bundle.tN "SUPPRESSED_SENTINEL" Bundle.listD) ∈ ls_N := by decide +kernel
theorem ls_mi : Cond.isRef (.mirror "[Ljava/lang/Object;") ∈ ls_N := by decide +kernel
theorem ls_nc : ∀ q ∈ px_ncs, Cond.not (.castable q.1 q.2) ∈ ls_N := by decide +kernel
theorem ls_st : ∀ q ∈ px_strs, Cond.stringRef RX4 q.1 q.2 ∈ lw_tbl ∧ Cond.exactly (.string RX4 q.1) "java/lang/String" ∈ ls_N := by decide +kernel
theorem ls_y1 : Cond.laysStatic Bundle.tN "UNASSIGNED_STACK" Bundle.steD ∈ lw_tbl := by decide +kernel
theorem ls_y2 : Cond.laysStatic Bundle.tN "SUPPRESSED_SENTINEL" Bundle.listD ∈ lw_tbl := by decide +kernel
theorem ls_y3 : Cond.laysStatic RJx4a65c "DEFAULTCAPACITY_EMPTY_ELEMENTDATA" "[Ljava/lang/Object;" ∈ lw_tbl := by decide +kernel
theorem ls_y4 : Cond.initialized Bundle.tN ∈ lw_tbl := by decide +kernel
theorem ls_len {t : Term} {v : Value} {a : Addr} {cell : Cell} (h : (Term.length t).eval args s none [] s = some v) (ht : t.eval args s none [] s = some (.ref a)) (hc : s.heap[a]? = some cell) : v = .int cell.slots.size.toInt32 ∧ cell.slots.size < 2147483648 := by
  simp only [Term.eval, Option.bind_eq_bind] at h
  simp [ht] at h
  obtain ⟨cell', hcell, h⟩ := Option.bind_eq_some_iff.mp h
  have e := (State.arrayAt?_spec hcell).1
  cases hc.symm.trans e
  by_cases hn : cell.slots.size < 2147483648
  · rw [if_pos hn] at h; cases h; exact ⟨rfl, hn⟩
  · rw [if_neg hn] at h; cases h
theorem ls_E (hN : ∀ w ∈ ls_N, w.before args s = true) : ∃ (a : Addr) (cell : Cell), ls_tE.eval args s none [] s = some (.ref a) ∧ s.heap[a]? = some cell ∧ s.isArrayOf cell (.object "java/lang/Object") ∧ cell.slots.size = 0 := by
  obtain ⟨a, c, cell, k, ev, -, hcell, -⟩ := Cond.exactly_spec (hN _ ls_e3)
  refine ⟨a, cell, ev, hcell, (Cond.arrayOf_spec (hN _ ls_e1) ev hcell).1, ?_⟩
  have h0 := hN _ ls_e2
  generalize ls_tE = tE at ev h0
  cases hl : (Term.length tE).eval args s none [] s with
  | none => simp [Cond.before, Cond.holds, Cond.value, hl] at h0
  | some v =>
    obtain ⟨rfl, hs⟩ := ls_len hl ev hcell
    have hv := Cond.eq_ints (a := .length tE) (b := .int 0) (x := cell.slots.size.toInt32) (y := 0) hl (show (Term.int 0).eval args s none [] s = some (.int 0) from rfl)
    have h : cell.slots.size.toInt32 = 0 := by simpa [Cond.before, Cond.holds, hv] using h0
    have h2 : cell.slots.size ≤ 0 := (Int32.ofNat_le_ofNat hs (by decide)).mp (by
      show cell.slots.size.toInt32 ≤ Int32.ofNat 0
      rw [h]; decide)
    omega
theorem ls_isN (hts : ∀ w ∈ lw_tbl, w.before args s = true) : ∀ w ∈ lw_tbl, px_isN w = true → va_Nw w s := by
  intro w hw hn
  refine va_Nw.of ?_ (hts w hw)
  cases w <;> first | rfl | (simp [px_isN] at hn)
theorem ls_St {b L : Nat} {xs : Nat → Int32} (hts : ∀ w ∈ lw_tbl, w.before args s = true) (hN : ∀ w ∈ ls_N, w.before args s = true) (hX : va_X b L xs s s.heap) (hbl : b < s.heap.size) :
    ∃ g : px_G, px_gn g = s.heap.size ∧ px_gb g = b ∧ px_gL g = L ∧ px_gx g = xs ∧ px_St g s := by
  obtain ⟨D, A, hK⟩ := ls_K hts
  obtain ⟨E, cell, e1, e2, e3, e4⟩ := ls_E hN
  have hA : ∀ a : Nat, a < s.heap.size → ¬ (fun q : Nat => s.heap.size ≤ q) a := fun a h => Nat.not_le.mpr h
  refine ⟨(D, A, E, s.heap.size, b, L, xs), rfl, rfl, rfl, rfl, ?_⟩
  refine ⟨hK, vx_Zqof (hts _ ls_y1) (hts _ ls_y4) (hN _ ls_z1) hA, vx_Zqof (hts _ ls_y2) (hts _ ls_y4) (hN _ ls_z2) hA, va_Zref (hts _ ls_y3) (ls_T hts Z_RJx4a65c) e1 hA, ⟨(Array.getElem?_eq_some_iff.mp e2).1, cell, e2, e3, e4⟩, fun q hq => ?_, ls_isN hts, ⟨va_AO.of (hts _ ls_oS), va_AO.of (hts _ ls_oO)⟩, ⟨hX, hbl, va_Mi.of (hN _ ls_mi), fun q hq => va_Nc.of (hN _ (ls_nc q hq))⟩, Nat.le_refl _⟩
  obtain ⟨h1, h2⟩ := ls_st q hq
  obtain ⟨sa, c, k, k', ev, -⟩ := Cond.exactly_spec (hN _ h2)
  exact ⟨sa, vk_R.of (hts _ h1) ev⟩
end LST
