/-! ===== the class's world: numbers, times, references, a list, and whether it is there, of each role (k, i) =====
(2, p) a pin (60 the source, 61 the sink): 0 its place, 1 its ends, 2 its block; times 0 its reach
(3, n) a step (an arc a is a, a start i is 200 + i, an end e is 300 + e): 0 number, 1 from, 2 to, 3 group, 4 next; times 0 its cost
(6, n) a change: 0 its step; times 0 its delay
(7, p) a pin's ways: 0 how many; rows: (8, p) left, (9, p) step, (10, p) rest, (11, p) group; lists (12, p) in, (13, p) out
(14, 0) the object: 0 listed; lists (14, 1 ..) pins, arcs, starts, ends, changes, sorted; rows (14, 7) through, (14, 8) taken -/
abbrev cc_E : Type := (Nat → Nat) × (Nat → Int) × (Nat → Option px_R) × List px_R × Nat
abbrev cc_U : Type := Nat → Nat → cc_E
def cn (u : cc_U) (k i j : Nat) : Nat := (u k i).1 j
def cz (u : cc_U) (k i j : Nat) : Int := (u k i).2.1 j
def cs (u : cc_U) (k i j : Nat) : Option px_R := (u k i).2.2.1 j
def cl (u : cc_U) (k i : Nat) : List px_R := (u k i).2.2.2.1
def cx (u : cc_U) (k i : Nat) : Prop := (u k i).2.2.2.2 ≠ 0
def cc_set (u : cc_U) (k i : Nat) (e : cc_E) : cc_U := fun k' i' => if k' = k ∧ i' = i then e else u k' i'
def cN (u : cc_U) (k i j x : Nat) : cc_U := cc_set u k i (px_upN (u k i).1 j x, (u k i).2)
def cZ (u : cc_U) (k i j : Nat) (x : Int) : cc_U := cc_set u k i ((u k i).1, px_upN (u k i).2.1 j x, (u k i).2.2)
def cS (u : cc_U) (k i j : Nat) (x : Option px_R) : cc_U := cc_set u k i ((u k i).1, (u k i).2.1, px_upN (u k i).2.2.1 j x, (u k i).2.2.2)
def cL (u : cc_U) (k i : Nat) (xs : List px_R) : cc_U := cc_set u k i ((u k i).1, (u k i).2.1, (u k i).2.2.1, xs, (u k i).2.2.2.2)
def cR (u : cc_U) (k i : Nat) (f : Nat → Nat) : cc_U := cc_set u k i (f, (u k i).2)
theorem cc_set_s (u : cc_U) (k i : Nat) (e : cc_E) : cc_set u k i e k i = e := if_pos ⟨rfl, rfl⟩
theorem cc_set_n (u : cc_U) {k i k' i' : Nat} (e : cc_E) (h : ¬ (k' = k ∧ i' = i)) : cc_set u k i e k' i' = u k' i' := if_neg h
section CRW
variable (u : cc_U) (k i j x k' i' j' : Nat) (z : Int) (o : Option px_R) (xs : List px_R) (f : Nat → Nat)
theorem cnN : cn (cN u k i j x) k' i' j' = if k' = k ∧ i' = i ∧ j' = j then x else cn u k' i' j' := by
  unfold cn cN cc_set px_upN
  by_cases h : k' = k ∧ i' = i
  · obtain ⟨rfl, rfl⟩ := h
    by_cases e : j' = j <;> simp [e]
  · rw [if_neg h, if_neg (fun z => h ⟨z.1, z.2.1⟩)]
theorem cnZ : cn (cZ u k i j z) k' i' j' = cn u k' i' j' := by
  unfold cn cZ cc_set
  split
  · rename_i h; rw [h.1, h.2]
  · rfl
theorem cnS : cn (cS u k i j o) k' i' j' = cn u k' i' j' := by
  unfold cn cS cc_set
  split
  · rename_i h; rw [h.1, h.2]
  · rfl
theorem cnL : cn (cL u k i xs) k' i' j' = cn u k' i' j' := by
  unfold cn cL cc_set
  split
  · rename_i h; rw [h.1, h.2]
  · rfl
theorem cnR : cn (cR u k i f) k' i' j' = if k' = k ∧ i' = i then f j' else cn u k' i' j' := by
  unfold cn cR cc_set
  split <;> rfl
theorem czN : cz (cN u k i j x) k' i' j' = cz u k' i' j' := by
  unfold cz cN cc_set
  split
  · rename_i h; rw [h.1, h.2]
  · rfl
theorem czZ : cz (cZ u k i j z) k' i' j' = if k' = k ∧ i' = i ∧ j' = j then z else cz u k' i' j' := by
  unfold cz cZ cc_set px_upN
  by_cases h : k' = k ∧ i' = i
  · obtain ⟨rfl, rfl⟩ := h
    by_cases e : j' = j <;> simp [e]
  · rw [if_neg h, if_neg (fun z => h ⟨z.1, z.2.1⟩)]
theorem czS : cz (cS u k i j o) k' i' j' = cz u k' i' j' := by
  unfold cz cS cc_set
  split
  · rename_i h; rw [h.1, h.2]
  · rfl
theorem czL : cz (cL u k i xs) k' i' j' = cz u k' i' j' := by
  unfold cz cL cc_set
  split
  · rename_i h; rw [h.1, h.2]
  · rfl
theorem czR : cz (cR u k i f) k' i' j' = cz u k' i' j' := by
  unfold cz cR cc_set
  split
  · rename_i h; rw [h.1, h.2]
  · rfl
theorem csN : cs (cN u k i j x) k' i' j' = cs u k' i' j' := by
  unfold cs cN cc_set
  split
  · rename_i h; rw [h.1, h.2]
  · rfl
theorem csZ : cs (cZ u k i j z) k' i' j' = cs u k' i' j' := by
  unfold cs cZ cc_set
  split
  · rename_i h; rw [h.1, h.2]
  · rfl
theorem csS : cs (cS u k i j o) k' i' j' = if k' = k ∧ i' = i ∧ j' = j then o else cs u k' i' j' := by
  unfold cs cS cc_set px_upN
  by_cases h : k' = k ∧ i' = i
  · obtain ⟨rfl, rfl⟩ := h
    by_cases e : j' = j <;> simp [e]
  · rw [if_neg h, if_neg (fun z => h ⟨z.1, z.2.1⟩)]
theorem csL : cs (cL u k i xs) k' i' j' = cs u k' i' j' := by
  unfold cs cL cc_set
  split
  · rename_i h; rw [h.1, h.2]
  · rfl
theorem csR : cs (cR u k i f) k' i' j' = cs u k' i' j' := by
  unfold cs cR cc_set
  split
  · rename_i h; rw [h.1, h.2]
  · rfl
theorem clN : cl (cN u k i j x) k' i' = cl u k' i' := by
  unfold cl cN cc_set
  split
  · rename_i h; rw [h.1, h.2]
  · rfl
theorem clZ : cl (cZ u k i j z) k' i' = cl u k' i' := by
  unfold cl cZ cc_set
  split
  · rename_i h; rw [h.1, h.2]
  · rfl
theorem clS : cl (cS u k i j o) k' i' = cl u k' i' := by
  unfold cl cS cc_set
  split
  · rename_i h; rw [h.1, h.2]
  · rfl
theorem clL : cl (cL u k i xs) k' i' = if k' = k ∧ i' = i then xs else cl u k' i' := by
  unfold cl cL cc_set
  split <;> rfl
theorem clR : cl (cR u k i f) k' i' = cl u k' i' := by
  unfold cl cR cc_set
  split
  · rename_i h; rw [h.1, h.2]
  · rfl
theorem cxN : cx (cN u k i j x) k' i' ↔ cx u k' i' := by
  unfold cx cN cc_set
  split
  · rename_i h; rw [h.1, h.2]
  · exact Iff.rfl
theorem cxZ : cx (cZ u k i j z) k' i' ↔ cx u k' i' := by
  unfold cx cZ cc_set
  split
  · rename_i h; rw [h.1, h.2]
  · exact Iff.rfl
theorem cxS : cx (cS u k i j o) k' i' ↔ cx u k' i' := by
  unfold cx cS cc_set
  split
  · rename_i h; rw [h.1, h.2]
  · exact Iff.rfl
theorem cxL : cx (cL u k i xs) k' i' ↔ cx u k' i' := by
  unfold cx cL cc_set
  split
  · rename_i h; rw [h.1, h.2]
  · exact Iff.rfl
theorem cxR : cx (cR u k i f) k' i' ↔ cx u k' i' := by
  unfold cx cR cc_set
  split
  · rename_i h; rw [h.1, h.2]
  · exact Iff.rfl
end CRW
/-- how long a pin's rows of ways are -/
def cc_wl (p : Nat) : Nat := if p = 61 then 1 else 320
theorem cc_wl_le (p : Nat) : cc_wl p ≤ 65536 := by unfold cc_wl; split <;> decide
abbrev cc_pf (p : Nat) (e : cc_E) : List px_V := [.inr (12, p), .inr (13, p), .inr (7, p), .inl (.int (px_o (e.1 0))), .inl (.int (nI (e.1 1))), .inl (.int (px_o (e.1 2))), .inl (.double (dz (e.2.1 0)))]
abbrev cc_sf (e : cc_E) : List px_V := [.inl (.int (nI (e.1 0))), .inr (2, e.1 1), .inr (2, e.1 2), .inl (.double (dz (e.2.1 0))), .inl (.int (nI (e.1 3))), .inl (.int (nI (e.1 4)))]
abbrev cc_cf (e : cc_E) : List px_V := [.inr (3, e.1 0), .inl (.double (dz (e.2.1 0)))]
abbrev cc_wf (p : Nat) (e : cc_E) : List px_V := [.inr (8, p), .inr (9, p), .inr (10, p), .inr (11, p), .inl (.int (nI (e.1 0)))]
abbrev cc_of (e : cc_E) : List px_V := [.inr (14, 1), .inr (14, 2), .inr (14, 3), .inr (14, 4), .inr (14, 5), .inr (14, 6), .inr (14, 7), .inr (2, 60), .inr (2, 61), .inr (14, 8), .inl (.int (nI (e.1 0)))]
def cc_ob (k i : Nat) (e : cc_E) : Option px_O := match k with
  | 2 => some (.inl (1, cc_pf i e))
  | 3 => some (.inl (2, cc_sf e))
  | 6 => some (.inl (0, cc_cf e))
  | 7 => some (.inl (3, cc_wf i e))
  | 8 => some (.inr (.inl (1, cc_wl i, .inr (.inr (.inl fun j => dz (e.2.1 j))))))
  | 9 => some (.inr (.inl (4, cc_wl i, .inr (.inr (.inr e.2.2.1)))))
  | 10 => some (.inr (.inl (0, cc_wl i, .inl fun j => nI (e.1 j))))
  | 11 => some (.inr (.inl (0, cc_wl i, .inl fun j => nI (e.1 j))))
  | 12 => some (.inr (.inr e.2.2.2.1))
  | 13 => some (.inr (.inr e.2.2.2.1))
  | 14 => (match i with
    | 0 => some (.inl (4, cc_of e))
    | 7 => some (.inr (.inl (0, 10, .inl fun j => px_o (e.1 j))))
    | 8 => some (.inr (.inl (0, 8, .inl fun j => nI (e.1 j))))
    | _ => some (.inr (.inr e.2.2.2.1)))
  | _ => none
def cc_cell (k i : Nat) (e : cc_E) : Option px_O := if e.2.2.2.2 = 0 then none else cc_ob k i e
def cc_M (u : cc_U) (X : px_M) : px_M := fun r => if 2 ≤ r.1 ∧ r.1 ≤ 14 then cc_cell r.1 r.2 (u r.1 r.2) else X r
theorem cc_at {u : cc_U} {X : px_M} {k i : Nat} {o : px_O} (hx : cx u k i) (hk : 2 ≤ k ∧ k ≤ 14) (ho : cc_ob k i (u k i) = some o) : cc_M u X (k, i) = some o := by
  unfold cc_M
  rw [if_pos hk]
  show cc_cell k i (u k i) = _
  unfold cc_cell
  rw [if_neg hx]; exact ho
theorem cc_no {u : cc_U} {X : px_M} {k i : Nat} (hx : ¬ cx u k i) (hk : 2 ≤ k ∧ k ≤ 14) : cc_M u X (k, i) = none := by
  unfold cc_M
  rw [if_pos hk]
  show cc_cell k i (u k i) = _
  unfold cc_cell
  exact if_pos (Classical.byContradiction hx)
theorem cc_up {u : cc_U} {X : px_M} {k i : Nat} {e : cc_E} {o : px_O} (hk : 2 ≤ k ∧ k ≤ 14) (h : cc_cell k i e = some o) : px_up (cc_M u X) (k, i) o = cc_M (cc_set u k i e) X := by
  funext r
  obtain ⟨a, b⟩ := r
  by_cases e1 : a = k ∧ b = i
  · obtain ⟨rfl, rfl⟩ := e1
    rw [px_up_s]
    unfold cc_M
    rw [if_pos hk]
    show _ = cc_cell a b (cc_set u a b e a b)
    rw [cc_set_s, h]
  · rw [px_up_n _ _ (fun z => e1 ⟨congrArg Prod.fst z, congrArg Prod.snd z⟩)]
    unfold cc_M
    split
    · show cc_cell a b (u a b) = cc_cell a b (cc_set u k i e a b)
      rw [cc_set_n _ _ e1]
    · rfl
theorem cc_cellx {u : cc_U} {k i : Nat} {e : cc_E} (hx : cx u k i) (he : e.2.2.2.2 = (u k i).2.2.2.2) : cc_cell k i e = cc_ob k i e := by
  unfold cc_cell
  rw [if_neg (by rw [he]; exact hx)]
theorem cc_upx {u : cc_U} {X : px_M} {k i : Nat} {e : cc_E} {o : px_O} (hk : 2 ≤ k ∧ k ≤ 14) (hx : cx u k i) (he : e.2.2.2.2 = (u k i).2.2.2.2) (ho : cc_ob k i e = some o) : px_up (cc_M u X) (k, i) o = cc_M (cc_set u k i e) X := cc_up hk ((cc_cellx hx he).trans ho)
theorem cc_pin {u : cc_U} {X : px_M} {p : Nat} (hx : cx u 2 p) : cc_M u X (2, p) = some (.inl (1, cc_pf p (u 2 p))) := cc_at hx (by decide) rfl
theorem cc_step {u : cc_U} {X : px_M} {n : Nat} (hx : cx u 3 n) : cc_M u X (3, n) = some (.inl (2, cc_sf (u 3 n))) := cc_at hx (by decide) rfl
theorem cc_chg {u : cc_U} {X : px_M} {n : Nat} (hx : cx u 6 n) : cc_M u X (6, n) = some (.inl (0, cc_cf (u 6 n))) := cc_at hx (by decide) rfl
theorem cc_ways {u : cc_U} {X : px_M} {p : Nat} (hx : cx u 7 p) : cc_M u X (7, p) = some (.inl (3, cc_wf p (u 7 p))) := cc_at hx (by decide) rfl
theorem cc_obj {u : cc_U} {X : px_M} (hx : cx u 14 0) : cc_M u X (14, 0) = some (.inl (4, cc_of (u 14 0))) := cc_at hx (by decide) rfl
def c9 (X : px_M) : Prop := ∀ k, X (99, k) = none
theorem cc_99 {u : cc_U} {X : px_M} (h : c9 X) (k : Nat) : cc_M u X (99, k) = none := by
  unfold cc_M
  rw [if_neg (fun z => absurd (show (99 : Nat) ≤ 14 from z.2) (by decide))]; exact h k
theorem cc_obs2 {u : cc_U} {X : px_M} {p : Nat} (hx : cx u 2 p) : px_obs (cc_M u X) (2, p) := ⟨1, _, _, cc_pin hx, rfl, List.mem_of_getElem? (i := 1134) (by decide +kernel)⟩
theorem cc_obs3 {u : cc_U} {X : px_M} {n : Nat} (hx : cx u 3 n) : px_obs (cc_M u X) (3, n) := ⟨2, _, _, cc_step hx, rfl, List.mem_of_getElem? (i := 1131) (by decide +kernel)⟩
theorem cc_obs6 {u : cc_U} {X : px_M} {n : Nat} (hx : cx u 6 n) : px_obs (cc_M u X) (6, n) := ⟨0, _, _, cc_chg hx, rfl, List.mem_of_getElem? (i := 1142) (by decide +kernel)⟩
/-- which roles are lists -/
def isl (k i : Nat) : Bool := k == 12 || (k == 13 || (k == 14 && (1 ≤ i && i ≤ 6)))
theorem isl_ob {k i : Nat} {e : cc_E} (h : isl k i = true) : cc_ob k i e = some (.inr (.inr e.2.2.2.1)) := by
  unfold isl at h
  simp only [Bool.or_eq_true, beq_iff_eq, Bool.and_eq_true, decide_eq_true_eq] at h
  rcases h with rfl | rfl | ⟨rfl, h1, h2⟩
  · rfl
  · rfl
  · rcases (show i = 1 ∨ i = 2 ∨ i = 3 ∨ i = 4 ∨ i = 5 ∨ i = 6 by omega) with rfl | rfl | rfl | rfl | rfl | rfl <;> rfl
theorem isl_k {k i : Nat} (h : isl k i = true) : (2 ≤ k ∧ k ≤ 14) ∧ k ≠ 99 := by
  unfold isl at h
  simp only [Bool.or_eq_true, beq_iff_eq, Bool.and_eq_true, decide_eq_true_eq] at h
  rcases h with rfl | rfl | ⟨rfl, h1, h2⟩ <;> decide
theorem cc_lst {u : cc_U} {X : px_M} {k i : Nat} (h : isl k i = true) (hx : cx u k i) : cc_M u X (k, i) = some (.inr (.inr (cl u k i))) := cc_at hx (isl_k h).1 (isl_ob h)
theorem cc_rcL {u : cc_U} {X : px_M} {k i : Nat} (h : isl k i = true) (hx : cx u k i) : px_rcv (cc_M u X) (k, i) RJx4a65c := Or.inr ⟨_, cc_lst h hx, rfl⟩
theorem cc_rc4 {u : cc_U} {X : px_M} (hx : cx u 14 0) : px_rcv (cc_M u X) (14, 0) RX4 := Or.inl ⟨4, _, _, cc_obj hx, rfl, rfl⟩
theorem cc_upL {u : cc_U} {X : px_M} {k i : Nat} {xs : List px_R} (h : isl k i = true) (hx : cx u k i) : px_up (cc_M u X) (k, i) (.inr (.inr xs)) = cc_M (cL u k i xs) X := cc_upx (e := ((u k i).1, (u k i).2.1, (u k i).2.2.1, xs, (u k i).2.2.2.2)) (isl_k h).1 hx rfl (isl_ob h)
section CCL
variable {u : cc_U} {X : px_M} {k i : Nat} {x : px_R} {j : Nat}
theorem cl_size (h : isl k i = true) (hx : cx u k i) (hX : c9 X) : px_Met 0 0 0 mJx4a65c_size_8abf5 [.inr (k, i)] (cc_M u X) (px_rt (some (.inl (.int (nI (cl u k i).length)))) (cc_M u X)) := jl_size (cc_lst h hx) (isl_k h).2 (cc_99 hX)
theorem cl_isEmpty (hl : (cl u k i).length < 2 ^ 31) (h : isl k i = true) (hx : cx u k i) (hX : c9 X) : px_Met 0 0 0 mJx4a65c_isEmpty_aae02 [.inr (k, i)] (cc_M u X) (px_rt (some (.inl (.int (nI (if (cl u k i).length = 0 then 1 else 0))))) (cc_M u X)) := jl_isEmpty hl (cc_lst h hx) (isl_k h).2 (cc_99 hX)
theorem cl_get (hi : (cl u k i)[j]? = some x) (h : isl k i = true) (hx : cx u k i) (hX : c9 X) : px_Met 2 0 0 mJx4a65c_get_915e3 [.inr (k, i), .inl (.int (nI j))] (cc_M u X) (px_rt (some (.inr x)) (cc_M u X)) := jl_get hi (cc_lst h hx) (isl_k h).2 (cc_99 hX)
theorem cl_add (hl : (cl u k i).length ≤ 180) (ho : px_obs (cc_M u X) x ∧ ∀ y ∈ cl u k i, px_obs (cc_M u X) y) (h : isl k i = true) (hx : cx u k i) (hX : c9 X) : px_Met 6 1 280 mJx4a65c_add_9ea2d [.inr (k, i), .inr x] (cc_M u X) (px_rt (some (.inl (.int (nI 1)))) (cc_M (cL u k i (cl u k i ++ [x])) X)) := by
  rw [← cc_upL h hx]; exact jl_add hl ho.1 ho.2 (cc_lst h hx) (isl_k h).2 (cc_99 hX)
theorem cl_addAt {B : Nat} (hl : (cl u k i).length ≤ 180 ∧ 11 + (cl u k i).length + (cl u k i).length / 2 ≤ B ∧ j ≤ (cl u k i).length) (ho : px_obs (cc_M u X) x ∧ ∀ y ∈ cl u k i, px_obs (cc_M u X) y) (h : isl k i = true) (hx : cx u k i) (hX : c9 X) : px_Met 6 1 B mJx4a65c_add_7a177 [.inr (k, i), .inl (.int (nI j)), .inr x] (cc_M u X) (px_rt none (cc_M (cL u k i ((cl u k i).take j ++ x :: (cl u k i).drop j)) X)) := by
  rw [← cc_upL h hx]; exact jl_addAt hl.1 hl.2.1 hl.2.2 ho.1 ho.2 (cc_lst h hx) (isl_k h).2 (cc_99 hX)
theorem cl_remove (hi : (cl u k i)[j]? = some x) (ho : ∀ y ∈ cl u k i, px_obs (cc_M u X) y) (h : isl k i = true) (hx : cx u k i) (hX : c9 X) : px_Met 2 0 0 mJx4a65c_remove_915e3 [.inr (k, i), .inl (.int (nI j))] (cc_M u X) (px_rt (some (.inr x)) (cc_M (cL u k i ((cl u k i).eraseIdx j)) X)) := by
  rw [← cc_upL h hx]; exact jl_remove hi ho (cc_lst h hx) (isl_k h).2 (cc_99 hX)
end CCL
section CCW
variable {d mc ms : Nat} {Γ : px_Y} {Q : px_Q} {pc : Nat} {lv : List (Nat × px_V)} {st : List px_V} {X : px_M} {u : cc_U} {k n : Nat}
theorem px_eqM {M M' : px_M} {pc' : Nat} (h : M = M') (kk : px_W d mc ms Γ Q pc' lv st M' k n) : px_W d mc ms Γ Q pc' lv st M k n := by subst h; exact kk
theorem cp_place {index p c : Nat} {v : Int32} (hd : decode Γ.2.1 pc = .ok (.putfield index, 3)) (hf : px_fl Γ.1.cls index 1 3) (hx : cx u 2 p) (hv : v = px_o c) (kk : px_W d mc ms Γ Q (pc + 3) lv st (cc_M (cN u 2 p 0 c) X) k n) : px_W d mc ms Γ Q pc lv (.inl (.int v) :: .inr (2, p) :: st) (cc_M u X) k n := by
  subst hv
  refine px_putf hd hf nf_1_3 (cc_pin hx) (Nat.le_of_ble_eq_true rfl) (fun _ => ⟨rfl, rfl⟩) ?_
  exact px_eqM (cc_upx (e := (px_upN (u 2 p).1 0 c, (u 2 p).2)) (by decide) hx rfl rfl) kk
theorem cp_endc {index p c : Nat} {v : Int32} (hd : decode Γ.2.1 pc = .ok (.putfield index, 3)) (hf : px_fl Γ.1.cls index 1 4) (hx : cx u 2 p) (hv : v = nI c) (kk : px_W d mc ms Γ Q (pc + 3) lv st (cc_M (cN u 2 p 1 c) X) k n) : px_W d mc ms Γ Q pc lv (.inl (.int v) :: .inr (2, p) :: st) (cc_M u X) k n := by
  subst hv
  refine px_putf hd hf nf_1_4 (cc_pin hx) (Nat.le_of_ble_eq_true rfl) (fun _ => ⟨rfl, rfl⟩) ?_
  exact px_eqM (cc_upx (e := (px_upN (u 2 p).1 1 c, (u 2 p).2)) (by decide) hx rfl rfl) kk
theorem cp_block {index p c : Nat} {v : Int32} (hd : decode Γ.2.1 pc = .ok (.putfield index, 3)) (hf : px_fl Γ.1.cls index 1 5) (hx : cx u 2 p) (hv : v = px_o c) (kk : px_W d mc ms Γ Q (pc + 3) lv st (cc_M (cN u 2 p 2 c) X) k n) : px_W d mc ms Γ Q pc lv (.inl (.int v) :: .inr (2, p) :: st) (cc_M u X) k n := by
  subst hv
  refine px_putf hd hf nf_1_5 (cc_pin hx) (Nat.le_of_ble_eq_true rfl) (fun _ => ⟨rfl, rfl⟩) ?_
  exact px_eqM (cc_upx (e := (px_upN (u 2 p).1 2 c, (u 2 p).2)) (by decide) hx rfl rfl) kk
theorem cp_reach {index p : Nat} {c : Int} {v : UInt64} (hd : decode Γ.2.1 pc = .ok (.putfield index, 3)) (hf : px_fl Γ.1.cls index 1 6) (hx : cx u 2 p) (hv : v = dz c) (kk : px_W d mc ms Γ Q (pc + 3) lv st (cc_M (cZ u 2 p 0 c) X) k n) : px_W d mc ms Γ Q pc lv (.inl (.double v) :: .inr (2, p) :: st) (cc_M u X) k n := by
  subst hv
  refine px_putf hd hf nf_1_6 (cc_pin hx) (Nat.le_of_ble_eq_true rfl) (fun _ => ⟨rfl, rfl⟩) ?_
  exact px_eqM (cc_upx (e := ((u 2 p).1, px_upN (u 2 p).2.1 0 c, (u 2 p).2.2)) (by decide) hx rfl rfl) kk
theorem cp_cost {index p : Nat} {c : Int} {v : UInt64} (hd : decode Γ.2.1 pc = .ok (.putfield index, 3)) (hf : px_fl Γ.1.cls index 2 3) (hx : cx u 3 p) (hv : v = dz c) (kk : px_W d mc ms Γ Q (pc + 3) lv st (cc_M (cZ u 3 p 0 c) X) k n) : px_W d mc ms Γ Q pc lv (.inl (.double v) :: .inr (3, p) :: st) (cc_M u X) k n := by
  subst hv
  refine px_putf hd hf nf_2_3 (cc_step hx) (Nat.le_of_ble_eq_true rfl) (fun _ => ⟨rfl, rfl⟩) ?_
  exact px_eqM (cc_upx (e := ((u 3 p).1, px_upN (u 3 p).2.1 0 c, (u 3 p).2.2)) (by decide) hx rfl rfl) kk
theorem cp_group {index p c : Nat} {v : Int32} (hd : decode Γ.2.1 pc = .ok (.putfield index, 3)) (hf : px_fl Γ.1.cls index 2 4) (hx : cx u 3 p) (hv : v = nI c) (kk : px_W d mc ms Γ Q (pc + 3) lv st (cc_M (cN u 3 p 3 c) X) k n) : px_W d mc ms Γ Q pc lv (.inl (.int v) :: .inr (3, p) :: st) (cc_M u X) k n := by
  subst hv
  refine px_putf hd hf nf_2_4 (cc_step hx) (Nat.le_of_ble_eq_true rfl) (fun _ => ⟨rfl, rfl⟩) ?_
  exact px_eqM (cc_upx (e := (px_upN (u 3 p).1 3 c, (u 3 p).2)) (by decide) hx rfl rfl) kk
theorem cp_next {index p c : Nat} {v : Int32} (hd : decode Γ.2.1 pc = .ok (.putfield index, 3)) (hf : px_fl Γ.1.cls index 2 5) (hx : cx u 3 p) (hv : v = nI c) (kk : px_W d mc ms Γ Q (pc + 3) lv st (cc_M (cN u 3 p 4 c) X) k n) : px_W d mc ms Γ Q pc lv (.inl (.int v) :: .inr (3, p) :: st) (cc_M u X) k n := by
  subst hv
  refine px_putf hd hf nf_2_5 (cc_step hx) (Nat.le_of_ble_eq_true rfl) (fun _ => ⟨rfl, rfl⟩) ?_
  exact px_eqM (cc_upx (e := (px_upN (u 3 p).1 4 c, (u 3 p).2)) (by decide) hx rfl rfl) kk
theorem cp_size {index p c : Nat} {v : Int32} (hd : decode Γ.2.1 pc = .ok (.putfield index, 3)) (hf : px_fl Γ.1.cls index 3 4) (hx : cx u 7 p) (hv : v = nI c) (kk : px_W d mc ms Γ Q (pc + 3) lv st (cc_M (cN u 7 p 0 c) X) k n) : px_W d mc ms Γ Q pc lv (.inl (.int v) :: .inr (7, p) :: st) (cc_M u X) k n := by
  subst hv
  refine px_putf hd hf nf_3_4 (cc_ways hx) (Nat.le_of_ble_eq_true rfl) (fun _ => ⟨rfl, rfl⟩) ?_
  exact px_eqM (cc_upx (e := (px_upN (u 7 p).1 0 c, (u 7 p).2)) (by decide) hx rfl rfl) kk
theorem cp_listed {index c : Nat} {v : Int32} (hd : decode Γ.2.1 pc = .ok (.putfield index, 3)) (hf : px_fl Γ.1.cls index 4 10) (hx : cx u 14 0) (hv : v = nI c) (hc : c ≤ 1) (kk : px_W d mc ms Γ Q (pc + 3) lv st (cc_M (cN u 14 0 0 c) X) k n) : px_W d mc ms Γ Q pc lv (.inl (.int v) :: .inr (14, 0) :: st) (cc_M u X) k n := by
  subst hv
  refine px_putf hd hf nf_4_10 (cc_obj hx) (Nat.le_of_ble_eq_true rfl) (fun _ => ?_) ?_
  · rcases (show c = 0 ∨ c = 1 by omega) with rfl | rfl <;> exact ⟨rfl, rfl⟩
  · exact px_eqM (cc_upx (e := (px_upN (u 14 0).1 0 c, (u 14 0).2)) (by decide) hx rfl rfl) kk
/-! rows -/
theorem ca_left {p j : Nat} {i : Int32} (hd : decode Γ.2.1 pc = .ok (.daload, 1)) (hx : cx u 8 p) (hi : i = nI j) (hj : j < cc_wl p) (kk : px_W d mc ms Γ Q (pc + 1) lv (.inl (.double (dz (cz u 8 p j))) :: st) (cc_M u X) k n) : px_W d mc ms Γ Q pc lv (.inl (.int i) :: .inr (8, p) :: st) (cc_M u X) k n := px_ald_d hd (cc_at hx (by decide) rfl) hi hj (cc_wl_le p) kk
theorem ca_step {p j : Nat} {i : Int32} (hd : decode Γ.2.1 pc = .ok (.aaload, 1)) (hx : cx u 9 p) (hi : i = nI j) (hj : j < cc_wl p) (kk : px_W d mc ms Γ Q (pc + 1) lv (px_rf (cs u 9 p j) :: st) (cc_M u X) k n) : px_W d mc ms Γ Q pc lv (.inl (.int i) :: .inr (9, p) :: st) (cc_M u X) k n := px_ald_q4 hd (cc_at hx (by decide) rfl) hi hj (cc_wl_le p) kk
theorem ca_rest {p j : Nat} {i : Int32} (hd : decode Γ.2.1 pc = .ok (.iaload, 1)) (hx : cx u 10 p) (hi : i = nI j) (hj : j < cc_wl p) (kk : px_W d mc ms Γ Q (pc + 1) lv (.inl (.int (nI (cn u 10 p j))) :: st) (cc_M u X) k n) : px_W d mc ms Γ Q pc lv (.inl (.int i) :: .inr (10, p) :: st) (cc_M u X) k n := px_ald_i hd (cc_at hx (by decide) rfl) hi hj (cc_wl_le p) kk
theorem ca_grp {p j : Nat} {i : Int32} (hd : decode Γ.2.1 pc = .ok (.iaload, 1)) (hx : cx u 11 p) (hi : i = nI j) (hj : j < cc_wl p) (kk : px_W d mc ms Γ Q (pc + 1) lv (.inl (.int (nI (cn u 11 p j))) :: st) (cc_M u X) k n) : px_W d mc ms Γ Q pc lv (.inl (.int i) :: .inr (11, p) :: st) (cc_M u X) k n := px_ald_i hd (cc_at hx (by decide) rfl) hi hj (cc_wl_le p) kk
theorem ca_thr {j : Nat} {i : Int32} (hd : decode Γ.2.1 pc = .ok (.iaload, 1)) (hx : cx u 14 7) (hi : i = nI j) (hj : j < 10) (kk : px_W d mc ms Γ Q (pc + 1) lv (.inl (.int (px_o (cn u 14 7 j))) :: st) (cc_M u X) k n) : px_W d mc ms Γ Q pc lv (.inl (.int i) :: .inr (14, 7) :: st) (cc_M u X) k n := px_ald_i hd (cc_at hx (by decide) rfl) hi hj (by decide) kk
theorem ca_tak {j : Nat} {i : Int32} (hd : decode Γ.2.1 pc = .ok (.iaload, 1)) (hx : cx u 14 8) (hi : i = nI j) (hj : j < 8) (kk : px_W d mc ms Γ Q (pc + 1) lv (.inl (.int (nI (cn u 14 8 j))) :: st) (cc_M u X) k n) : px_W d mc ms Γ Q pc lv (.inl (.int i) :: .inr (14, 8) :: st) (cc_M u X) k n := px_ald_i hd (cc_at hx (by decide) rfl) hi hj (by decide) kk
theorem cw_left {p j : Nat} {i : Int32} {z : Int} {v : UInt64} (hd : decode Γ.2.1 pc = .ok (.dastore, 1)) (hx : cx u 8 p) (hi : i = nI j) (hj : j < cc_wl p) (hv : v = dz z) (kk : px_W d mc ms Γ Q (pc + 1) lv st (cc_M (cZ u 8 p j z) X) k n) : px_W d mc ms Γ Q pc lv (.inl (.double v) :: .inl (.int i) :: .inr (8, p) :: st) (cc_M u X) k n := by
  subst hv
  refine px_ast_d hd (cc_at hx (by decide) rfl) hi hj (cc_wl_le p) ?_
  refine px_eqM (cc_upx (e := ((u 8 p).1, px_upN (u 8 p).2.1 j z, (u 8 p).2.2)) (by decide) hx rfl (congrArg (fun f => some (Sum.inr (Sum.inl (1, cc_wl p, Sum.inr (Sum.inr (Sum.inl f)))))) (funext fun q => ?_))) kk
  · show dz (px_upN (u 8 p).2.1 j z q) = vf_upd (fun j => dz ((u 8 p).2.1 j)) j (dz z) q
    unfold px_upN vf_upd
    split <;> rfl
theorem cw_step {p j s : Nat} {i : Int32} (hd : decode Γ.2.1 pc = .ok (.aastore, 1)) (hx : cx u 9 p) (hs : cx u 3 s) (hi : i = nI j) (hj : j < cc_wl p) (kk : px_W d mc ms Γ Q (pc + 1) lv st (cc_M (cS u 9 p j (some (3, s))) X) k n) : px_W d mc ms Γ Q pc lv (.inr (3, s) :: .inl (.int i) :: .inr (9, p) :: st) (cc_M u X) k n := by
  refine px_ast_q4 hd (cc_at hx (by decide) rfl) (cc_step hs) hi hj (cc_wl_le p) ?_
  refine px_eqM (cc_upx (e := ((u 9 p).1, (u 9 p).2.1, px_upN (u 9 p).2.2.1 j (some (3, s)), (u 9 p).2.2.2)) (by decide) hx rfl (congrArg (fun f => some (Sum.inr (Sum.inl (4, cc_wl p, Sum.inr (Sum.inr (Sum.inr f)))))) (funext fun q => ?_))) kk
  · show px_upN (u 9 p).2.2.1 j (some (3, s)) q = va_up (u 9 p).2.2.1 j (some (3, s)) q
    unfold px_upN va_up
    rfl
theorem cw_rest {p j x : Nat} {i v : Int32} (hd : decode Γ.2.1 pc = .ok (.iastore, 1)) (hx : cx u 10 p) (hi : i = nI j) (hj : j < cc_wl p) (hv : v = nI x) (kk : px_W d mc ms Γ Q (pc + 1) lv st (cc_M (cN u 10 p j x) X) k n) : px_W d mc ms Γ Q pc lv (.inl (.int v) :: .inl (.int i) :: .inr (10, p) :: st) (cc_M u X) k n := by
  subst hv
  refine px_ast_i hd (cc_at hx (by decide) rfl) hi hj (cc_wl_le p) ?_
  refine px_eqM (cc_upx (e := (px_upN (u 10 p).1 j x, (u 10 p).2)) (by decide) hx rfl (congrArg (fun f => some (Sum.inr (Sum.inl (0, cc_wl p, Sum.inl f)))) (funext fun q => ?_))) kk
  · show nI (px_upN (u 10 p).1 j x q) = upd (fun j => nI ((u 10 p).1 j)) j (nI x) q
    unfold px_upN upd
    split <;> rfl
theorem cw_grp {p j x : Nat} {i v : Int32} (hd : decode Γ.2.1 pc = .ok (.iastore, 1)) (hx : cx u 11 p) (hi : i = nI j) (hj : j < cc_wl p) (hv : v = nI x) (kk : px_W d mc ms Γ Q (pc + 1) lv st (cc_M (cN u 11 p j x) X) k n) : px_W d mc ms Γ Q pc lv (.inl (.int v) :: .inl (.int i) :: .inr (11, p) :: st) (cc_M u X) k n := by
  subst hv
  refine px_ast_i hd (cc_at hx (by decide) rfl) hi hj (cc_wl_le p) ?_
  refine px_eqM (cc_upx (e := (px_upN (u 11 p).1 j x, (u 11 p).2)) (by decide) hx rfl (congrArg (fun f => some (Sum.inr (Sum.inl (0, cc_wl p, Sum.inl f)))) (funext fun q => ?_))) kk
  · show nI (px_upN (u 11 p).1 j x q) = upd (fun j => nI ((u 11 p).1 j)) j (nI x) q
    unfold px_upN upd
    split <;> rfl
theorem cw_thr {j x : Nat} {i v : Int32} (hd : decode Γ.2.1 pc = .ok (.iastore, 1)) (hx : cx u 14 7) (hi : i = nI j) (hj : j < 10) (hv : v = px_o x) (kk : px_W d mc ms Γ Q (pc + 1) lv st (cc_M (cN u 14 7 j x) X) k n) : px_W d mc ms Γ Q pc lv (.inl (.int v) :: .inl (.int i) :: .inr (14, 7) :: st) (cc_M u X) k n := by
  subst hv
  refine px_ast_i hd (cc_at hx (by decide) rfl) hi hj (by decide) ?_
  refine px_eqM (cc_upx (e := (px_upN (u 14 7).1 j x, (u 14 7).2)) (by decide) hx rfl (congrArg (fun f => some (Sum.inr (Sum.inl (0, 10, Sum.inl f)))) (funext fun q => ?_))) kk
  · show px_o (px_upN (u 14 7).1 j x q) = upd (fun j => px_o ((u 14 7).1 j)) j (px_o x) q
    unfold px_upN upd
    split <;> rfl
theorem cw_tak {j x : Nat} {i v : Int32} (hd : decode Γ.2.1 pc = .ok (.iastore, 1)) (hx : cx u 14 8) (hi : i = nI j) (hj : j < 8) (hv : v = nI x) (kk : px_W d mc ms Γ Q (pc + 1) lv st (cc_M (cN u 14 8 j x) X) k n) : px_W d mc ms Γ Q pc lv (.inl (.int v) :: .inl (.int i) :: .inr (14, 8) :: st) (cc_M u X) k n := by
  subst hv
  refine px_ast_i hd (cc_at hx (by decide) rfl) hi hj (by decide) ?_
  refine px_eqM (cc_upx (e := (px_upN (u 14 8).1 j x, (u 14 8).2)) (by decide) hx rfl (congrArg (fun f => some (Sum.inr (Sum.inl (0, 8, Sum.inl f)))) (funext fun q => ?_))) kk
  · show nI (px_upN (u 14 8).1 j x q) = upd (fun j => nI ((u 14 8).1 j)) j (nI x) q
    unfold px_upN upd
    split <;> rfl
end CCW
