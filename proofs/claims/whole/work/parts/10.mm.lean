/-! ===== the reference's world: scalars, rows of numbers, rows of times, each by its field's number ===== -/
/-- -1, or a number -/
def px_o : Nat → Int32
  | 0 => -1
  | n + 1 => nI n
theorem px_o_eq {a b : Nat} (ha : a < 2 ^ 31) (hb : b < 2 ^ 31) : px_o a = px_o b ↔ a = b := by
  cases a with
  | zero =>
    cases b with
    | zero => simp
    | succ b => exact ⟨fun h => absurd (show nI b < 0 by rw [show nI b = -1 from h.symm]; decide) (nI_pos (by omega)), fun h => by omega⟩
  | succ a =>
    cases b with
    | zero => exact ⟨fun h => absurd (show nI a < 0 by rw [show nI a = -1 from h]; decide) (nI_pos (by omega)), fun h => by omega⟩
    | succ b =>
      show nI a = nI b ↔ _
      rw [nI_eq (by omega) (by omega)]; omega
theorem px_o_no {a : Nat} (ha : a < 2 ^ 31) : px_o a = -1 ↔ a = 0 := px_o_eq (b := 0) ha (by omega)
theorem px_o_nI {a b : Nat} (ha : a < 2 ^ 31) (hb : b < 2 ^ 31) : px_o a = nI b ↔ a = b + 1 := by
  rcases Nat.lt_or_ge (b + 1) (2 ^ 31) with h | h
  · exact px_o_eq (b := b + 1) ha h
  · cases a with
    | zero => exact ⟨fun z => absurd (show nI b < 0 by rw [← z]; decide) (nI_pos hb), fun z => by omega⟩
    | succ a =>
      show nI a = nI b ↔ _
      rw [nI_eq (by omega) hb]; omega
abbrev mm_S : Type := (Nat → Nat) × (Nat → Nat → Nat) × (Nat → Nat → Int)
def px_upN {α : Type} (f : Nat → α) (j : Nat) (x : α) : Nat → α := fun i => if i = j then x else f i
def mm_I (s : mm_S) (k x : Nat) : mm_S := (px_upN s.1 k x, s.2)
def mm_A (s : mm_S) (k j x : Nat) : mm_S := (s.1, px_upN s.2.1 k (px_upN (s.2.1 k) j x), s.2.2)
def mm_D (s : mm_S) (k j : Nat) (x : Int) : mm_S := (s.1, s.2.1, px_upN s.2.2 k (px_upN (s.2.2 k) j x))
/-- a field's row: 1 numbers, 2 times, 3 true or false, 4 numbers or -1; and how long -/
def mm_kd : Nat → Nat × Nat
  | 0 => (9, 0)
  | 2 => (4, 60)
  | 3 => (1, 150)
  | 4 => (1, 150)
  | 5 => (2, 150)
  | 7 => (1, 30)
  | 8 => (2, 30)
  | 10 => (1, 30)
  | 11 => (2, 30)
  | 12 => (1, 30)
  | 14 => (4, 10)
  | 15 => (1, 50)
  | 16 => (2, 50)
  | 18 => (4, 26401)
  | 19 => (1, 26401)
  | 20 => (2, 26401)
  | 21 => (1, 660)
  | 22 => (1, 321)
  | 23 => (1, 321)
  | 26 => (3, 60)
  | 27 => (1, 64)
  | 28 => (1, 64)
  | 29 => (1, 60)
  | 30 => (2, 60)
  | _ => (0, 0)
def mm_obj (f : Nat → Nat) : List px_V := [.inl (.int (nI (f 0))), .inl (.int (nI (f 1))), .inr (1, 2), .inr (1, 3), .inr (1, 4), .inr (1, 5), .inl (.int (nI (f 6))), .inr (1, 7), .inr (1, 8), .inl (.int (nI (f 9))), .inr (1, 10), .inr (1, 11), .inr (1, 12), .inl (.int (nI (f 13))), .inr (1, 14), .inr (1, 15), .inr (1, 16), .inl (.int (nI (f 17))), .inr (1, 18), .inr (1, 19), .inr (1, 20), .inr (1, 21), .inr (1, 22), .inr (1, 23), .inl (.int (nI (f 24))), .inl (.int (nI (f 25))), .inr (1, 26), .inr (1, 27), .inr (1, 28), .inr (1, 29), .inr (1, 30)]
def mm_cell (s : mm_S) (k : Nat) : Option px_O := match mm_kd k with
  | (1, n) => some (.inr (.inl (0, n, .inl fun j => nI (s.2.1 k j))))
  | (2, n) => some (.inr (.inl (1, n, .inr (.inr (.inl fun j => dz (s.2.2 k j))))))
  | (3, n) => some (.inr (.inl (2, n, .inl fun j => nI (s.2.1 k j))))
  | (4, n) => some (.inr (.inl (0, n, .inl fun j => px_o (s.2.1 k j))))
  | (9, _) => some (.inl (5, mm_obj s.1))
  | _ => none
def mm_M (s : mm_S) (X : px_M) : px_M := fun r => if r.1 = 1 then mm_cell s r.2 else X r
theorem mm_M1 (s : mm_S) (X : px_M) (k : Nat) : mm_M s X (1, k) = mm_cell s k := if_pos rfl
theorem mm_cell1 {s : mm_S} {k n : Nat} (h : mm_kd k = (1, n)) : mm_cell s k = some (.inr (.inl (0, n, .inl fun j => nI (s.2.1 k j)))) := by simp only [mm_cell, h]
theorem mm_cell2 {s : mm_S} {k n : Nat} (h : mm_kd k = (2, n)) : mm_cell s k = some (.inr (.inl (1, n, .inr (.inr (.inl fun j => dz (s.2.2 k j)))))) := by simp only [mm_cell, h]
theorem mm_cell3 {s : mm_S} {k n : Nat} (h : mm_kd k = (3, n)) : mm_cell s k = some (.inr (.inl (2, n, .inl fun j => nI (s.2.1 k j)))) := by simp only [mm_cell, h]
theorem mm_cell4 {s : mm_S} {k n : Nat} (h : mm_kd k = (4, n)) : mm_cell s k = some (.inr (.inl (0, n, .inl fun j => px_o (s.2.1 k j)))) := by simp only [mm_cell, h]
theorem mm_cell_congr {s s' : mm_S} {k : Nat} (h0 : mm_kd k = (9, 0) → s'.1 = s.1) (h1 : s'.2.1 k = s.2.1 k) (h2 : s'.2.2 k = s.2.2 k) : mm_cell s' k = mm_cell s k := by
  unfold mm_cell
  split
  · rw [h1]
  · rw [h2]
  · rw [h1]
  · rw [h1]
  · rename_i n h9
    rw [h0 (by
      have : n = 0 := by
        unfold mm_kd at h9
        split at h9 <;> first | (cases h9; rfl) | (simp at h9)
      rw [h9, this])]
  · rfl
theorem mm_up {s s' : mm_S} {X : px_M} {k : Nat} {o : px_O} (h : mm_cell s' k = some o) (hn : ∀ j, j ≠ k → mm_cell s' j = mm_cell s j) : px_up (mm_M s X) (1, k) o = mm_M s' X := by
  funext r
  obtain ⟨a, b⟩ := r
  by_cases ha : a = 1
  · subst ha
    by_cases hb : b = k
    · subst hb
      rw [px_up_s, mm_M1, h]
    · rw [px_up_n _ _ (fun z => hb (congrArg Prod.snd z)), mm_M1, mm_M1, hn b hb]
  · rw [px_up_n _ _ (fun z => ha (congrArg Prod.fst z))]
    show (if a = 1 then _ else _) = (if a = 1 then _ else _)
    rw [if_neg ha, if_neg ha]
theorem mm_kd0 {k : Nat} (h : mm_kd k = (9, 0)) : k = 0 := by
  unfold mm_kd at h
  split at h <;> first | rfl | (simp at h)
theorem mm_upA {s : mm_S} {X : px_M} {k n j x : Nat} (h : mm_kd k = (1, n)) : px_up (mm_M s X) (1, k) (.inr (.inl (0, n, .inl (upd (fun j => nI (s.2.1 k j)) j (nI x))))) = mm_M (mm_A s k j x) X := by
  refine mm_up ?_ fun i hi => mm_cell_congr (fun _ => rfl) (if_neg hi) rfl
  rw [mm_cell1 h]
  refine congrArg (fun f => some (Sum.inr (Sum.inl (0, n, Sum.inl f)))) (funext fun i => ?_)
  by_cases e : i = j <;> simp [mm_A, px_upN, upd, e]
theorem mm_upZ {s : mm_S} {X : px_M} {k n j x : Nat} (h : mm_kd k = (3, n)) : px_up (mm_M s X) (1, k) (.inr (.inl (2, n, .inl (upd (fun j => nI (s.2.1 k j)) j (nI x))))) = mm_M (mm_A s k j x) X := by
  refine mm_up ?_ fun i hi => mm_cell_congr (fun _ => rfl) (if_neg hi) rfl
  rw [mm_cell3 h]
  refine congrArg (fun f => some (Sum.inr (Sum.inl (2, n, Sum.inl f)))) (funext fun i => ?_)
  by_cases e : i = j <;> simp [mm_A, px_upN, upd, e]
theorem mm_upO {s : mm_S} {X : px_M} {k n j x : Nat} (h : mm_kd k = (4, n)) : px_up (mm_M s X) (1, k) (.inr (.inl (0, n, .inl (upd (fun j => px_o (s.2.1 k j)) j (px_o x))))) = mm_M (mm_A s k j x) X := by
  refine mm_up ?_ fun i hi => mm_cell_congr (fun _ => rfl) (if_neg hi) rfl
  rw [mm_cell4 h]
  refine congrArg (fun f => some (Sum.inr (Sum.inl (0, n, Sum.inl f)))) (funext fun i => ?_)
  by_cases e : i = j <;> simp [mm_A, px_upN, upd, e]
theorem mm_upD {s : mm_S} {X : px_M} {k n j : Nat} {x : Int} (h : mm_kd k = (2, n)) : px_up (mm_M s X) (1, k) (.inr (.inl (1, n, .inr (.inr (.inl (vf_upd (fun j => dz (s.2.2 k j)) j (dz x))))))) = mm_M (mm_D s k j x) X := by
  refine mm_up ?_ fun i hi => mm_cell_congr (fun _ => rfl) rfl (if_neg hi)
  rw [mm_cell2 h]
  refine congrArg (fun f => some (Sum.inr (Sum.inl (1, n, Sum.inr (Sum.inr (Sum.inl f)))))) (funext fun i => ?_)
  by_cases e : i = j <;> simp [mm_D, px_upN, vf_upd, e]
theorem mm_upI {s : mm_S} {X : px_M} {k x : Nat} (h : (mm_obj s.1).set k (.inl (.int (nI x))) = mm_obj (px_upN s.1 k x)) : px_up (mm_M s X) (1, 0) (.inl (5, (mm_obj s.1).set k (.inl (.int (nI x))))) = mm_M (mm_I s k x) X := by
  rw [h]
  refine mm_up rfl fun i hi => mm_cell_congr (fun h9 => absurd (mm_kd0 h9) hi) rfl rfl
theorem mm_set (f : Nat → Nat) (x : Nat) : ∀ k ∈ [0, 1, 6, 9, 13, 17, 24, 25], (mm_obj f).set k (.inl (.int (nI x))) = mm_obj (px_upN f k x) := by
  intro k hk
  simp only [List.mem_cons, List.not_mem_nil, or_false] at hk
  rcases hk with rfl | rfl | rfl | rfl | rfl | rfl | rfl | rfl <;> rfl
section MMR
variable {d mc ms : Nat} {Γ : px_Y} {Q : px_Q} {pc : Nat} {lv : List (Nat × px_V)} {st : List px_V} {X : px_M} {s : mm_S} {k n : Nat}
theorem mm_get {index kf : Nat} (hd : decode Γ.2.1 pc = .ok (.getfield index, 3)) (hf : px_fl Γ.1.cls index 5 kf) {v : px_V} (hv : (mm_obj s.1)[kf]? = some v) (kk : px_W d mc ms Γ Q (pc + 3) lv (v :: st) (mm_M s X) k n) : px_W d mc ms Γ Q pc lv (.inr (1, 0) :: st) (mm_M s X) k n :=
  px_getf hd hf (show mm_M s X (1, 0) = some (.inl (5, mm_obj s.1)) from rfl) hv kk
theorem mm_put {index kf x : Nat} (hd : decode Γ.2.1 pc = .ok (.putfield index, 3)) (hf : px_fl Γ.1.cls index 5 kf) (hnf : px_nf 5 kf) (hk : kf ∈ [0, 1, 6, 9, 13, 17, 24, 25]) (hn : narrow (px_fty 5 kf) (.int (nI x)) = .int (nI x) ∧ fits (px_fty 5 kf) (.int (nI x)) = true) (kk : px_W d mc ms Γ Q (pc + 3) lv st (mm_M (mm_I s kf x) X) k n) : px_W d mc ms Γ Q pc lv (.inl (.int (nI x)) :: .inr (1, 0) :: st) (mm_M s X) k n := by
  refine px_putf (v := .inl (.int (nI x))) hd hf hnf (show mm_M s X (1, 0) = some (.inl (5, mm_obj s.1)) from rfl) ?_ (fun _ => hn) ?_
  · simp only [List.mem_cons, List.not_mem_nil, or_false] at hk
    rcases hk with rfl | rfl | rfl | rfl | rfl | rfl | rfl | rfl <;> exact Nat.le_of_ble_eq_true rfl
  · rw [mm_upI (mm_set _ _ kf hk)]; exact kk
theorem mm_gets {index kf x : Nat} (hd : decode Γ.2.1 pc = .ok (.getfield index, 3)) (hf : px_fl Γ.1.cls index 5 kf) (hk : kf ∈ [0, 1, 6, 9, 13, 17, 24, 25]) (hx : s.1 kf = x) (kk : px_W d mc ms Γ Q (pc + 3) lv (.inl (.int (nI x)) :: st) (mm_M s X) k n) : px_W d mc ms Γ Q pc lv (.inr (1, 0) :: st) (mm_M s X) k n := by
  subst hx
  refine mm_get hd hf ?_ kk
  simp only [List.mem_cons, List.not_mem_nil, or_false] at hk
  rcases hk with rfl | rfl | rfl | rfl | rfl | rfl | rfl | rfl <;> rfl
theorem mr_In {s : mm_S} {k x k' : Nat} (h : k' ≠ k) : (mm_I s k x).1 k' = s.1 k' := if_neg h
theorem mr_Ie {s : mm_S} {k x : Nat} : (mm_I s k x).1 k = x := if_pos rfl
theorem mr_A1 {s : mm_S} {k j x i : Nat} : (mm_A s k j x).1 i = s.1 i := rfl
theorem mr_D1 {s : mm_S} {k j i : Nat} {x : Int} : (mm_D s k j x).1 i = s.1 i := rfl
theorem mr_I2 {s : mm_S} {k x f i : Nat} : (mm_I s k x).2.1 f i = s.2.1 f i := rfl
theorem mr_D2 {s : mm_S} {k j f i : Nat} {x : Int} : (mm_D s k j x).2.1 f i = s.2.1 f i := rfl
theorem mr_An {s : mm_S} {k j x f i : Nat} (h : f ≠ k) : (mm_A s k j x).2.1 f i = s.2.1 f i := congrFun (if_neg h) i
theorem mr_Ae {s : mm_S} {k j x : Nat} : (mm_A s k j x).2.1 k j = x := by simp [mm_A, px_upN]
theorem mr_Aj {s : mm_S} {k j x i : Nat} (h : i ≠ j) : (mm_A s k j x).2.1 k i = s.2.1 k i := by simp [mm_A, px_upN, h]
theorem mr_I3 {s : mm_S} {k x f i : Nat} : (mm_I s k x).2.2 f i = s.2.2 f i := rfl
theorem mr_A3 {s : mm_S} {k j x f i : Nat} : (mm_A s k j x).2.2 f i = s.2.2 f i := rfl
theorem mr_Dn {s : mm_S} {k j f i : Nat} {x : Int} (h : f ≠ k) : (mm_D s k j x).2.2 f i = s.2.2 f i := congrFun (if_neg h) i
theorem mr_De {s : mm_S} {k j : Nat} {x : Int} : (mm_D s k j x).2.2 k j = x := by simp [mm_D, px_upN]
theorem mr_Dj {s : mm_S} {k j i : Nat} {x : Int} (h : i ≠ j) : (mm_D s k j x).2.2 k i = s.2.2 k i := by simp [mm_D, px_upN, h]
theorem mm_kdn : ∀ k, (mm_kd k).2 ≤ 65536 := by
  intro k
  unfold mm_kd
  split <;> decide
theorem mm_kdl {k a n : Nat} (h : mm_kd k = (a, n)) : n ≤ 65536 := by have := mm_kdn k; rw [h] at this; exact this
theorem mm_ald {f len j x : Nat} {i : Int32} (hd : decode Γ.2.1 pc = .ok (.iaload, 1)) (hkd : mm_kd f = (1, len)) (hi : i = nI j) (hx : s.2.1 f j = x) (hj : j < len) (kk : px_W d mc ms Γ Q (pc + 1) lv (.inl (.int (nI x)) :: st) (mm_M s X) k n) : px_W d mc ms Γ Q pc lv (.inl (.int i) :: .inr (1, f) :: st) (mm_M s X) k n := by
  subst hx
  exact px_ald_i hd ((mm_M1 s X f).trans (mm_cell1 hkd)) hi hj (mm_kdl hkd) kk
theorem mm_ald_o {f len j x : Nat} {i : Int32} (hd : decode Γ.2.1 pc = .ok (.iaload, 1)) (hkd : mm_kd f = (4, len)) (hi : i = nI j) (hx : s.2.1 f j = x) (hj : j < len) (kk : px_W d mc ms Γ Q (pc + 1) lv (.inl (.int (px_o x)) :: st) (mm_M s X) k n) : px_W d mc ms Γ Q pc lv (.inl (.int i) :: .inr (1, f) :: st) (mm_M s X) k n := by
  subst hx
  exact px_ald_i hd ((mm_M1 s X f).trans (mm_cell4 hkd)) hi hj (mm_kdl hkd) kk
theorem mm_ald_z {f len j x : Nat} {i : Int32} (hd : decode Γ.2.1 pc = .ok (.baload, 1)) (hkd : mm_kd f = (3, len)) (hi : i = nI j) (hx : s.2.1 f j = x) (hj : j < len) (kk : px_W d mc ms Γ Q (pc + 1) lv (.inl (.int (nI x)) :: st) (mm_M s X) k n) : px_W d mc ms Γ Q pc lv (.inl (.int i) :: .inr (1, f) :: st) (mm_M s X) k n := by
  subst hx
  exact px_ald_z hd ((mm_M1 s X f).trans (mm_cell3 hkd)) hi hj (mm_kdl hkd) kk
theorem mm_ald_d {f len j : Nat} {i : Int32} {x : Int} (hd : decode Γ.2.1 pc = .ok (.daload, 1)) (hkd : mm_kd f = (2, len)) (hi : i = nI j) (hx : s.2.2 f j = x) (hj : j < len) (kk : px_W d mc ms Γ Q (pc + 1) lv (.inl (.double (dz x)) :: st) (mm_M s X) k n) : px_W d mc ms Γ Q pc lv (.inl (.int i) :: .inr (1, f) :: st) (mm_M s X) k n := by
  subst hx
  exact px_ald_d hd ((mm_M1 s X f).trans (mm_cell2 hkd)) hi hj (mm_kdl hkd) kk
theorem mm_ast {f len j x : Nat} {i v : Int32} (hd : decode Γ.2.1 pc = .ok (.iastore, 1)) (hkd : mm_kd f = (1, len)) (hi : i = nI j) (hv : v = nI x) (hj : j < len) (kk : px_W d mc ms Γ Q (pc + 1) lv st (mm_M (mm_A s f j x) X) k n) : px_W d mc ms Γ Q pc lv (.inl (.int v) :: .inl (.int i) :: .inr (1, f) :: st) (mm_M s X) k n := by
  subst hv
  refine px_ast_i hd ((mm_M1 s X f).trans (mm_cell1 hkd)) hi hj (mm_kdl hkd) ?_
  rw [mm_upA hkd]; exact kk
theorem mm_ast_o {f len j x : Nat} {i v : Int32} (hd : decode Γ.2.1 pc = .ok (.iastore, 1)) (hkd : mm_kd f = (4, len)) (hi : i = nI j) (hv : v = px_o x) (hj : j < len) (kk : px_W d mc ms Γ Q (pc + 1) lv st (mm_M (mm_A s f j x) X) k n) : px_W d mc ms Γ Q pc lv (.inl (.int v) :: .inl (.int i) :: .inr (1, f) :: st) (mm_M s X) k n := by
  subst hv
  refine px_ast_i hd ((mm_M1 s X f).trans (mm_cell4 hkd)) hi hj (mm_kdl hkd) ?_
  rw [mm_upO hkd]; exact kk
theorem mm_ast_z {f len j x : Nat} {i v : Int32} (hd : decode Γ.2.1 pc = .ok (.bastore, 1)) (hkd : mm_kd f = (3, len)) (hi : i = nI j) (hv : v = nI x) (hj : j < len) (hx : x ≤ 1) (kk : px_W d mc ms Γ Q (pc + 1) lv st (mm_M (mm_A s f j x) X) k n) : px_W d mc ms Γ Q pc lv (.inl (.int v) :: .inl (.int i) :: .inr (1, f) :: st) (mm_M s X) k n := by
  subst hv
  refine px_ast_z hd ((mm_M1 s X f).trans (mm_cell3 hkd)) hi hj (mm_kdl hkd) ?_ ?_
  · rcases (show x = 0 ∨ x = 1 by omega) with rfl | rfl <;> decide
  · rw [mm_upZ hkd]; exact kk
theorem mm_ast_d {f len j : Nat} {i : Int32} {v : UInt64} {x : Int} (hd : decode Γ.2.1 pc = .ok (.dastore, 1)) (hkd : mm_kd f = (2, len)) (hi : i = nI j) (hv : v = dz x) (hj : j < len) (kk : px_W d mc ms Γ Q (pc + 1) lv st (mm_M (mm_D s f j x) X) k n) : px_W d mc ms Γ Q pc lv (.inl (.double v) :: .inl (.int i) :: .inr (1, f) :: st) (mm_M s X) k n := by
  subst hv
  refine px_ast_d hd ((mm_M1 s X f).trans (mm_cell2 hkd)) hi hj (mm_kdl hkd) ?_
  rw [mm_upD hkd]; exact kk
/-! numbers as naturals; a condition in its own words -/
theorem pn_iadd {x y z : Int32} (hd : decode Γ.2.1 pc = .ok (.iadd, 1)) (hz : x + y = z) {M : px_M} (kk : px_W d mc ms Γ Q (pc + 1) lv (.inl (.int z) :: st) M k n) : px_W d mc ms Γ Q pc lv (.inl (.int y) :: .inl (.int x) :: st) M k n := by subst hz; exact px_iadd hd kk
theorem pn_isub {x y z : Int32} (hd : decode Γ.2.1 pc = .ok (.isub, 1)) (hz : x - y = z) {M : px_M} (kk : px_W d mc ms Γ Q (pc + 1) lv (.inl (.int z) :: st) M k n) : px_W d mc ms Γ Q pc lv (.inl (.int y) :: .inl (.int x) :: st) M k n := by subst hz; exact px_isub hd kk
theorem pn_imul {x y z : Int32} (hd : decode Γ.2.1 pc = .ok (.imul, 1)) (hz : x * y = z) {M : px_M} (kk : px_W d mc ms Γ Q (pc + 1) lv (.inl (.int z) :: st) M k n) : px_W d mc ms Γ Q pc lv (.inl (.int y) :: .inl (.int x) :: st) M k n := by subst hz; exact px_imul hd kk
theorem pn_dcmp {x y : UInt64} {a b : Int} {op : CmpOp} (hd : decode Γ.2.1 pc = .ok (.dcmp op, 1)) (hx : x = dz a) (hy : y = dz b) (ha : a.natAbs ≤ 2 ^ 53) (hb : b.natAbs ≤ 2 ^ 53) {M : px_M} (kk : px_W d mc ms Γ Q (pc + 1) lv (.inl (.int (dz_c a b)) :: st) M k n) : px_W d mc ms Γ Q pc lv (.inl (.double y) :: .inl (.double x) :: st) M k n := by
  subst hx hy
  refine px_dcmp hd ?_
  rw [dz_cmp op ha hb]; exact kk
theorem pn_dadd {a b : Int} (hd : decode Γ.2.1 pc = .ok (.dadd, 1)) (ha : a.natAbs ≤ 2 ^ 50) (hb : b.natAbs ≤ 2 ^ 50) {z : Int} (hz : a + b = z) {M : px_M} (kk : px_W d mc ms Γ Q (pc + 1) lv (.inl (.double (dz z)) :: st) M k n) : px_W d mc ms Γ Q pc lv (.inl (.double (dz b)) :: .inl (.double (dz a)) :: st) M k n := by
  subst hz
  exact px_dadd hd (dz_add (by omega) (by omega)) (dz_vf (by omega)) kk
theorem pn_dsub {a b : Int} (hd : decode Γ.2.1 pc = .ok (.dsub, 1)) (ha : a.natAbs ≤ 2 ^ 50) (hb : b.natAbs ≤ 2 ^ 50) {z : Int} (hz : a - b = z) {M : px_M} (kk : px_W d mc ms Γ Q (pc + 1) lv (.inl (.double (dz z)) :: st) M k n) : px_W d mc ms Γ Q pc lv (.inl (.double (dz b)) :: .inl (.double (dz a)) :: st) M k n := by
  subst hz
  exact px_dsub hd (dz_sub (by omega) (by omega)) (dz_vf (by omega)) kk
variable {M : px_M} {P : Prop}
theorem pn_icmp_eq {x y : Int32} {off : Int} {tgt : Nat} (hd : decode Γ.2.1 pc = .ok (.if_icmp .eq off, 3)) (ht : (pc : Int) + off = (tgt : Int)) (hc : x = y ↔ P) (kt : P → px_W d mc ms Γ Q tgt lv st M k n) (kf : ¬ P → px_W d mc ms Γ Q (pc + 3) lv st M k n) : px_W d mc ms Γ Q pc lv (.inl (.int y) :: .inl (.int x) :: st) M k n := px_icmp_eq hd ht (fun h => kt (hc.mp h)) (fun h => kf (fun p => h (hc.mpr p)))
theorem pn_icmp_ne {x y : Int32} {off : Int} {tgt : Nat} (hd : decode Γ.2.1 pc = .ok (.if_icmp .ne off, 3)) (ht : (pc : Int) + off = (tgt : Int)) (hc : x = y ↔ P) (kt : ¬ P → px_W d mc ms Γ Q tgt lv st M k n) (kf : P → px_W d mc ms Γ Q (pc + 3) lv st M k n) : px_W d mc ms Γ Q pc lv (.inl (.int y) :: .inl (.int x) :: st) M k n := px_icmp_ne hd ht (fun h => kt (fun p => h (hc.mpr p))) (fun h => kf (hc.mp h))
theorem pn_icmp_lt {x y : Int32} {off : Int} {tgt : Nat} (hd : decode Γ.2.1 pc = .ok (.if_icmp .lt off, 3)) (ht : (pc : Int) + off = (tgt : Int)) (hc : x < y ↔ P) (kt : P → px_W d mc ms Γ Q tgt lv st M k n) (kf : ¬ P → px_W d mc ms Γ Q (pc + 3) lv st M k n) : px_W d mc ms Γ Q pc lv (.inl (.int y) :: .inl (.int x) :: st) M k n := px_icmp_lt hd ht (fun h => kt (hc.mp h)) (fun h => kf (fun p => h (hc.mpr p)))
theorem pn_icmp_ge {x y : Int32} {off : Int} {tgt : Nat} (hd : decode Γ.2.1 pc = .ok (.if_icmp .ge off, 3)) (ht : (pc : Int) + off = (tgt : Int)) (hc : y ≤ x ↔ P) (kt : P → px_W d mc ms Γ Q tgt lv st M k n) (kf : ¬ P → px_W d mc ms Γ Q (pc + 3) lv st M k n) : px_W d mc ms Γ Q pc lv (.inl (.int y) :: .inl (.int x) :: st) M k n := px_icmp_ge hd ht (fun h => kt (hc.mp h)) (fun h => kf (fun p => h (hc.mpr p)))
theorem pn_icmp_gt {x y : Int32} {off : Int} {tgt : Nat} (hd : decode Γ.2.1 pc = .ok (.if_icmp .gt off, 3)) (ht : (pc : Int) + off = (tgt : Int)) (hc : y < x ↔ P) (kt : P → px_W d mc ms Γ Q tgt lv st M k n) (kf : ¬ P → px_W d mc ms Γ Q (pc + 3) lv st M k n) : px_W d mc ms Γ Q pc lv (.inl (.int y) :: .inl (.int x) :: st) M k n := px_icmp_gt hd ht (fun h => kt (hc.mp h)) (fun h => kf (fun p => h (hc.mpr p)))
theorem pn_icmp_le {x y : Int32} {off : Int} {tgt : Nat} (hd : decode Γ.2.1 pc = .ok (.if_icmp .le off, 3)) (ht : (pc : Int) + off = (tgt : Int)) (hc : x ≤ y ↔ P) (kt : P → px_W d mc ms Γ Q tgt lv st M k n) (kf : ¬ P → px_W d mc ms Γ Q (pc + 3) lv st M k n) : px_W d mc ms Γ Q pc lv (.inl (.int y) :: .inl (.int x) :: st) M k n := px_icmp_le hd ht (fun h => kt (hc.mp h)) (fun h => kf (fun p => h (hc.mpr p)))
theorem pn_if_eq {x : Int32} {off : Int} {tgt : Nat} (hd : decode Γ.2.1 pc = .ok (.ifCond .eq off, 3)) (ht : (pc : Int) + off = (tgt : Int)) (hc : x = 0 ↔ P) (kt : P → px_W d mc ms Γ Q tgt lv st M k n) (kf : ¬ P → px_W d mc ms Γ Q (pc + 3) lv st M k n) : px_W d mc ms Γ Q pc lv (.inl (.int x) :: st) M k n := px_if_eq hd ht (fun h => kt (hc.mp h)) (fun h => kf (fun p => h (hc.mpr p)))
theorem pn_if_ne {x : Int32} {off : Int} {tgt : Nat} (hd : decode Γ.2.1 pc = .ok (.ifCond .ne off, 3)) (ht : (pc : Int) + off = (tgt : Int)) (hc : x = 0 ↔ P) (kt : ¬ P → px_W d mc ms Γ Q tgt lv st M k n) (kf : P → px_W d mc ms Γ Q (pc + 3) lv st M k n) : px_W d mc ms Γ Q pc lv (.inl (.int x) :: st) M k n := px_if_ne hd ht (fun h => kt (fun p => h (hc.mpr p))) (fun h => kf (hc.mp h))
theorem pn_if_lt {x : Int32} {off : Int} {tgt : Nat} (hd : decode Γ.2.1 pc = .ok (.ifCond .lt off, 3)) (ht : (pc : Int) + off = (tgt : Int)) (hc : x < 0 ↔ P) (kt : P → px_W d mc ms Γ Q tgt lv st M k n) (kf : ¬ P → px_W d mc ms Γ Q (pc + 3) lv st M k n) : px_W d mc ms Γ Q pc lv (.inl (.int x) :: st) M k n := px_if_lt hd ht (fun h => kt (hc.mp h)) (fun h => kf (fun p => h (hc.mpr p)))
theorem pn_if_ge {x : Int32} {off : Int} {tgt : Nat} (hd : decode Γ.2.1 pc = .ok (.ifCond .ge off, 3)) (ht : (pc : Int) + off = (tgt : Int)) (hc : 0 ≤ x ↔ P) (kt : P → px_W d mc ms Γ Q tgt lv st M k n) (kf : ¬ P → px_W d mc ms Γ Q (pc + 3) lv st M k n) : px_W d mc ms Γ Q pc lv (.inl (.int x) :: st) M k n := px_if_ge hd ht (fun h => kt (hc.mp h)) (fun h => kf (fun p => h (hc.mpr p)))
theorem pn_if_gt {x : Int32} {off : Int} {tgt : Nat} (hd : decode Γ.2.1 pc = .ok (.ifCond .gt off, 3)) (ht : (pc : Int) + off = (tgt : Int)) (hc : 0 < x ↔ P) (kt : P → px_W d mc ms Γ Q tgt lv st M k n) (kf : ¬ P → px_W d mc ms Γ Q (pc + 3) lv st M k n) : px_W d mc ms Γ Q pc lv (.inl (.int x) :: st) M k n := px_if_gt hd ht (fun h => kt (hc.mp h)) (fun h => kf (fun p => h (hc.mpr p)))
theorem pn_if_le {x : Int32} {off : Int} {tgt : Nat} (hd : decode Γ.2.1 pc = .ok (.ifCond .le off, 3)) (ht : (pc : Int) + off = (tgt : Int)) (hc : x ≤ 0 ↔ P) (kt : P → px_W d mc ms Γ Q tgt lv st M k n) (kf : ¬ P → px_W d mc ms Γ Q (pc + 3) lv st M k n) : px_W d mc ms Γ Q pc lv (.inl (.int x) :: st) M k n := px_if_le hd ht (fun h => kt (hc.mp h)) (fun h => kf (fun p => h (hc.mpr p)))
end MMR
/-- 1 or 0 -/
def px_bi (P : Prop) [Decidable P] : Int32 := if P then 1 else 0
theorem px_bi_0 (P : Prop) [Decidable P] : px_bi P = 0 ↔ ¬ P := by
  unfold px_bi
  by_cases h : P
  · rw [if_pos h]; exact ⟨fun z => absurd z (by decide), fun z => absurd h z⟩
  · rw [if_neg h]; exact ⟨fun _ => h, fun _ => rfl⟩
theorem pn_m1 {a : Nat} (ha : a < 2 ^ 31) : nI a = -1 ↔ False := ⟨fun h => absurd (show nI a < 0 by rw [h]; decide) (nI_pos ha), fun h => h.elim⟩
theorem pn_z {a : Nat} (ha : a < 2 ^ 31) : nI a = 0 ↔ a = 0 := by
  have := nI_eq (a := a) (b := 0) ha (by decide)
  rw [nI_0] at this; exact this
theorem pn_ltz {a : Nat} (ha : a < 2 ^ 31) : nI a < 0 ↔ False := ⟨fun h => absurd h (nI_pos ha), fun h => h.elim⟩
theorem pn_gez {a : Nat} (ha : a < 2 ^ 31) : 0 ≤ nI a ↔ True := ⟨fun _ => trivial, fun _ => nI_pos' ha⟩
theorem pn_gtz {a : Nat} (ha : a < 2 ^ 31) : 0 < nI a ↔ 0 < a := by
  have := nI_ltI (a := 0) (b := a) (by decide) ha
  rw [nI_0] at this; exact this
theorem pn_lez {a : Nat} (ha : a < 2 ^ 31) : nI a ≤ 0 ↔ a = 0 := by
  have := nI_leI (a := a) (b := 0) ha (by decide)
  rw [nI_0] at this; rw [this]; omega
theorem pn_i1 (a : Nat) : nI a + Int32.ofInt 1 = nI (a + 1) := nI_1 a
theorem pn_im1 {a : Nat} (h : 0 < a) : nI a + Int32.ofInt (-1) = nI (a - 1) := by
  obtain ⟨b, rfl⟩ : ∃ b, a = b + 1 := ⟨a - 1, by omega⟩
  exact pk_m1 b
section MMR2
variable {d mc ms : Nat} {Γ : px_Y} {Q : px_Q} {pc : Nat} {lv : List (Nat × px_V)} {st : List px_V} {M : px_M} {k n : Nat}
theorem pn_dconst0 (hd : decode Γ.2.1 pc = .ok (.dconst 0, 1)) (kk : px_W d mc ms Γ Q (pc + 1) lv (.inl (.double (dz 0)) :: st) M k n) : px_W d mc ms Γ Q pc lv st M k n := px_dconst0 hd (by rw [dz_0]; exact kk)
theorem pn_ldc2d {index : Nat} {v : UInt64} {z : Int} (hd : decode Γ.2.1 pc = .ok (.ldc2_w index, 3)) (hw : Cond.constantDouble Γ.1.cls index v ∈ px_T) (hz : v = dz z) (kk : px_W d mc ms Γ Q (pc + 3) lv (.inl (.double (dz z)) :: st) M k n) : px_W d mc ms Γ Q pc lv st M k n := px_ldc2d hd hw (by rw [hz]; exact kk)
theorem pn_ldc {index x : Nat} {v : Int32} (hd : decode Γ.2.1 pc = .ok (.ldc index, 2)) (hw : Cond.constant Γ.1.cls index v ∈ px_T) (hz : v = nI x) (kk : px_W d mc ms Γ Q (pc + 2) lv (.inl (.int (nI x)) :: st) M k n) : px_W d mc ms Γ Q pc lv st M k n := px_ldc hd hw (by rw [hz]; exact kk)
end MMR2
theorem px_o_s (a : Nat) : nI a = px_o (a + 1) := rfl
theorem px_o_n : (-1 : Int32) = px_o 0 := rfl
section MMR3
variable {d mc ms : Nat} {Γ : px_Y} {Q : px_Q} {pc : Nat} {lv : List (Nat × px_V)} {st : List px_V} {M : px_M} {k n : Nat}
theorem mm_rcv (s : mm_S) (X : px_M) : px_rcv (mm_M s X) (1, 0) RX5 := Or.inl ⟨5, mm_obj s.1, _, rfl, rfl, rfl⟩
/-- calls that return, what and where is told -/
theorem px_callVr {Γ' : px_Y} {d' mc' ms' idx nA : Nat} {As stk : List px_V} {r : px_R} {v : px_V} {M1 : px_M} (hM : px_Met d' mc' ms' Γ' (.inr r :: As) M (px_rt (some v) M1)) (hd : decode Γ.2.1 pc = .ok (.invokevirtual idx, 3)) (hl : px_lkV Γ.1.cls idx nA Γ') (hr : px_rcv M r Γ'.1.cls) (hs : stk = As.reverse ++ .inr r :: st) (hA : As.length = nA) (hdd : d' + 1 ≤ d) (hk : k + mc' ≤ mc) (hn : n + ms' ≤ ms) (hst : (st.map px_cat).sum ≤ 8)
    (kk : px_W d mc ms Γ Q (pc + 3) lv (v :: st) M1 (k + mc') (n + ms')) : px_W d mc ms Γ Q pc lv stk M k n :=
  px_callV hM hd hl hr hs hA hdd hk hn hst (fun v9 M' h => by
    obtain ⟨h1, h2⟩ := h
    cases h1; subst h2; exact kk) (fun E M' h => absurd h.1 (fun z => by cases z))
theorem px_callVv {Γ' : px_Y} {d' mc' ms' idx nA : Nat} {As stk : List px_V} {r : px_R} {M1 : px_M} (hM : px_Met d' mc' ms' Γ' (.inr r :: As) M (px_rt none M1)) (hd : decode Γ.2.1 pc = .ok (.invokevirtual idx, 3)) (hl : px_lkV Γ.1.cls idx nA Γ') (hr : px_rcv M r Γ'.1.cls) (hs : stk = As.reverse ++ .inr r :: st) (hA : As.length = nA) (hdd : d' + 1 ≤ d) (hk : k + mc' ≤ mc) (hn : n + ms' ≤ ms) (hst : (st.map px_cat).sum ≤ 8)
    (kk : px_W d mc ms Γ Q (pc + 3) lv st M1 (k + mc') (n + ms')) : px_W d mc ms Γ Q pc lv stk M k n :=
  px_callV hM hd hl hr hs hA hdd hk hn hst (fun v9 M' h => by
    obtain ⟨h1, h2⟩ := h
    cases h1; subst h2; exact kk) (fun E M' h => absurd h.1 (fun z => by cases z))
theorem px_callSr {Γ' : px_Y} {d' mc' ms' idx nA : Nat} {As stk : List px_V} {v : px_V} {M1 : px_M} (hM : px_Met d' mc' ms' Γ' As M (px_rt (some v) M1)) (hd : decode Γ.2.1 pc = .ok (.invokestatic idx, 3)) (hl : px_lkS Γ.1.cls idx nA Γ') (hs : stk = As.reverse ++ st) (hA : As.length = nA) (hdd : d' + 1 ≤ d) (hk : k + mc' ≤ mc) (hn : n + ms' ≤ ms) (hst : (st.map px_cat).sum ≤ 8)
    (kk : px_W d mc ms Γ Q (pc + 3) lv (v :: st) M1 (k + mc') (n + ms')) : px_W d mc ms Γ Q pc lv stk M k n :=
  px_callS hM hd hl hs hA hdd hk hn hst (fun v9 M' h => by
    obtain ⟨h1, h2⟩ := h
    cases h1; subst h2; exact kk) (fun E M' h => absurd h.1 (fun z => by cases z))
theorem px_callSv {Γ' : px_Y} {d' mc' ms' idx nA : Nat} {As stk : List px_V} {M1 : px_M} (hM : px_Met d' mc' ms' Γ' As M (px_rt none M1)) (hd : decode Γ.2.1 pc = .ok (.invokestatic idx, 3)) (hl : px_lkS Γ.1.cls idx nA Γ') (hs : stk = As.reverse ++ st) (hA : As.length = nA) (hdd : d' + 1 ≤ d) (hk : k + mc' ≤ mc) (hn : n + ms' ≤ ms) (hst : (st.map px_cat).sum ≤ 8)
    (kk : px_W d mc ms Γ Q (pc + 3) lv st M1 (k + mc') (n + ms')) : px_W d mc ms Γ Q pc lv stk M k n :=
  px_callS hM hd hl hs hA hdd hk hn hst (fun v9 M' h => by
    obtain ⟨h1, h2⟩ := h
    cases h1; subst h2; exact kk) (fun E M' h => absurd h.1 (fun z => by cases z))
end MMR3
/-! a whole row anew -/
def mm_R (s : mm_S) (k : Nat) (f : Nat → Nat) : mm_S := (s.1, px_upN s.2.1 k f, s.2.2)
def mm_T (s : mm_S) (k : Nat) (f : Nat → Int) : mm_S := (s.1, s.2.1, px_upN s.2.2 k f)
theorem mr_R1 (s : mm_S) (k : Nat) (f : Nat → Nat) : (mm_R s k f).1 = s.1 := rfl
theorem mr_Re (s : mm_S) (k : Nat) (f : Nat → Nat) : (mm_R s k f).2.1 k = f := if_pos rfl
theorem mr_Rn (s : mm_S) {k i : Nat} (f : Nat → Nat) (h : i ≠ k) : (mm_R s k f).2.1 i = s.2.1 i := if_neg h
theorem mr_R3 (s : mm_S) (k : Nat) (f : Nat → Nat) : (mm_R s k f).2.2 = s.2.2 := rfl
theorem mr_T1 (s : mm_S) (k : Nat) (f : Nat → Int) : (mm_T s k f).1 = s.1 := rfl
theorem mr_Te (s : mm_S) (k : Nat) (f : Nat → Int) : (mm_T s k f).2.2 k = f := if_pos rfl
theorem mr_Tn (s : mm_S) {k i : Nat} (f : Nat → Int) (h : i ≠ k) : (mm_T s k f).2.2 i = s.2.2 i := if_neg h
theorem mr_T2 (s : mm_S) (k : Nat) (f : Nat → Int) : (mm_T s k f).2.1 = s.2.1 := rfl
theorem mr_RA (s : mm_S) (k : Nat) (f : Nat → Nat) (j x : Nat) : mm_A (mm_R s k f) k j x = mm_R s k (px_upN f j x) := by
  unfold mm_A
  rw [mr_Re, mr_R1, mr_R3]
  refine Prod.ext rfl (Prod.ext (funext fun i => ?_) rfl)
  show px_upN (px_upN s.2.1 k f) k (px_upN f j x) i = px_upN s.2.1 k (px_upN f j x) i
  unfold px_upN
  split <;> rfl
theorem mr_TD (s : mm_S) (k : Nat) (f : Nat → Int) (j : Nat) (x : Int) : mm_D (mm_T s k f) k j x = mm_T s k (px_upN f j x) := by
  unfold mm_D
  rw [mr_Te, mr_T1, mr_T2]
  refine Prod.ext rfl (Prod.ext rfl (funext fun i => ?_))
  show px_upN (px_upN s.2.2 k f) k (px_upN f j x) i = px_upN s.2.2 k (px_upN f j x) i
  unfold px_upN
  split <;> rfl
theorem mr_R0 (s : mm_S) (k : Nat) : mm_R s k (s.2.1 k) = s := by
  refine Prod.ext rfl (Prod.ext (funext fun i => ?_) rfl)
  show px_upN s.2.1 k _ i = _
  unfold px_upN
  split
  · rename_i h; rw [h]
  · rfl
theorem mr_T0 (s : mm_S) (k : Nat) : mm_T s k (s.2.2 k) = s := by
  refine Prod.ext rfl (Prod.ext rfl (funext fun i => ?_))
  show px_upN s.2.2 k _ i = _
  unfold px_upN
  split
  · rename_i h; rw [h]
  · rfl
