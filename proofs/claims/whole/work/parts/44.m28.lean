/-! ===== the reference is made ===== -/
theorem O_RX4_3 : Cond.methodLink RX4 3 objectInit ∈ px_T ∧ Cond.instanceMethod objectInit ∈ px_T ∧ Cond.code objectInit ⟨#[0xb1]⟩ 1 none ∈ px_T := ⟨px_mem 71 (by decide +kernel) rfl, px_mem 72 (by decide +kernel) rfl, px_mem 73 (by decide +kernel) rfl⟩
theorem O_RX1_3 : Cond.methodLink RX1 3 objectInit ∈ px_T ∧ Cond.instanceMethod objectInit ∈ px_T ∧ Cond.code objectInit ⟨#[0xb1]⟩ 1 none ∈ px_T := ⟨px_mem 105 (by decide +kernel) rfl, px_mem 72 (by decide +kernel) rfl, px_mem 73 (by decide +kernel) rfl⟩
theorem O_RX3_1 : Cond.methodLink RX3 1 objectInit ∈ px_T ∧ Cond.instanceMethod objectInit ∈ px_T ∧ Cond.code objectInit ⟨#[0xb1]⟩ 1 none ∈ px_T := ⟨px_mem 114 (by decide +kernel) rfl, px_mem 72 (by decide +kernel) rfl, px_mem 73 (by decide +kernel) rfl⟩
theorem O_RX2_1 : Cond.methodLink RX2 1 objectInit ∈ px_T ∧ Cond.instanceMethod objectInit ∈ px_T ∧ Cond.code objectInit ⟨#[0xb1]⟩ 1 none ∈ px_T := ⟨px_mem 695 (by decide +kernel) rfl, px_mem 72 (by decide +kernel) rfl, px_mem 73 (by decide +kernel) rfl⟩
theorem O_RX0_1 : Cond.methodLink RX0 1 objectInit ∈ px_T ∧ Cond.instanceMethod objectInit ∈ px_T ∧ Cond.code objectInit ⟨#[0xb1]⟩ 1 none ∈ px_T := ⟨px_mem 878 (by decide +kernel) rfl, px_mem 72 (by decide +kernel) rfl, px_mem 73 (by decide +kernel) rfl⟩
theorem O_RX5_1 : Cond.methodLink RX5 1 objectInit ∈ px_T ∧ Cond.instanceMethod objectInit ∈ px_T ∧ Cond.code objectInit ⟨#[0xb1]⟩ 1 none ∈ px_T := ⟨px_mem 893 (by decide +kernel) rfl, px_mem 72 (by decide +kernel) rfl, px_mem 73 (by decide +kernel) rfl⟩
theorem O_RJxa1e45_1 : Cond.methodLink RJxa1e45 1 objectInit ∈ px_T ∧ Cond.instanceMethod objectInit ∈ px_T ∧ Cond.code objectInit ⟨#[0xb1]⟩ 1 none ∈ px_T := ⟨px_mem 85 (by decide +kernel) rfl, px_mem 72 (by decide +kernel) rfl, px_mem 73 (by decide +kernel) rfl⟩
/-- the first net: no pin, blocks and orders are NONE -/
def mm_0 : mm_S := (fun _ => 0, fun k j => if k = 14 then (if j < 10 then 0 else 1) else if k = 2 ∨ k = 18 then 1 else 0, fun _ _ => 0)
def mi_0 : mm_S := (fun _ => 0, fun k _ => if k = 14 then 1 else if k = 2 ∨ k = 18 then 1 else 0, fun _ _ => 0)
def mi_obj (K : List Nat) : List px_V := (List.range 31).map fun k => if k ∈ K then .inr (1, k) else px_dv (px_fty 5 k)
def mi (K : List Nat) (X : px_M) : px_M := fun r => if r.1 = 1 then (if r.2 = 0 then some (.inl (5, mi_obj K)) else if r.2 ∈ K then mm_cell mi_0 r.2 else none) else X r
theorem mi_new (K : List Nat) (X : px_M) {k : Nat} (h0 : k ≠ 0) (hk : k ∉ K) : mi K X (1, k) = none := by
  show (if 1 = 1 then (if k = 0 then _ else if k ∈ K then _ else none) else _) = none
  rw [if_pos rfl, if_neg h0, if_neg hk]
theorem mi_ob (K : List Nat) (X : px_M) : mi K X (1, 0) = some (.inl (5, mi_obj K)) := rfl
theorem mi_up {K : List Nat} {X : px_M} {k : Nat} {o : px_O} (h0 : k ≠ 0) (hk : k ∉ K) (ho : mm_cell mi_0 k = some o) (hs : (mi_obj K).set k (.inr (1, k)) = mi_obj (k :: K)) : px_up (px_up (mi K X) (1, k) o) (1, 0) (.inl (5, (mi_obj K).set k (.inr (1, k)))) = mi (k :: K) X := by
  rw [hs]
  funext r
  obtain ⟨a, b⟩ := r
  by_cases ha : a = 1
  · subst ha
    by_cases hb : b = 0
    · subst hb; rw [px_up_s, mi_ob]
    · rw [px_up_n _ _ (fun z => hb (congrArg Prod.snd z))]
      by_cases hbk : b = k
      · subst hbk
        rw [px_up_s]
        show _ = (if 1 = 1 then (if b = 0 then _ else if b ∈ b :: K then mm_cell mi_0 b else none) else _)
        rw [if_pos rfl, if_neg hb, if_pos List.mem_cons_self, ho]
      · rw [px_up_n _ _ (fun z => hbk (congrArg Prod.snd z))]
        show (if 1 = 1 then (if b = 0 then _ else if b ∈ K then mm_cell mi_0 b else none) else _) = (if 1 = 1 then (if b = 0 then _ else if b ∈ k :: K then mm_cell mi_0 b else none) else _)
        rw [if_pos rfl, if_pos rfl, if_neg hb, if_neg hb]
        by_cases hbK : b ∈ K
        · rw [if_pos hbK, if_pos (List.mem_cons_of_mem _ hbK)]
        · rw [if_neg hbK, if_neg (fun z => (List.mem_cons.mp z).elim hbk hbK)]
  · rw [px_up_n _ _ (fun z => ha (congrArg Prod.fst z)), px_up_n _ _ (fun z => ha (congrArg Prod.fst z))]
    show (if a = 1 then _ else _) = (if a = 1 then _ else _)
    rw [if_neg ha, if_neg ha]
def mi_t : Nat → Nat
  | 2 => 1
  | 3 => 2
  | _ => 0
theorem mi_z (k : Nat) (j : Nat) (h1 : k ≠ 14) (h2 : ¬ (k = 2 ∨ k = 18)) : nI (mi_0.2.1 k j) = 0 := by
  show nI (if k = 14 then 1 else if k = 2 ∨ k = 18 then 1 else 0) = 0
  rw [if_neg h1, if_neg h2]; exact nI_0
theorem mi_zo (k : Nat) (j : Nat) (h : k = 2 ∨ k = 14 ∨ k = 18) : px_o (mi_0.2.1 k j) = 0 := by
  rcases h with rfl | rfl | rfl <;> exact nI_0
theorem mi_len (K : List Nat) : (mi_obj K).length = 31 := by unfold mi_obj; rw [List.length_map, List.length_range]
theorem mi_get (K : List Nat) {i : Nat} (hi : i < 31) : (mi_obj K)[i]? = some (if i ∈ K then .inr (1, i) else px_dv (px_fty 5 i)) := by
  unfold mi_obj
  rw [List.getElem?_map, List.getElem?_range hi]; rfl
theorem mi_set (K : List Nat) {k : Nat} (hk : k < 31) : (mi_obj K).set k (.inr (1, k)) = mi_obj (k :: K) := by
  refine List.ext_getElem? fun i => ?_
  by_cases hi : i < 31
  · rw [mi_get (k :: K) hi]
    by_cases e : k = i
    · subst e
      rw [List.getElem?_set_self (by rw [mi_len]; exact hk), if_pos List.mem_cons_self]
    · rw [List.getElem?_set_ne e, mi_get K hi]
      by_cases hK : i ∈ K
      · rw [if_pos hK, if_pos (List.mem_cons_of_mem _ hK)]
      · rw [if_neg hK, if_neg (fun z => (List.mem_cons.mp z).elim (fun z => e z.symm) hK)]
  · rw [List.getElem?_eq_none (by rw [List.length_set, mi_len]; omega), List.getElem?_eq_none (by rw [mi_len]; omega)]
theorem mi_a0 (N : Nat) {f : Nat → Int32} (h : ∀ j, f j = 0) (ad : px_R → Nat) (cA : ClassId) : vp_cell cA (N, px_a ad (.inl f)) = arrV cA N (fun _ => defaultValue (px_ty 0)) := by
  show arrV cA N (fun j => Value.int (f j)) = _
  rw [show (fun j => Value.int (f j)) = fun _ => defaultValue (px_ty 0) from funext fun j => by rw [h j]; rfl]
theorem mi_a2 (N : Nat) {f : Nat → Int32} (h : ∀ j, f j = 0) (ad : px_R → Nat) (cA : ClassId) : vp_cell cA (N, px_a ad (.inl f)) = arrV cA N (fun _ => defaultValue (px_ty 2)) := by
  show arrV cA N (fun j => Value.int (f j)) = _
  rw [show (fun j => Value.int (f j)) = fun _ => defaultValue (px_ty 2) from funext fun j => by rw [h j]; rfl]
theorem mi_a1 (N : Nat) {f : Nat → UInt64} (h : ∀ j, f j = 0) (ad : px_R → Nat) (cA : ClassId) : vp_cell cA (N, px_a ad (.inr (.inr (.inl f)))) = arrV cA N (fun _ => defaultValue (px_ty 1)) := by
  show arrV cA N (fun j => Value.double (f j)) = _
  rw [show (fun j => Value.double (f j)) = fun _ => defaultValue (px_ty 1) from funext fun j => by rw [h j]; rfl]
/-- a row is made and kept in its field -/
theorem mi_step {d mc ms : Nat} {Γ : px_Y} {Q : px_Q} {pc : Nat} {lv : List (Nat × px_V)} {st : List px_V} {X : px_M} {k n t N kf index : Nat} {K : List Nat} {atype : ArrayType} {a0 : px_A} {x : Int32} (hd1 : decode Γ.2.1 pc = .ok (.newarray atype, 2)) (hd2 : decode Γ.2.1 (pc + 2) = .ok (.putfield index, 3)) (ht : newarray.typeOf atype = px_ty t) (ht4 : t < 4) (hw : Cond.arrayClass (px_ty t) ∈ px_T)
    (hG : ∃ q : vw_C, px_cl[5]? = some q ∧ kf < q.2.2 ∧ (q.2.1 kf).2.2.2 = true ∧ (q.2.1 kf).1 = Γ.1.cls ∧ Cond.fieldLink Γ.1.cls index (q.2.1 kf).1 (q.2.1 kf).2.1 (q.2.1 kf).2.2.1 ∈ px_T) (hni : Γ.1.name = "<init>") (h0 : kf ≠ 0) (hK : kf ∉ K) (hx : x = nI N) (hN : N ≤ 65536) (ho : mm_cell mi_0 kf = some (.inr (.inl (t, N, a0))))
    (ha : ∀ (ad : px_R → Nat) (cA : ClassId), vp_cell cA (N, px_a ad a0) = arrV cA N (fun _ => defaultValue (px_ty t))) (hcf : px_cf (mi K X) (.inr (.inl (t, N, a0)))) (hl : kf < 31) (hn2 : ∀ ad, narrow (px_fty 5 kf) (px_v ad (.inr (1, kf))) = px_v ad (.inr (1, kf)) ∧ fits (px_fty 5 kf) (px_v ad (.inr (1, kf))) = true) (hk : k + 1 ≤ mc) (hn : n + N ≤ ms)
    (kk : px_W d mc ms Γ Q (pc + 2 + 3) lv st (mi (kf :: K) X) (k + 1) (n + N)) : px_W d mc ms Γ Q pc lv (.inl (.int x) :: .inr (1, 0) :: st) (mi K X) k n := by
  refine px_newa (1, kf) hd1 ht ht4 hw (mi_new K X h0 hK) hx hN ha hcf hk hn ?_
  refine px_putF hd2 hG hni (show px_up (mi K X) (1, kf) _ (1, 0) = some (.inl (5, mi_obj K)) from ?_) (by rw [mi_len]; exact hl) hn2 ?_
  · rw [px_up_n _ _ (fun z => h0 (congrArg Prod.snd z).symm)]; exact mi_ob K X
  · rw [mi_up h0 hK ho (mi_set K hl)]; exact kk
