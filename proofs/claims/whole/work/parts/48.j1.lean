/-! ===== the JDK's own small methods; lists opened: an object of class 6 at r, its row at (99, k) ===== -/
abbrev je_ob (mo : Int32) (v : px_V) (x : Nat) : px_O := .inl (6, [.inl (.int mo), v, .inl (.int (nI x))])
abbrev je_ar (n : Nat) (f : Nat → Option px_R) : px_O := .inr (.inl (5, n, .inr (.inr (.inr f))))
set_option maxRecDepth 100000 in
set_option maxHeartbeats 4000000 in
theorem je_size {E : Nat × Nat} {M : px_M} {r : px_R} {mo : Int32} {v : px_V} {x : Nat} (hr : M r = some (je_ob mo v x)) : pe_Met E 0 0 0 mJx4a65c_size_8abf5 [.inr r] M (px_rt (some (.inl (.int (nI x)))) M) := by
  refine pe_ofW (by decide) W_mJx4a65c_size_8abf5 (Nat.le_of_ble_eq_true rfl) ?_
  refine pe_aload_n dJx4a65c_size_8abf5_0 rfl trivial ?_
  refine pe_getf dJx4a65c_size_8abf5_1 F_RJx4a65c_48 (hr) (by rfl) ?_
  refine pe_iret dJx4a65c_size_8abf5_4 rfl ?_ (by omega) (by omega)
  exact ⟨rfl, rfl⟩
set_option maxRecDepth 100000 in
set_option maxHeartbeats 4000000 in
theorem je_isEmpty {E : Nat × Nat} {M : px_M} {r : px_R} {mo : Int32} {v : px_V} {x : Nat} (hx : x < 2 ^ 31) (hr : M r = some (je_ob mo v x)) : pe_Met E 0 0 0 mJx4a65c_isEmpty_aae02 [.inr r] M (px_rt (some (.inl (.int (nI (if x = 0 then 1 else 0))))) M) := by
  refine pe_ofW (by decide) W_mJx4a65c_isEmpty_aae02 (Nat.le_of_ble_eq_true rfl) ?_
  refine pe_aload_n dJx4a65c_isEmpty_aae02_0 rfl trivial ?_
  refine pe_getf dJx4a65c_isEmpty_aae02_1 F_RJx4a65c_48 (hr) (by rfl) ?_
  refine pen_if_ne (tgt := 11) dJx4a65c_isEmpty_aae02_4 (by decide) (pn_z (by omega)) (fun h => ?_) (fun h => ?_)
  · refine pe_iconst (v := nI 0) dJx4a65c_isEmpty_aae02_11 (by decide) ?_
    refine pe_zret dJx4a65c_isEmpty_aae02_12 rfl (by decide) ⟨?_, rfl⟩ (by omega) (by omega)
    rw [if_neg h]
  · refine pe_iconst (v := nI 1) dJx4a65c_isEmpty_aae02_7 (by decide) ?_
    refine pe_goto (tgt := 12) dJx4a65c_isEmpty_aae02_8 (by decide) ?_
    refine pe_zret dJx4a65c_isEmpty_aae02_12 rfl (by decide) ⟨?_, rfl⟩ (by omega) (by omega)
    rw [if_pos h]
set_option maxRecDepth 100000 in
set_option maxHeartbeats 4000000 in
theorem je_chk3 {E : Nat × Nat} {M : px_M} {i n : Nat} (hi : i < n) (hn : n < 2 ^ 31) : pe_Met E 0 0 0 mJ3_checkIndex_8e157 [.inl (.int (nI i)), .inl (.int (nI n)), .inl .null] M (px_rt (some (.inl (.int (nI i)))) M) := by
  refine pe_ofW (by decide) W_mJ3_checkIndex_8e157 (Nat.le_of_ble_eq_true rfl) ?_
  refine pe_iload_n dJ3_checkIndex_8e157_0 rfl ?_
  refine pen_if_lt (tgt := 9) dJ3_checkIndex_8e157_1 (by decide) (pn_ltz (by omega)) (fun h => ?_) (fun h => ?_)
  · exact h.elim
  · refine pe_iload_n dJ3_checkIndex_8e157_4 rfl ?_
    refine pe_iload_n dJ3_checkIndex_8e157_5 rfl ?_
    refine pen_icmp_lt (tgt := 16) dJ3_checkIndex_8e157_6 (by decide) (nI_ltI (by omega) (by omega)) (fun h => ?_) (fun h => ?_)
    · refine pe_iload_n dJ3_checkIndex_8e157_16 rfl ?_
      refine pe_iret dJ3_checkIndex_8e157_17 rfl ?_ (by omega) (by omega)
      exact ⟨rfl, rfl⟩
    · omega
set_option maxRecDepth 100000 in
set_option maxHeartbeats 4000000 in
theorem je_chk {E : Nat × Nat} {M : px_M} {i n : Nat} (hi : i < n) (hn : n < 2 ^ 31) : pe_Met E 1 0 0 mJ15_checkIndex_7cf53 [.inl (.int (nI i)), .inl (.int (nI n))] M (px_rt (some (.inl (.int (nI i)))) M) := by
  refine pe_ofW (by decide) W_mJ15_checkIndex_7cf53 (Nat.le_of_ble_eq_true rfl) ?_
  refine pe_iload_n dJ15_checkIndex_7cf53_0 rfl ?_
  refine pe_iload_n dJ15_checkIndex_7cf53_1 rfl ?_
  refine pe_anull dJ15_checkIndex_7cf53_2 ?_
  refine pe_callSr (je_chk3 hi hn) dJ15_checkIndex_7cf53_3 L_RJ15_105 rfl rfl (by decide) (by omega) (by omega) (Nat.le_of_ble_eq_true rfl) ?_
  refine pe_iret dJ15_checkIndex_7cf53_6 rfl ?_ (by omega) (by omega)
  exact ⟨rfl, rfl⟩
section JE0
variable {E : Nat × Nat} {d mc ms : Nat} {Γ : px_Y} {Q : px_Q} {pc : Nat} {lv : List (Nat × px_V)} {st : List px_V} {M : px_M} {k n : Nat}
theorem je_cmax : Cond.code Lib.Math.max.name Lib.Math.max.code 2 (some .int) ∈ px_T := px_mem 333 (by decide +kernel) rfl
theorem je_cmin : Cond.code Lib.Math.min.name Lib.Math.min.code 2 (some .int) ∈ px_T := px_mem 365 (by decide +kernel) rfl
theorem pe_mmax {index a b : Nat} (hl : Cond.methodLink Γ.1.cls index Lib.Math.max.name ∈ px_T) (hd : decode Γ.2.1 pc = .ok (.invokestatic index, 3)) (ha : a < 2 ^ 31) (hb : b < 2 ^ 31) (hk : k ≤ mc) (hn : n ≤ ms) (hst : (st.map px_cat).sum ≤ 8)
    (kk : pe_W E d mc ms Γ Q (pc + 3) lv (.inl (.int (nI (max a b))) :: st) M k n) : pe_W E d mc ms Γ Q pc lv (.inl (.int (nI b)) :: .inl (.int (nI a)) :: st) M k n := by
  refine ⟨trivial, fun {p l e R s m args below meth c g P0 ad0} C {ad dd H locs ls} I => ?_⟩
  obtain ⟨hx, hb', hml, hrt, hlk, hown, hnm, hts, htb, hfl, hSt, hR⟩ := id C
  have e1 : (if nI a < nI b then nI b else nI a) = nI (max a b) := by
    by_cases h : a < b
    · rw [if_pos ((nI_ltI ha hb).mpr h), Nat.max_eq_right (by omega)]
    · rw [if_neg (fun z => h ((nI_ltI ha hb).mp z)), Nat.max_eq_left (by omega)]
  have k1 := kk.2 (e := e) (below := below) C (I.pop.pop.psh (v := .inl (.int (nI (max a b)))) trivial)
  rw [← e1] at k1
  exact va_mmax hx hb' (hml.trans I.siz.symm) hown (hts _ hl) (hts _ (px_mem 332 (by decide +kernel) rfl)) (hts _ (px_mem 51 (by decide +kernel) rfl)) (hts _ je_cmax) (by omega) (by rw [px_cats]; omega) (by omega) (by omega) hd k1
theorem pe_mmin {index a b : Nat} (hl : Cond.methodLink Γ.1.cls index Lib.Math.min.name ∈ px_T) (hd : decode Γ.2.1 pc = .ok (.invokestatic index, 3)) (ha : a < 2 ^ 31) (hb : b < 2 ^ 31) (hk : k ≤ mc) (hn : n ≤ ms) (hst : (st.map px_cat).sum ≤ 8)
    (kk : pe_W E d mc ms Γ Q (pc + 3) lv (.inl (.int (nI (min a b))) :: st) M k n) : pe_W E d mc ms Γ Q pc lv (.inl (.int (nI b)) :: .inl (.int (nI a)) :: st) M k n := by
  refine ⟨trivial, fun {p l e R s m args below meth c g P0 ad0} C {ad dd H locs ls} I => ?_⟩
  obtain ⟨hx, hb', hml, hrt, hlk, hown, hnm, hts, htb, hfl, hSt, hR⟩ := id C
  have e1 : (if nI b < nI a then nI b else nI a) = nI (min a b) := by
    by_cases h : b < a
    · rw [if_pos ((nI_ltI hb ha).mpr h), Nat.min_eq_right (by omega)]
    · rw [if_neg (fun z => h ((nI_ltI hb ha).mp z)), Nat.min_eq_left (by omega)]
  have k1 := kk.2 (e := e) (below := below) C (I.pop.pop.psh (v := .inl (.int (nI (min a b)))) trivial)
  rw [← e1] at k1
  exact va_mmin hx hb' (hml.trans I.siz.symm) hown (hts _ hl) (hts _ (px_mem 364 (by decide +kernel) rfl)) (hts _ (px_mem 51 (by decide +kernel) rfl)) (hts _ je_cmin) (by omega) (by rw [px_cats]; omega) (by omega) (by omega) hd k1
end JE0
set_option maxRecDepth 100000 in
set_option maxHeartbeats 4000000 in
theorem je_newLength {E : Nat × Nat} {M : px_M} {a b c : Nat} (ha : a < 2 ^ 28) (hb : b < 2 ^ 28) (hc : c < 2 ^ 28) (h0 : 0 < a + max b c) : pe_Met E 1 0 0 mJ8_newLength_cabcc [.inl (.int (nI a)), .inl (.int (nI b)), .inl (.int (nI c))] M (px_rt (some (.inl (.int (nI (a + max b c))))) M) := by
  refine pe_ofW (by decide) W_mJ8_newLength_cabcc (Nat.le_of_ble_eq_true rfl) ?_
  refine pe_iload_n dJ8_newLength_cabcc_0 rfl ?_
  refine pe_iload_n dJ8_newLength_cabcc_1 rfl ?_
  refine pe_iload_n dJ8_newLength_cabcc_2 rfl ?_
  refine pe_mmax (a := b) (b := c) (px_mem 331 (by decide +kernel) rfl) dJ8_newLength_cabcc_3 (by omega) (by omega) (by omega) (by omega) (Nat.le_of_ble_eq_true rfl) ?_
  refine pen_iadd dJ8_newLength_cabcc_6 (by first | exact nI_add _ _ | rfl) ?_
  refine pe_istore_n dJ8_newLength_cabcc_7 (by decide) ?_
  refine pe_iconst (v := nI 0) dJ8_newLength_cabcc_8 (by decide) ?_
  refine pe_iload_n dJ8_newLength_cabcc_9 rfl ?_
  refine pen_icmp_ge (tgt := 21) dJ8_newLength_cabcc_10 (by decide) (nI_leI (by omega) (by omega)) (fun h => ?_) (fun h => ?_)
  · omega
  · refine pe_iload_n dJ8_newLength_cabcc_13 rfl ?_
    refine pen_ldc (x := 2147483639) dJ8_newLength_cabcc_14 C_RJ8_200 (by decide) ?_
    refine pen_icmp_gt (tgt := 21) dJ8_newLength_cabcc_16 (by decide) (nI_ltI (by omega) (by omega)) (fun h => ?_) (fun h => ?_)
    · omega
    · refine pe_iload_n dJ8_newLength_cabcc_19 rfl ?_
      refine pe_iret dJ8_newLength_cabcc_20 rfl ?_ (by omega) (by omega)
      exact ⟨rfl, rfl⟩
theorem je_cpy {xs : List px_R} {z n : Nat} (h : xs.length ≤ z) : va_cpy (fun i => xs[i]?) (fun _ => none) 0 0 z = fun i : Nat => xs[i]? := by
  funext i
  unfold va_cpy
  by_cases h1 : i < z
  · rw [if_pos ⟨Nat.zero_le _, by omega⟩, Nat.zero_add, Nat.sub_zero]
  · rw [if_neg (by omega), List.getElem?_eq_none (by omega)]
set_option maxRecDepth 100000 in
set_option maxHeartbeats 4000000 in
theorem je_copyOf3 {E : Nat × Nat} {M : px_M} {q q' : px_R} {xs : List px_R} {n N : Nat} (hq : M q = some (je_ar n fun i => xs[i]?)) (hx : xs.length ≤ n) (hN : xs.length ≤ N) (hn : n ≤ 65536) (hN' : N ≤ 65536) (hq' : M q' = none) (hob : ∀ x ∈ xs, px_obs M x) : pe_Met E 1 1 N mJ7_copyOf_6403c [.inr q, .inl (.int (nI N)), .inl (.ref E.2)] M (px_rt (some (.inr q')) (px_up M q' (je_ar N fun i => xs[i]?))) := by
  refine pe_ofW (by decide) W_mJ7_copyOf_6403c (Nat.le_of_ble_eq_true rfl) ?_
  have hne : q ≠ q' := fun e => by rw [e, hq'] at hq; cases hq
  refine pe_aload_n dJ7_copyOf_6403c_0 rfl trivial ?_
  refine pe_ldcM rfl dJ7_copyOf_6403c_1 ?_
  refine pe_acmp_neE (tgt := 13) dJ7_copyOf_6403c_3 (by decide) ?_
  refine pe_iload_n dJ7_copyOf_6403c_6 rfl ?_
  refine pe_newq (t := 5) (nm := "java/lang/Object") q' dJ7_copyOf_6403c_7 (Or.inr ⟨rfl, rfl⟩) K_RJ7_2 hq' rfl hN' (by omega) (by omega) ?_
  refine pe_goto (tgt := 24) dJ7_copyOf_6403c_10 (by decide) ?_
  refine pe_astore_n dJ7_copyOf_6403c_24 (by decide) trivial ?_
  refine pe_aload_n dJ7_copyOf_6403c_25 rfl trivial ?_
  refine pe_iconst (v := nI 0) dJ7_copyOf_6403c_26 (by decide) ?_
  refine pe_aload_n dJ7_copyOf_6403c_27 rfl trivial ?_
  refine pe_iconst (v := nI 0) dJ7_copyOf_6403c_28 (by decide) ?_
  refine pe_aload_n dJ7_copyOf_6403c_29 rfl trivial ?_
  refine pe_alen dJ7_copyOf_6403c_30 ((px_up_n _ _ hne).trans hq) (by decide) ?_
  refine pe_iload_n dJ7_copyOf_6403c_31 rfl ?_
  refine pe_mmin (a := n) (b := N) (px_mem 363 (by decide +kernel) rfl) dJ7_copyOf_6403c_32 (by omega) (by omega) (by omega) (by omega) (Nat.le_of_ble_eq_true rfl) ?_
  refine pe_copy (j := 0) (j' := 0) (z := min n N) dJ7_copyOf_6403c_35 (px_mem 366 (by decide +kernel) rfl) ((px_up_n _ _ hne).trans hq) (px_up_s _ _ _) rfl rfl rfl (by omega) (by omega) hn hN' ?_ (Nat.le_of_ble_eq_true rfl) ?_
  · intro i y hi hy
    rw [Nat.zero_add] at hy
    obtain ⟨ci, fs, q0, h1, h2⟩ := hob y (List.mem_of_getElem? hy)
    refine ⟨ci, fs, q0, (px_up_n _ _ fun e => ?_).trans h1, h2⟩
    rw [e, hq'] at h1; cases h1
  refine pe_aload_n dJ7_copyOf_6403c_38 rfl trivial ?_
  refine pe_aret dJ7_copyOf_6403c_39 rfl (Or.inr ⟨_, rfl⟩) trivial ?_ (by omega) (by omega)
  refine ⟨rfl, ?_⟩
  rw [je_cpy (n := n) (by omega)]
  funext x
  unfold px_up
  split <;> rfl
set_option maxRecDepth 100000 in
set_option maxHeartbeats 4000000 in
theorem je_copyOf2 {E : Nat × Nat} {M : px_M} {q q' : px_R} {xs : List px_R} {n N : Nat} (hq : M q = some (je_ar n fun i => xs[i]?)) (hx : xs.length ≤ n) (hN : xs.length ≤ N) (hn : n ≤ 65536) (hN' : N ≤ 65536) (hq' : M q' = none) (hob : ∀ x ∈ xs, px_obs M x) : pe_Met E 2 1 N mJ7_copyOf_1904c [.inr q, .inl (.int (nI N))] M (px_rt (some (.inr q')) (px_up M q' (je_ar N fun i => xs[i]?))) := by
  refine pe_ofW (by decide) W_mJ7_copyOf_1904c (Nat.le_of_ble_eq_true rfl) ?_
  refine pe_aload_n dJ7_copyOf_1904c_0 rfl trivial ?_
  refine pe_iload_n dJ7_copyOf_1904c_1 rfl ?_
  refine pe_aload_n dJ7_copyOf_1904c_2 rfl trivial ?_
  refine pe_getC rfl dJ7_copyOf_1904c_3 hq (Nat.le_of_ble_eq_true rfl) ?_
  refine pe_callSr (je_copyOf3 hq hx hN hn hN' hq' hob) dJ7_copyOf_1904c_6 L_RJ7_300 rfl rfl (by decide) (by omega) (by omega) (Nat.le_of_ble_eq_true rfl) ?_
  refine pe_aret dJ7_copyOf_1904c_9 rfl (Or.inr ⟨_, rfl⟩) trivial ?_ (by omega) (by omega)
  exact ⟨rfl, rfl⟩
/-- a list opened: without a row of its own, or with one of n places -/
def je_fr (M0 : px_M) (r : px_R) (k : Nat) (M : px_M) : Prop := (∀ x, x ≠ r → x.1 ≠ 99 → M x = M0 x) ∧ ∀ j, k < j → M (99, j) = none
def je_n (M0 : px_M) (r : px_R) (xs : List px_R) (mo : Int32) (k n : Nat) (M : px_M) : Prop :=
  M r = some (je_ob mo (.inr (99, k)) xs.length) ∧ M (99, k) = some (je_ar n fun i => xs[i]?) ∧ xs.length ≤ n ∧ n ≤ 65536 ∧ je_fr M0 r k M
def je_z (E : Nat × Nat) (M0 : px_M) (r : px_R) (mo : Int32) (M : px_M) : Prop := M r = some (je_ob mo (.inl (.ref E.1)) 0) ∧ (∀ x, x ≠ r → x.1 ≠ 99 → M x = M0 x) ∧ ∀ j, M (99, j) = none
def je_el (M0 : px_M) (r : px_R) (xs : List px_R) : Prop := r.1 ≠ 99 ∧ ∀ x ∈ xs, x ≠ r ∧ x.1 ≠ 99 ∧ px_obs M0 x
theorem je_el.obs {M0 M : px_M} {r : px_R} {xs : List px_R} (h : je_el M0 r xs) (hf : ∀ x, x ≠ r → x.1 ≠ 99 → M x = M0 x) : ∀ x ∈ xs, px_obs M x := fun x hx => by
  obtain ⟨h1, h2, ci, fs, q, h3, h4⟩ := h.2 x hx
  exact ⟨ci, fs, q, (hf x h1 h2).trans h3, h4⟩
theorem je_r9 {r : px_R} {k : Nat} (h : r.1 ≠ 99) : r ≠ (99, k) := fun e => h (congrArg Prod.fst e)
theorem je_k9 {k j : Nat} (h : k ≠ j) : ((99, k) : px_R) ≠ (99, j) := fun e => h (congrArg Prod.snd e)
set_option maxRecDepth 100000 in
set_option maxHeartbeats 4000000 in
theorem je_grow1z {E : Nat × Nat} {M0 M : px_M} {r : px_R} {mo : Int32} {mn : Nat} (h9 : r.1 ≠ 99) (h : je_z E M0 r mo M) (hm : mn ≤ 300) : pe_Met E 1 1 (max 10 mn) mJx4a65c_grow_92f84 [.inr r, .inl (.int (nI mn))] M (fun o M' => o = .inl (some (.inr (99, 0))) ∧ je_n M0 r [] mo 0 (max 10 mn) M') := by
  refine pe_ofW (by decide) W_mJx4a65c_grow_92f84 (Nat.le_of_ble_eq_true rfl) ?_
  refine pe_aload_n dJx4a65c_grow_92f84_0 rfl trivial ?_
  refine pe_getf dJx4a65c_grow_92f84_1 F_RJx4a65c_9 (h.1) (by rfl) ?_
  refine pe_alenE dJx4a65c_grow_92f84_4 ?_
  refine pe_istore_n dJx4a65c_grow_92f84_5 (by decide) ?_
  refine pe_iload_n dJx4a65c_grow_92f84_6 rfl ?_
  refine pen_if_gt (tgt := 20) dJx4a65c_grow_92f84_7 (by decide) (pn_gtz (by omega)) (fun h7 => ?_) (fun h7 => ?_)
  · omega
  refine pe_aload_n dJx4a65c_grow_92f84_10 rfl trivial ?_
  refine pe_getf dJx4a65c_grow_92f84_11 F_RJx4a65c_9 (h.1) (by rfl) ?_
  refine pe_getsE dJx4a65c_grow_92f84_14 (px_mem 86 (by decide +kernel) rfl) ?_
  refine pe_acmp_eqE (tgt := 45) dJx4a65c_grow_92f84_17 (by decide) ?_
  refine pe_aload_n dJx4a65c_grow_92f84_45 rfl trivial ?_
  refine pe_bipush (v := nI 10) dJx4a65c_grow_92f84_46 (by decide) ?_
  refine pe_iload_n dJx4a65c_grow_92f84_48 rfl ?_
  refine pe_mmax (a := 10) (b := mn) (px_mem 367 (by decide +kernel) rfl) dJx4a65c_grow_92f84_49 (by omega) (by omega) (by omega) (by omega) (Nat.le_of_ble_eq_true rfl) ?_
  refine pe_newq (t := 5) (nm := "java/lang/Object") (99, 0) dJx4a65c_grow_92f84_52 (Or.inr ⟨rfl, rfl⟩) K_RJx4a65c_7 (h.2.2 0) rfl (by omega) (by omega) (by omega) ?_
  refine pe_dup_x1 dJx4a65c_grow_92f84_55 rfl rfl ?_
  refine pe_putf dJx4a65c_grow_92f84_56 F_RJx4a65c_9 nf_6_1 (((px_up_n _ _ (je_r9 h9)).trans h.1)) (Nat.le_of_ble_eq_true rfl) (fun _ => ⟨rfl, rfl⟩) ?_
  refine pe_aret dJx4a65c_grow_92f84_59 rfl (Or.inr ⟨_, rfl⟩) trivial ?_ (by omega) (by omega)
  refine ⟨rfl, px_up_s _ _ _, (px_up_n _ _ (je_r9 h9).symm).trans ((px_up_s _ _ _).trans ?_), Nat.zero_le _, by omega, fun x hx hx9 => ?_, fun j hj => ?_⟩
  · rfl
  · rw [px_up_n _ _ hx, px_up_n _ _ (je_r9 hx9), h.2.1 x hx hx9]
  · rw [px_up_n _ _ (je_r9 h9).symm, px_up_n _ _ (je_k9 (by omega)), h.2.2 j]
set_option maxRecDepth 100000 in
set_option maxHeartbeats 4000000 in
theorem je_grow1n {E : Nat × Nat} {M0 M : px_M} {r : px_R} {xs : List px_R} {mo : Int32} {k n mn : Nat} (he : je_el M0 r xs) (h : je_n M0 r xs mo k n M) (hm : mn ≤ 200) (hmn : n ≤ mn) (h0 : 0 < mn) : pe_Met E 3 1 (n + max (mn - n) (n / 2)) mJx4a65c_grow_92f84 [.inr r, .inl (.int (nI mn))] M (fun o M' => o = .inl (some (.inr (99, k + 1))) ∧ je_n M0 r xs mo (k + 1) (n + max (mn - n) (n / 2)) M') := by
  refine pe_ofW (by decide) W_mJx4a65c_grow_92f84 (Nat.le_of_ble_eq_true rfl) ?_
  have h9 := he.1
  obtain ⟨h1, h2, h3, h4, h5, h6⟩ := id h
  have tail : pe_W E 3 1 (n + max (mn - n) (n / 2)) mJx4a65c_grow_92f84 (fun o M' => o = .inl (some (.inr (99, k + 1))) ∧ je_n M0 r xs mo (k + 1) (n + max (mn - n) (n / 2)) M') 20 [(0, .inr r), (1, .inl (.int (nI mn))), (2, .inl (.int (nI n)))] [] M 0 0 := by
    refine pe_iload_n dJx4a65c_grow_92f84_20 rfl ?_
    refine pe_iload_n dJx4a65c_grow_92f84_21 rfl ?_
    refine pe_iload_n dJx4a65c_grow_92f84_22 rfl ?_
    refine pen_isub dJx4a65c_grow_92f84_23 (by first | exact pk_sub (by omega) | rfl) ?_
    refine pe_iload_n dJx4a65c_grow_92f84_24 rfl ?_
    refine pe_iconst (v := nI 1) dJx4a65c_grow_92f84_25 (by decide) ?_
    refine pe_ishr dJx4a65c_grow_92f84_26 ?_
    have es : nI n >>> (nI 1 &&& 31) = nI (n / 2) := by
      have k := pk_shrN (n := n) (by omega) (nI 1 &&& 31) 1 (by decide)
      rw [Nat.pow_one] at k
      exact k
    rw [es]
    refine pe_callSr (je_newLength (a := n) (b := mn - n) (c := n / 2) (by omega) (by omega) (by omega) (by omega)) dJx4a65c_grow_92f84_27 L_RJx4a65c_73 rfl rfl (by decide) (by omega) (by omega) (Nat.le_of_ble_eq_true rfl) ?_
    refine pe_istore_n dJx4a65c_grow_92f84_30 (by decide) ?_
    refine pe_aload_n dJx4a65c_grow_92f84_31 rfl trivial ?_
    refine pe_aload_n dJx4a65c_grow_92f84_32 rfl trivial ?_
    refine pe_getf dJx4a65c_grow_92f84_33 F_RJx4a65c_9 (h1) (by rfl) ?_
    refine pe_iload_n dJx4a65c_grow_92f84_36 rfl ?_
    refine pe_callSr (je_copyOf2 (q' := (99, k + 1)) h2 h3 (by omega) (by omega) (by omega) (h6 _ (by omega)) (he.obs h5)) dJx4a65c_grow_92f84_37 L_RJx4a65c_66 rfl rfl (by decide) (by omega) (by omega) (Nat.le_of_ble_eq_true rfl) ?_
    refine pe_dup_x1 dJx4a65c_grow_92f84_40 rfl rfl ?_
    refine pe_putf dJx4a65c_grow_92f84_41 F_RJx4a65c_9 nf_6_1 (((px_up_n _ _ (je_r9 h9)).trans h1)) (Nat.le_of_ble_eq_true rfl) (fun _ => ⟨rfl, rfl⟩) ?_
    refine pe_aret dJx4a65c_grow_92f84_44 rfl (Or.inr ⟨_, rfl⟩) trivial ?_ (by omega) (by omega)
    refine ⟨rfl, px_up_s _ _ _, (px_up_n _ _ (je_r9 h9).symm).trans (px_up_s _ _ _), by omega, by omega, fun x hx hx9 => ?_, fun j hj => ?_⟩
    · rw [px_up_n _ _ hx, px_up_n _ _ (je_r9 hx9), h5 x hx hx9]
    · rw [px_up_n _ _ (je_r9 h9).symm, px_up_n _ _ (je_k9 (by omega)), h6 j (by omega)]
  refine pe_aload_n dJx4a65c_grow_92f84_0 rfl trivial ?_
  refine pe_getf dJx4a65c_grow_92f84_1 F_RJx4a65c_9 (h1) (by rfl) ?_
  refine pe_alen dJx4a65c_grow_92f84_4 h2 (by decide) ?_
  refine pe_istore_n dJx4a65c_grow_92f84_5 (by decide) ?_
  refine pe_iload_n dJx4a65c_grow_92f84_6 rfl ?_
  refine pen_if_gt (tgt := 20) dJx4a65c_grow_92f84_7 (by decide) (pn_gtz (by omega)) (fun h7 => ?_) (fun h7 => ?_)
  · exact pe_sub tail rfl
  refine pe_aload_n dJx4a65c_grow_92f84_10 rfl trivial ?_
  refine pe_getf dJx4a65c_grow_92f84_11 F_RJx4a65c_9 (h1) (by rfl) ?_
  refine pe_getsE dJx4a65c_grow_92f84_14 (px_mem 86 (by decide +kernel) rfl) ?_
  refine pe_acmp_eqN (tgt := 45) dJx4a65c_grow_92f84_17 (by decide) ?_
  exact pe_sub tail rfl
