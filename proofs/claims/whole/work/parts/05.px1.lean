/-! ===== the judgement px_W: method Γ stands at pc, with locals lv, stack st, world M; it comes to an end that Q allows ===== -/
abbrev px_Y : Type := MethodName × ByteArray × Nat × Option FieldType × List (Nat × Nat × Nat × Nat)
abbrev px_Q : Type := (Option px_V ⊕ String) → px_M → Prop
def px_T : List Cond := lw_tbl.filter goodWord
def px_cw (Γ : px_Y) : Cond := match Γ.2.2.2.2 with
  | [] => .code Γ.1 Γ.2.1 Γ.2.2.1 Γ.2.2.2.1
  | h :: hh => .codeWith Γ.1 Γ.2.1 Γ.2.2.1 Γ.2.2.2.1 (h :: hh)
def px_ws (Γ : px_Y) : List Cond := px_cw Γ :: px_T
def px_rm (d mc ms : Nat) : Room := { frames := d + 8, cells := mc, slots := ms, locals := 60 * d + 200 }
def px_l (ad : px_R → Nat) (lv : List (Nat × px_V)) : List (Nat × Value) := lv.map fun q => (q.1, px_v ad q.2)
def px_cat : px_V → Nat
  | .inl v => v.category
  | .inr _ => 1
theorem px_cat_v (ad : px_R → Nat) (v : px_V) : (px_v ad v).category = px_cat v := by cases v <;> rfl
def px_get : List (Nat × px_V) → Nat → Option px_V
  | [], _ => none
  | q :: l, i => match Nat.beq q.1 i with
    | true => some q.2
    | false => px_get l i
def px_st1 (i : Nat) (v : px_V) (lv : List (Nat × px_V)) : List (Nat × px_V) := (i, v) :: lv.filter (fun q => !(q.1 == i) && !(q.1 + 1 == i && px_cat q.2 == 2))
def px_st2 (i : Nat) (v : px_V) (lv : List (Nat × px_V)) : List (Nat × px_V) := (i, v) :: lv.filter (fun q => !(q.1 == i) && (!(q.1 == i + 1) && !(q.1 + 1 == i && px_cat q.2 == 2)))
theorem px_get_mem : ∀ {lv : List (Nat × px_V)} {i : Nat} {v : px_V}, px_get lv i = some v → (i, v) ∈ lv
  | q :: l, i, v, h => by
    unfold px_get at h
    cases e : Nat.beq q.1 i with
    | true =>
      rw [e] at h
      have e1 : q.1 = i := Nat.eq_of_beq_eq_true e
      have e2 : q.2 = v := Option.some.inj h
      exact List.mem_cons.mpr (Or.inl (by rw [← e1, ← e2]))
    | false =>
      rw [e] at h
      exact List.mem_cons_of_mem _ (px_get_mem h)
theorem px_l_st1 (ad : px_R → Nat) (i : Nat) (v : px_V) (lv : List (Nat × px_V)) : (i, px_v ad v) :: (px_l ad lv).filter (fun q => !(q.1 == i) && !(q.1 + 1 == i && q.2.category == 2)) = px_l ad (px_st1 i v lv) := by
  simp only [px_l, px_st1, List.map_cons, List.filter_map, Function.comp_def, px_cat_v]
theorem px_l_st2 (ad : px_R → Nat) (i : Nat) (v : px_V) (lv : List (Nat × px_V)) : (i, px_v ad v) :: (px_l ad lv).filter (fun q => !(q.1 == i) && (!(q.1 == i + 1) && !(q.1 + 1 == i && q.2.category == 2))) = px_l ad (px_st2 i v lv) := by
  simp only [px_l, px_st2, List.map_cons, List.filter_map, Function.comp_def, px_cat_v]
/-- the machine under a method's body, the same all along -/
def px_C (d mc ms : Nat) (Γ : px_Y) (g : px_G) (p : Program) (l : Launch) (R : Room) (s : State) (m : MethodId) (args : Array Value) (meth : Method) (c : Code) : Prop :=
  p.tables.exec = Jvm.exec ∧ c.code = Γ.2.1 ∧ c.maxLocals = Γ.2.2.1 ∧ meth.sig.returnType = Γ.2.2.2.1 ∧ meth.locks = false ∧ s.vm.findClass Γ.1.cls = some m.cls ∧ meth.name = Γ.1.name ∧
  (∀ w ∈ px_T, w.before args s = true) ∧ c.exceptionTable.toList = tableOf Γ.2.2.2.2 ∧ l.flags = flags0 ∧ px_St g s ∧ (d + 8 ≤ R.frames ∧ 60 * d + 200 ≤ R.locals ∧ mc ≤ R.cells ∧ ms ≤ R.slots)
/-- how the machine holds what px_W says -/
def px_I (g : px_G) (P0 : px_R → Prop) (ad0 : px_R → Nat) (s : State) (nL : Nat) (lv : List (Nat × px_V)) (st : List px_V) (M : px_M) (ad dd : px_R → Nat) (H : Heap) (locs : List Loc) (ls : Array Slot) : Prop :=
  px_Vw g ad dd M H ∧ (∀ q ∈ lv, px_wf M q.2) ∧ (∀ v ∈ st, px_wf M v) ∧ (∀ r, P0 r → M r ≠ none ∧ ad r = ad0 r) ∧ va_S (px_AA g) s.heap H locs ∧ lv_has ls nL (px_l ad lv)
def px_Qc (g : px_G) (P0 : px_R → Prop) (ad0 : px_R → Nat) (Q : px_Q) : Array Value → State → Outcome → State → Prop := fun _ st o t =>
  ∃ (v : Option px_V) (M : px_M) (ad dd : px_R → Nat), o = .returned (v.map (px_v ad)) ∧ Q (.inl v) M ∧ (∀ w, v = some w → px_wf M w) ∧ px_Vw g ad dd M t.heap ∧ (∀ r, P0 r → M r ≠ none ∧ ad r = ad0 r) ∧ va_F (px_AA g) st t
def px_XC (g : px_G) (P0 : px_R → Prop) (ad0 : px_R → Nat) (Q : px_Q) : String → State → State → Prop := fun E st t =>
  ∃ (M : px_M) (ad dd : px_R → Nat), Q (.inr E) M ∧ px_Vw g ad dd M t.heap ∧ (∀ r, P0 r → M r ≠ none ∧ ad r = ad0 r) ∧ va_F (px_AA g) st t
def px_W (d mc ms : Nat) (Γ : px_Y) (Q : px_Q) (pc : Nat) (lv : List (Nat × px_V)) (st : List px_V) (M : px_M) (k n : Nat) : Prop :=
  True ∧ ∀ {p : Program} {l : Launch} {e : Env} {R : Room} {s : State} {m : MethodId} {args : Array Value} {below : List Frame} {meth : Method} {c : Code} {g : px_G} {P0 : px_R → Prop} {ad0 : px_R → Nat}, px_C d mc ms Γ g p l R s m args meth c →
    ∀ {ad dd : px_R → Nat} {H : Heap} {locs : List Loc} {ls : Array Slot}, px_I g P0 ad0 s Γ.2.2.1 lv st M ad dd H locs ls →
      W p l e R s m args below meth c H locs k n (vx_MQ below (px_Qc g P0 ad0 Q) (px_XC g P0 ad0 Q) args s mc ms (px_AA g)) (F0 m pc ls (st.map (px_v ad)))
/-- .. and E is thrown there, and not yet caught -/
def px_X (d mc ms : Nat) (Γ : px_Y) (Q : px_Q) (pc : Nat) (lv : List (Nat × px_V)) (E : String) (M : px_M) (k n : Nat) : Prop :=
  True ∧ ∀ {p : Program} {l : Launch} {e : Env} {R : Room} {s : State} {m : MethodId} {args : Array Value} {below : List Frame} {meth : Method} {c : Code} {g : px_G} {P0 : px_R → Prop} {ad0 : px_R → Nat}, px_C d mc ms Γ g p l R s m args meth c →
    ∀ {ad dd : px_R → Nat} {H : Heap} {locs : List Loc} {ls : Array Slot} {q : Addr} {ce : Cell} {rest : List Value}, px_I g P0 ad0 s Γ.2.2.1 lv [] M ad dd H locs ls → H[q]? = some ce → ce.vm = .none → s.vm.findClass E = some ce.cls →
      vx_W p l e R s m args below meth c H locs k n (vx_MQ below (px_Qc g P0 ad0 Q) (px_XC g P0 ad0 Q) args s mc ms (px_AA g)) (F0 m pc ls rest) q
/-- a method's contract, from a world M with arguments As -/
def px_Met (d mc ms : Nat) (Γ : px_Y) (As : List px_V) (M : px_M) (Q : px_Q) : Prop :=
  ∀ (l : Launch), l.flags = flags0 → (∀ v ∈ As, px_wf M v) → ∀ (g : px_G) (ad dd : px_R → Nat), vx_Met l Γ.1 (px_ws Γ) (px_rm d mc ms) (va_Pc (As.map (px_v ad)) (fun U => px_St g U ∧ px_Vw g ad dd M U.heap)) (px_Qc g (fun r => M r ≠ none) ad Q) (px_XC g (fun r => M r ≠ none) ad Q) mc ms (px_AA g)
section PXI
variable {g : px_G} {P0 : px_R → Prop} {ad0 : px_R → Nat} {s : State} {nL : Nat} {lv : List (Nat × px_V)} {st : List px_V} {M : px_M} {ad dd : px_R → Nat} {H : Heap} {locs : List Loc} {ls : Array Slot}
theorem px_I.pop {v : px_V} (I : px_I g P0 ad0 s nL lv (v :: st) M ad dd H locs ls) : px_I g P0 ad0 s nL lv st M ad dd H locs ls := ⟨I.1, I.2.1, fun w h => I.2.2.1 w (List.mem_cons_of_mem _ h), I.2.2.2⟩
theorem px_I.psh {v : px_V} (I : px_I g P0 ad0 s nL lv st M ad dd H locs ls) (h : px_wf M v) : px_I g P0 ad0 s nL lv (v :: st) M ad dd H locs ls := ⟨I.1, I.2.1, fun w h' => (List.mem_cons.mp h').elim (fun e => e ▸ h) (I.2.2.1 w), I.2.2.2⟩
theorem px_I.top {v : px_V} (I : px_I g P0 ad0 s nL lv (v :: st) M ad dd H locs ls) : px_wf M v := I.2.2.1 v List.mem_cons_self
theorem px_I.loc (I : px_I g P0 ad0 s nL lv st M ad dd H locs ls) {i : Nat} {v : px_V} (h : px_get lv i = some v) : ls[i]? = some (.val (px_v ad v)) := I.2.2.2.2.2.2.2 (i, px_v ad v) (List.mem_map.mpr ⟨(i, v), px_get_mem h, rfl⟩)
theorem px_I.lwf (I : px_I g P0 ad0 s nL lv st M ad dd H locs ls) {i : Nat} {v : px_V} (h : px_get lv i = some v) : px_wf M v := I.2.1 (i, v) (px_get_mem h)
theorem px_I.has (I : px_I g P0 ad0 s nL lv st M ad dd H locs ls) : lv_has ls nL (px_l ad lv) := I.2.2.2.2.2
theorem px_I.siz (I : px_I g P0 ad0 s nL lv st M ad dd H locs ls) : ls.size = nL := I.2.2.2.2.2.1
theorem px_I.str1 {i : Nat} {v : px_V} (I : px_I g P0 ad0 s nL lv (v :: st) M ad dd H locs ls) {ls' : Array Slot} (h : lv_has ls' nL (px_l ad (px_st1 i v lv))) : px_I g P0 ad0 s nL (px_st1 i v lv) st M ad dd H locs ls' :=
  ⟨I.1, fun q hq => by
    rcases List.mem_cons.mp hq with e | hq
    · rw [e]; exact I.top
    · exact I.2.1 q (List.mem_filter.mp hq).1, I.pop.2.2.1, I.2.2.2.1, I.2.2.2.2.1, h⟩
theorem px_I.str2 {i : Nat} {v : px_V} (I : px_I g P0 ad0 s nL lv (v :: st) M ad dd H locs ls) {ls' : Array Slot} (h : lv_has ls' nL (px_l ad (px_st2 i v lv))) : px_I g P0 ad0 s nL (px_st2 i v lv) st M ad dd H locs ls' :=
  ⟨I.1, fun q hq => by
    rcases List.mem_cons.mp hq with e | hq
    · rw [e]; exact I.top
    · exact I.2.1 q (List.mem_filter.mp hq).1, I.pop.2.2.1, I.2.2.2.1, I.2.2.2.2.1, h⟩
end PXI
section PX1
variable {d mc ms : Nat} {Γ : px_Y} {Q : px_Q} {pc : Nat} {lv : List (Nat × px_V)} {st : List px_V} {M : px_M} {k n : Nat}
/-- fewer or reordered locals; more room used -/
theorem px_sub {lv' : List (Nat × px_V)} (kk : px_W d mc ms Γ Q pc lv' st M k n) (h : lv'.map (fun q => px_get lv q.1) = lv'.map (fun q => some q.2)) : px_W d mc ms Γ Q pc lv st M k n := by
  refine ⟨trivial, fun {p l e R s m args below meth c g P0 ad0} C {ad dd H locs ls} I => ?_⟩
  have hg : ∀ q ∈ lv', px_get lv q.1 = some q.2 := List.map_inj_left.mp h
  refine kk.2 C ⟨I.1, fun q hq => I.lwf (hg q hq), I.2.2.1, I.2.2.2.1, I.2.2.2.2.1, I.siz, I.has.2.1, fun q hq => ?_⟩
  obtain ⟨x, hx, rfl⟩ := List.mem_map.mp hq
  exact I.loc (hg x hx)
theorem px_wid {k' n' : Nat} (h1 : k ≤ k') (h2 : n ≤ n') (kk : px_W d mc ms Γ Q pc lv st M k' n') : px_W d mc ms Γ Q pc lv st M k n := ⟨trivial, fun C _ _ _ _ _ I => W.widen h1 h2 (kk.2 C I)⟩
theorem px_iconst {x : Int} {v : Int32} (hd : decode Γ.2.1 pc = .ok (.iconst x, 1)) (hv : Int32.ofInt x = v) (kk : px_W d mc ms Γ Q (pc + 1) lv (.inl (.int v) :: st) M k n) : px_W d mc ms Γ Q pc lv st M k n := ⟨trivial, fun C _ _ _ _ _ I => lv_iconst C.1 C.2.1 hd hv (kk.2 C (I.psh trivial))⟩
theorem px_bipush {x : Int} {v : Int32} (hd : decode Γ.2.1 pc = .ok (.bipush x, 2)) (hv : (Int8.ofInt x).toInt32 = v) (kk : px_W d mc ms Γ Q (pc + 2) lv (.inl (.int v) :: st) M k n) : px_W d mc ms Γ Q pc lv st M k n := ⟨trivial, fun C _ _ _ _ _ I => lv_bipush C.1 C.2.1 hd hv (kk.2 C (I.psh trivial))⟩
theorem px_sipush {x : Int} {v : Int32} (hd : decode Γ.2.1 pc = .ok (.sipush x, 3)) (hv : (Int16.ofInt x).toInt32 = v) (kk : px_W d mc ms Γ Q (pc + 3) lv (.inl (.int v) :: st) M k n) : px_W d mc ms Γ Q pc lv st M k n := ⟨trivial, fun C _ _ _ _ _ I => lv_sipush C.1 C.2.1 hd hv (kk.2 C (I.psh trivial))⟩
theorem px_lconst {x : Fin 2} {v : Int64} (hd : decode Γ.2.1 pc = .ok (.lconst x, 1)) (hv : Int64.ofNat (x : Nat) = v) (kk : px_W d mc ms Γ Q (pc + 1) lv (.inl (.long v) :: st) M k n) : px_W d mc ms Γ Q pc lv st M k n := ⟨trivial, fun C _ _ _ _ _ I => lv_lconst C.1 C.2.1 hd hv (kk.2 C (I.psh trivial))⟩
theorem px_dconst0 (hd : decode Γ.2.1 pc = .ok (.dconst 0, 1)) (kk : px_W d mc ms Γ Q (pc + 1) lv (.inl (.double FP.dconst0) :: st) M k n) : px_W d mc ms Γ Q pc lv st M k n := ⟨trivial, fun C _ _ _ _ _ I => lv_dconst0 C.1 C.2.1 hd (kk.2 C (I.psh trivial))⟩
theorem px_anull (hd : decode Γ.2.1 pc = .ok (.aconst_null, 1)) (kk : px_W d mc ms Γ Q (pc + 1) lv (.inl .null :: st) M k n) : px_W d mc ms Γ Q pc lv st M k n := ⟨trivial, fun C _ _ _ _ _ I => lv_null C.1 C.2.1 hd (kk.2 C (I.psh trivial))⟩
theorem px_ldc2d {index : Nat} {v : UInt64} (hd : decode Γ.2.1 pc = .ok (.ldc2_w index, 3)) (hw : Cond.constantDouble Γ.1.cls index v ∈ px_T) (kk : px_W d mc ms Γ Q (pc + 3) lv (.inl (.double v) :: st) M k n) : px_W d mc ms Γ Q pc lv st M k n := ⟨trivial, fun C _ _ _ _ _ I => lv_ldc2d C.1 C.2.1 C.2.2.2.2.2.1 (C.2.2.2.2.2.2.2.1 _ hw) hd (kk.2 C (I.psh trivial))⟩
theorem px_ldc {index : Nat} {v : Int32} (hd : decode Γ.2.1 pc = .ok (.ldc index, 2)) (hw : Cond.constant Γ.1.cls index v ∈ px_T) (kk : px_W d mc ms Γ Q (pc + 2) lv (.inl (.int v) :: st) M k n) : px_W d mc ms Γ Q pc lv st M k n := ⟨trivial, fun C _ _ _ _ _ I => lv_ldc C.1 C.2.1 C.2.2.2.2.2.1 (C.2.2.2.2.2.2.2.1 _ hw) hd (kk.2 C (I.psh trivial))⟩
theorem px_iload_n {j : Fin 4} {x : Int32} (hd : decode Γ.2.1 pc = .ok (.iload_n j, 1)) (hl : px_get lv (j : Nat) = some (.inl (.int x))) (kk : px_W d mc ms Γ Q (pc + 1) lv (.inl (.int x) :: st) M k n) : px_W d mc ms Γ Q pc lv st M k n := ⟨trivial, fun C _ _ _ _ _ I => lv_iload_n C.1 C.2.1 hd rfl (I.loc hl) (kk.2 C (I.psh trivial))⟩
theorem px_iload {j : Nat} {x : Int32} (hd : decode Γ.2.1 pc = .ok (.iload j, 2)) (hl : px_get lv j = some (.inl (.int x))) (kk : px_W d mc ms Γ Q (pc + 2) lv (.inl (.int x) :: st) M k n) : px_W d mc ms Γ Q pc lv st M k n := ⟨trivial, fun C _ _ _ _ _ I => lv_iload C.1 C.2.1 hd (I.loc hl) (kk.2 C (I.psh trivial))⟩
theorem px_dload_n {j : Fin 4} {x : UInt64} (hd : decode Γ.2.1 pc = .ok (.dload_n j, 1)) (hl : px_get lv (j : Nat) = some (.inl (.double x))) (kk : px_W d mc ms Γ Q (pc + 1) lv (.inl (.double x) :: st) M k n) : px_W d mc ms Γ Q pc lv st M k n := ⟨trivial, fun C _ _ _ _ _ I => lv_dload_n C.1 C.2.1 hd rfl (I.loc hl) (kk.2 C (I.psh trivial))⟩
theorem px_dload {j : Nat} {x : UInt64} (hd : decode Γ.2.1 pc = .ok (.dload j, 2)) (hl : px_get lv j = some (.inl (.double x))) (kk : px_W d mc ms Γ Q (pc + 2) lv (.inl (.double x) :: st) M k n) : px_W d mc ms Γ Q pc lv st M k n := ⟨trivial, fun C _ _ _ _ _ I => lv_dload C.1 C.2.1 hd (I.loc hl) (kk.2 C (I.psh trivial))⟩
/-- a reference that is a cell's, one that lies elsewhere, or null -/
def px_ref : px_V → Prop
  | .inl (.ref _) => True
  | .inl .null => True
  | .inr _ => True
  | _ => False
theorem px_ref.cases {P : px_V → Prop} {v : px_V} (h : px_ref v) (h1 : ∀ r, P (.inr r)) (h2 : ∀ a, P (.inl (.ref a))) (h3 : P (.inl .null)) : P v := by
  rcases v with v | r
  · cases v <;> first | exact h2 _ | exact h3 | exact absurd h id
  · exact h1 r
theorem px_aload_n {j : Fin 4} {v : px_V} (hd : decode Γ.2.1 pc = .ok (.aload_n j, 1)) (hl : px_get lv (j : Nat) = some v) (hv : px_ref v) (kk : px_W d mc ms Γ Q (pc + 1) lv (v :: st) M k n) : px_W d mc ms Γ Q pc lv st M k n := by
  refine px_ref.cases (P := fun v => px_get lv (j : Nat) = some v → px_W d mc ms Γ Q (pc + 1) lv (v :: st) M k n → px_W d mc ms Γ Q pc lv st M k n) hv ?_ ?_ ?_ hl kk
  · exact fun r hl kk => ⟨trivial, fun {p l e R s m args below meth c g P0 ad0} C {ad dd H locs ls} I => lv_aload_n C.1 C.2.1 hd rfl (I.loc hl) (kk.2 C (I.psh (I.lwf hl)))⟩
  · exact fun r hl kk => ⟨trivial, fun {p l e R s m args below meth c g P0 ad0} C {ad dd H locs ls} I => lv_aload_n C.1 C.2.1 hd rfl (I.loc hl) (kk.2 C (I.psh (I.lwf hl)))⟩
  · exact fun hl kk => ⟨trivial, fun {p l e R s m args below meth c g P0 ad0} C {ad dd H locs ls} I => lv_aload_nN C.1 C.2.1 hd rfl (I.loc hl) (kk.2 C (I.psh (I.lwf hl)))⟩
theorem px_aload {j : Nat} {v : px_V} (hd : decode Γ.2.1 pc = .ok (.aload j, 2)) (hl : px_get lv j = some v) (hv : px_ref v) (kk : px_W d mc ms Γ Q (pc + 2) lv (v :: st) M k n) : px_W d mc ms Γ Q pc lv st M k n := by
  refine px_ref.cases (P := fun v => px_get lv j = some v → px_W d mc ms Γ Q (pc + 2) lv (v :: st) M k n → px_W d mc ms Γ Q pc lv st M k n) hv ?_ ?_ ?_ hl kk
  · exact fun r hl kk => ⟨trivial, fun {p l e R s m args below meth c g P0 ad0} C {ad dd H locs ls} I => lv_aload C.1 C.2.1 hd (I.loc hl) (kk.2 C (I.psh (I.lwf hl)))⟩
  · exact fun r hl kk => ⟨trivial, fun {p l e R s m args below meth c g P0 ad0} C {ad dd H locs ls} I => lv_aload C.1 C.2.1 hd (I.loc hl) (kk.2 C (I.psh (I.lwf hl)))⟩
  · exact fun hl kk => ⟨trivial, fun {p l e R s m args below meth c g P0 ad0} C {ad dd H locs ls} I => lv_aloadN C.1 C.2.1 hd (I.loc hl) (kk.2 C (I.psh (I.lwf hl)))⟩
theorem px_istore_n {j : Fin 4} {x : Int32} (hd : decode Γ.2.1 pc = .ok (.istore_n j, 1)) (hn : (j : Nat) < Γ.2.2.1) (kk : px_W d mc ms Γ Q (pc + 1) (px_st1 (j : Nat) (.inl (.int x)) lv) st M k n) : px_W d mc ms Γ Q pc lv (.inl (.int x) :: st) M k n := ⟨trivial, fun {p l e R s m args below meth c g P0 ad0} C {ad dd H locs ls} I => lv_istore_n C.1 C.2.1 hd rfl I.has hn (px_l_st1 ad (j : Nat) (.inl (.int x)) lv) fun _ h => kk.2 C (I.str1 h)⟩
theorem px_istore {j : Nat} {x : Int32} (hd : decode Γ.2.1 pc = .ok (.istore j, 2)) (hn : j < Γ.2.2.1) (kk : px_W d mc ms Γ Q (pc + 2) (px_st1 j (.inl (.int x)) lv) st M k n) : px_W d mc ms Γ Q pc lv (.inl (.int x) :: st) M k n := ⟨trivial, fun {p l e R s m args below meth c g P0 ad0} C {ad dd H locs ls} I => lv_istore C.1 C.2.1 hd I.has hn (px_l_st1 ad j (.inl (.int x)) lv) fun _ h => kk.2 C (I.str1 h)⟩
theorem px_dstore_n {j : Fin 4} {x : UInt64} (hd : decode Γ.2.1 pc = .ok (.dstore_n j, 1)) (hn : (j : Nat) + 1 < Γ.2.2.1) (kk : px_W d mc ms Γ Q (pc + 1) (px_st2 (j : Nat) (.inl (.double x)) lv) st M k n) : px_W d mc ms Γ Q pc lv (.inl (.double x) :: st) M k n := ⟨trivial, fun {p l e R s m args below meth c g P0 ad0} C {ad dd H locs ls} I => lv_dstore_n C.1 C.2.1 hd rfl I.has hn (px_l_st2 ad (j : Nat) (.inl (.double x)) lv) fun _ h => kk.2 C (I.str2 h)⟩
theorem px_dstore {j : Nat} {x : UInt64} (hd : decode Γ.2.1 pc = .ok (.dstore j, 2)) (hn : j + 1 < Γ.2.2.1) (kk : px_W d mc ms Γ Q (pc + 2) (px_st2 j (.inl (.double x)) lv) st M k n) : px_W d mc ms Γ Q pc lv (.inl (.double x) :: st) M k n := ⟨trivial, fun {p l e R s m args below meth c g P0 ad0} C {ad dd H locs ls} I => lv_dstore C.1 C.2.1 hd I.has hn (px_l_st2 ad j (.inl (.double x)) lv) fun _ h => kk.2 C (I.str2 h)⟩
theorem px_astore_n {j : Fin 4} {v : px_V} (hd : decode Γ.2.1 pc = .ok (.astore_n j, 1)) (hn : (j : Nat) < Γ.2.2.1) (hv : px_ref v) (kk : px_W d mc ms Γ Q (pc + 1) (px_st1 (j : Nat) v lv) st M k n) : px_W d mc ms Γ Q pc lv (v :: st) M k n := by
  refine px_ref.cases (P := fun v => px_W d mc ms Γ Q (pc + 1) (px_st1 (j : Nat) v lv) st M k n → px_W d mc ms Γ Q pc lv (v :: st) M k n) hv ?_ ?_ ?_ kk
  · exact fun r kk => ⟨trivial, fun {p l e R s m args below meth c g P0 ad0} C {ad dd H locs ls} I => lv_astore_n C.1 C.2.1 hd rfl I.has hn (px_l_st1 ad (j : Nat) (.inr r) lv) fun _ h => kk.2 C (I.str1 h)⟩
  · exact fun r kk => ⟨trivial, fun {p l e R s m args below meth c g P0 ad0} C {ad dd H locs ls} I => lv_astore_n C.1 C.2.1 hd rfl I.has hn (px_l_st1 ad (j : Nat) (.inl (.ref r)) lv) fun _ h => kk.2 C (I.str1 h)⟩
  · exact fun kk => ⟨trivial, fun {p l e R s m args below meth c g P0 ad0} C {ad dd H locs ls} I => lv_astore_nN C.1 C.2.1 hd rfl I.has hn (px_l_st1 ad (j : Nat) (.inl .null) lv) fun _ h => kk.2 C (I.str1 h)⟩
theorem px_astore {j : Nat} {v : px_V} (hd : decode Γ.2.1 pc = .ok (.astore j, 2)) (hn : j < Γ.2.2.1) (hv : px_ref v) (kk : px_W d mc ms Γ Q (pc + 2) (px_st1 j v lv) st M k n) : px_W d mc ms Γ Q pc lv (v :: st) M k n := by
  refine px_ref.cases (P := fun v => px_W d mc ms Γ Q (pc + 2) (px_st1 j v lv) st M k n → px_W d mc ms Γ Q pc lv (v :: st) M k n) hv ?_ ?_ ?_ kk
  · exact fun r kk => ⟨trivial, fun {p l e R s m args below meth c g P0 ad0} C {ad dd H locs ls} I => lv_astore C.1 C.2.1 hd I.has hn (px_l_st1 ad j (.inr r) lv) fun _ h => kk.2 C (I.str1 h)⟩
  · exact fun r kk => ⟨trivial, fun {p l e R s m args below meth c g P0 ad0} C {ad dd H locs ls} I => lv_astore C.1 C.2.1 hd I.has hn (px_l_st1 ad j (.inl (.ref r)) lv) fun _ h => kk.2 C (I.str1 h)⟩
  · exact fun kk => ⟨trivial, fun {p l e R s m args below meth c g P0 ad0} C {ad dd H locs ls} I => lv_astoreN C.1 C.2.1 hd I.has hn (px_l_st1 ad j (.inl .null) lv) fun _ h => kk.2 C (I.str1 h)⟩
theorem px_iinc {j : Nat} {a : Int} {x v : Int32} (hd : decode Γ.2.1 pc = .ok (.iinc j a, 3)) (hl : px_get lv j = some (.inl (.int x))) (hv : x + Int32.ofInt a = v) (hn : j < Γ.2.2.1) (kk : px_W d mc ms Γ Q (pc + 3) (px_st1 j (.inl (.int v)) lv) st M k n) : px_W d mc ms Γ Q pc lv st M k n := by
  refine ⟨trivial, fun {p l e R s m args below meth c g P0 ad0} C {ad dd H locs ls} I => ?_⟩
  obtain ⟨i, hi⟩ := List.getElem?_of_mem (px_get_mem hl)
  exact lv_iinc (k := i) C.1 C.2.1 hd I.has (by rw [px_l, List.getElem?_map, hi]; rfl) hv hn (px_l_st1 ad j (.inl (.int v)) lv) fun _ h => kk.2 C ((I.psh (v := .inl (.int v)) trivial).str1 h)
theorem px_iadd {x y : Int32} (hd : decode Γ.2.1 pc = .ok (.iadd, 1)) (kk : px_W d mc ms Γ Q (pc + 1) lv (.inl (.int (x + y)) :: st) M k n) : px_W d mc ms Γ Q pc lv (.inl (.int y) :: .inl (.int x) :: st) M k n := ⟨trivial, fun C _ _ _ _ _ I => lv_iadd C.1 C.2.1 hd (kk.2 C (I.pop.pop.psh trivial))⟩
theorem px_isub {x y : Int32} (hd : decode Γ.2.1 pc = .ok (.isub, 1)) (kk : px_W d mc ms Γ Q (pc + 1) lv (.inl (.int (x - y)) :: st) M k n) : px_W d mc ms Γ Q pc lv (.inl (.int y) :: .inl (.int x) :: st) M k n := ⟨trivial, fun C _ _ _ _ _ I => lv_isub C.1 C.2.1 hd (kk.2 C (I.pop.pop.psh trivial))⟩
theorem px_imul {x y : Int32} (hd : decode Γ.2.1 pc = .ok (.imul, 1)) (kk : px_W d mc ms Γ Q (pc + 1) lv (.inl (.int (x * y)) :: st) M k n) : px_W d mc ms Γ Q pc lv (.inl (.int y) :: .inl (.int x) :: st) M k n := ⟨trivial, fun C _ _ _ _ _ I => lv_imul C.1 C.2.1 hd (kk.2 C (I.pop.pop.psh trivial))⟩
theorem px_iand {x y : Int32} (hd : decode Γ.2.1 pc = .ok (.iand, 1)) (kk : px_W d mc ms Γ Q (pc + 1) lv (.inl (.int (x &&& y)) :: st) M k n) : px_W d mc ms Γ Q pc lv (.inl (.int y) :: .inl (.int x) :: st) M k n := ⟨trivial, fun C _ _ _ _ _ I => lv_iand C.1 C.2.1 hd (kk.2 C (I.pop.pop.psh trivial))⟩
theorem px_ishr {x y : Int32} (hd : decode Γ.2.1 pc = .ok (.ishr, 1)) (kk : px_W d mc ms Γ Q (pc + 1) lv (.inl (.int (x >>> (y &&& 31))) :: st) M k n) : px_W d mc ms Γ Q pc lv (.inl (.int y) :: .inl (.int x) :: st) M k n := ⟨trivial, fun C _ _ _ _ _ I => lv_ishr C.1 C.2.1 hd (kk.2 C (I.pop.pop.psh trivial))⟩
theorem px_i2l {x : Int32} (hd : decode Γ.2.1 pc = .ok (.i2l, 1)) (kk : px_W d mc ms Γ Q (pc + 1) lv (.inl (.long x.toInt64) :: st) M k n) : px_W d mc ms Γ Q pc lv (.inl (.int x) :: st) M k n := ⟨trivial, fun C _ _ _ _ _ I => lv_i2l C.1 C.2.1 hd rfl (kk.2 C (I.pop.psh trivial))⟩
theorem px_i2d {x : Int32} (hd : decode Γ.2.1 pc = .ok (.i2d, 1)) (kk : px_W d mc ms Γ Q (pc + 1) lv (.inl (.double (FP.i2d x)) :: st) M k n) : px_W d mc ms Γ Q pc lv (.inl (.int x) :: st) M k n := ⟨trivial, fun C _ _ _ _ _ I => lv_i2d C.1 C.2.1 hd (kk.2 C (I.pop.psh trivial))⟩
theorem px_l2d {x : Int64} (hd : decode Γ.2.1 pc = .ok (.l2d, 1)) (kk : px_W d mc ms Γ Q (pc + 1) lv (.inl (.double (FP.l2d x)) :: st) M k n) : px_W d mc ms Γ Q pc lv (.inl (.long x) :: st) M k n := ⟨trivial, fun C _ _ _ _ _ I => lv_l2d C.1 C.2.1 hd (kk.2 C (I.pop.psh trivial))⟩
theorem px_d2i {x : UInt64} (hd : decode Γ.2.1 pc = .ok (.d2i, 1)) (kk : px_W d mc ms Γ Q (pc + 1) lv (.inl (.int (FP.d2i x)) :: st) M k n) : px_W d mc ms Γ Q pc lv (.inl (.double x) :: st) M k n := ⟨trivial, fun C _ _ _ _ _ I => lv_d2i C.1 C.2.1 hd (kk.2 C (I.pop.psh trivial))⟩
theorem px_d2l {x : UInt64} (hd : decode Γ.2.1 pc = .ok (.d2l, 1)) (kk : px_W d mc ms Γ Q (pc + 1) lv (.inl (.long (FP.d2l x)) :: st) M k n) : px_W d mc ms Γ Q pc lv (.inl (.double x) :: st) M k n := ⟨trivial, fun C _ _ _ _ _ I => lv_d2l C.1 C.2.1 hd (kk.2 C (I.pop.psh trivial))⟩
theorem px_dadd {x y z : UInt64} (hd : decode Γ.2.1 pc = .ok (.dadd, 1)) (hz : FP.dadd x y = z) (hn : vf_n64 z) (kk : px_W d mc ms Γ Q (pc + 1) lv (.inl (.double z) :: st) M k n) : px_W d mc ms Γ Q pc lv (.inl (.double y) :: .inl (.double x) :: st) M k n := by
  subst hz
  exact ⟨trivial, fun C _ _ _ _ _ I => lv_dadd C.1 C.2.1 hd hn (kk.2 C (I.pop.pop.psh trivial))⟩
theorem px_dsub {x y z : UInt64} (hd : decode Γ.2.1 pc = .ok (.dsub, 1)) (hz : FP.dsub x y = z) (hn : vf_n64 z) (kk : px_W d mc ms Γ Q (pc + 1) lv (.inl (.double z) :: st) M k n) : px_W d mc ms Γ Q pc lv (.inl (.double y) :: .inl (.double x) :: st) M k n := by
  subst hz
  exact ⟨trivial, fun C _ _ _ _ _ I => lv_dsub C.1 C.2.1 hd hn (kk.2 C (I.pop.pop.psh trivial))⟩
theorem px_dmul {x y z : UInt64} (hd : decode Γ.2.1 pc = .ok (.dmul, 1)) (hz : FP.dmul x y = z) (hn : vf_n64 z) (kk : px_W d mc ms Γ Q (pc + 1) lv (.inl (.double z) :: st) M k n) : px_W d mc ms Γ Q pc lv (.inl (.double y) :: .inl (.double x) :: st) M k n := by
  subst hz
  exact ⟨trivial, fun C _ _ _ _ _ I => lv_dmul C.1 C.2.1 hd hn (kk.2 C (I.pop.pop.psh trivial))⟩
theorem px_ddiv {x y z : UInt64} (hd : decode Γ.2.1 pc = .ok (.ddiv, 1)) (hz : FP.ddiv x y = z) (hn : vf_n64 z) (kk : px_W d mc ms Γ Q (pc + 1) lv (.inl (.double z) :: st) M k n) : px_W d mc ms Γ Q pc lv (.inl (.double y) :: .inl (.double x) :: st) M k n := by
  subst hz
  exact ⟨trivial, fun C _ _ _ _ _ I => lv_ddiv C.1 C.2.1 hd hn (kk.2 C (I.pop.pop.psh trivial))⟩
theorem px_dcmp {x y : UInt64} {op : CmpOp} (hd : decode Γ.2.1 pc = .ok (.dcmp op, 1)) (kk : px_W d mc ms Γ Q (pc + 1) lv (.inl (.int (Op.cmpValue (FP.dcmp x y) op)) :: st) M k n) : px_W d mc ms Γ Q pc lv (.inl (.double y) :: .inl (.double x) :: st) M k n := ⟨trivial, fun C _ _ _ _ _ I => lv_dcmp C.1 C.2.1 hd (kk.2 C (I.pop.pop.psh trivial))⟩
theorem px_lcmp {x y : Int64} (hd : decode Γ.2.1 pc = .ok (.lcmp, 1)) (kk : px_W d mc ms Γ Q (pc + 1) lv (.inl (.int (lg_cmp x y)) :: st) M k n) : px_W d mc ms Γ Q pc lv (.inl (.long y) :: .inl (.long x) :: st) M k n := ⟨trivial, fun C _ _ _ _ _ I => W.lcmp C.1 C.2.1 hd (kk.2 C (I.pop.pop.psh trivial))⟩
theorem px_dup {v : px_V} (hd : decode Γ.2.1 pc = .ok (.dup, 1)) (hv : px_cat v = 1) (kk : px_W d mc ms Γ Q (pc + 1) lv (v :: v :: st) M k n) : px_W d mc ms Γ Q pc lv (v :: st) M k n := ⟨trivial, fun C _ _ _ _ _ I => lv_dup C.1 C.2.1 hd ((px_cat_v _ v).trans hv) (kk.2 C (I.psh I.top))⟩
theorem px_pop {v : px_V} (hd : decode Γ.2.1 pc = .ok (.pop, 1)) (hv : px_cat v = 1) (kk : px_W d mc ms Γ Q (pc + 1) lv st M k n) : px_W d mc ms Γ Q pc lv (v :: st) M k n := ⟨trivial, fun C _ _ _ _ _ I => lv_pop C.1 C.2.1 hd ((px_cat_v _ v).trans hv) (kk.2 C I.pop)⟩
theorem px_dup_x1 {v w : px_V} (hd : decode Γ.2.1 pc = .ok (.dup_x1, 1)) (hv : px_cat v = 1) (hw : px_cat w = 1) (kk : px_W d mc ms Γ Q (pc + 1) lv (v :: w :: v :: st) M k n) : px_W d mc ms Γ Q pc lv (v :: w :: st) M k n := ⟨trivial, fun C _ _ _ _ _ I => lv_dup_x1 C.1 C.2.1 hd ((px_cat_v _ v).trans hv) ((px_cat_v _ w).trans hw) (kk.2 C (((I.pop.pop.psh I.top).psh I.pop.top).psh I.top))⟩
theorem px_dup2 {v w : px_V} (hd : decode Γ.2.1 pc = .ok (.dup2, 1)) (hv : px_cat v = 1) (hw : px_cat w = 1) (kk : px_W d mc ms Γ Q (pc + 1) lv (v :: w :: v :: w :: st) M k n) : px_W d mc ms Γ Q pc lv (v :: w :: st) M k n := ⟨trivial, fun C _ _ _ _ _ I => lv_dup2_11 C.1 C.2.1 hd ((px_cat_v _ v).trans hv) ((px_cat_v _ w).trans hw) (kk.2 C ((I.psh I.pop.top).psh I.top))⟩
theorem px_goto {off : Int} {tgt : Nat} (hd : decode Γ.2.1 pc = .ok (.goto off, 3)) (ht : (pc : Int) + off = (tgt : Int)) (kk : px_W d mc ms Γ Q tgt lv st M k n) : px_W d mc ms Γ Q pc lv st M k n := ⟨trivial, fun C _ _ _ _ _ I => lv_goto C.1 C.2.1 hd ht (kk.2 C I)⟩
theorem px_if_eq {x : Int32} {off : Int} {tgt : Nat} (hd : decode Γ.2.1 pc = .ok (.ifCond .eq off, 3)) (ht : (pc : Int) + off = (tgt : Int)) (kt : x = 0 → px_W d mc ms Γ Q tgt lv st M k n) (kf : ¬ x = 0 → px_W d mc ms Γ Q (pc + 3) lv st M k n) : px_W d mc ms Γ Q pc lv (.inl (.int x) :: st) M k n := ⟨trivial, fun C _ _ _ _ _ I => lv_if_eq C.1 C.2.1 hd ht (fun h => (kt h).2 C I.pop) (fun h => (kf h).2 C I.pop)⟩
theorem px_if_ne {x : Int32} {off : Int} {tgt : Nat} (hd : decode Γ.2.1 pc = .ok (.ifCond .ne off, 3)) (ht : (pc : Int) + off = (tgt : Int)) (kt : ¬ x = 0 → px_W d mc ms Γ Q tgt lv st M k n) (kf : x = 0 → px_W d mc ms Γ Q (pc + 3) lv st M k n) : px_W d mc ms Γ Q pc lv (.inl (.int x) :: st) M k n := ⟨trivial, fun C _ _ _ _ _ I => lv_if_ne C.1 C.2.1 hd ht (fun h => (kt h).2 C I.pop) (fun h => (kf h).2 C I.pop)⟩
theorem px_if_lt {x : Int32} {off : Int} {tgt : Nat} (hd : decode Γ.2.1 pc = .ok (.ifCond .lt off, 3)) (ht : (pc : Int) + off = (tgt : Int)) (kt : x < 0 → px_W d mc ms Γ Q tgt lv st M k n) (kf : ¬ x < 0 → px_W d mc ms Γ Q (pc + 3) lv st M k n) : px_W d mc ms Γ Q pc lv (.inl (.int x) :: st) M k n := ⟨trivial, fun C _ _ _ _ _ I => lv_if_lt C.1 C.2.1 hd ht (fun h => (kt h).2 C I.pop) (fun h => (kf h).2 C I.pop)⟩
theorem px_if_ge {x : Int32} {off : Int} {tgt : Nat} (hd : decode Γ.2.1 pc = .ok (.ifCond .ge off, 3)) (ht : (pc : Int) + off = (tgt : Int)) (kt : 0 ≤ x → px_W d mc ms Γ Q tgt lv st M k n) (kf : ¬ 0 ≤ x → px_W d mc ms Γ Q (pc + 3) lv st M k n) : px_W d mc ms Γ Q pc lv (.inl (.int x) :: st) M k n := ⟨trivial, fun C _ _ _ _ _ I => lv_if_ge C.1 C.2.1 hd ht (fun h => (kt h).2 C I.pop) (fun h => (kf h).2 C I.pop)⟩
theorem px_if_gt {x : Int32} {off : Int} {tgt : Nat} (hd : decode Γ.2.1 pc = .ok (.ifCond .gt off, 3)) (ht : (pc : Int) + off = (tgt : Int)) (kt : 0 < x → px_W d mc ms Γ Q tgt lv st M k n) (kf : ¬ 0 < x → px_W d mc ms Γ Q (pc + 3) lv st M k n) : px_W d mc ms Γ Q pc lv (.inl (.int x) :: st) M k n := ⟨trivial, fun C _ _ _ _ _ I => lv_if_gt C.1 C.2.1 hd ht (fun h => (kt h).2 C I.pop) (fun h => (kf h).2 C I.pop)⟩
theorem px_if_le {x : Int32} {off : Int} {tgt : Nat} (hd : decode Γ.2.1 pc = .ok (.ifCond .le off, 3)) (ht : (pc : Int) + off = (tgt : Int)) (kt : x ≤ 0 → px_W d mc ms Γ Q tgt lv st M k n) (kf : ¬ x ≤ 0 → px_W d mc ms Γ Q (pc + 3) lv st M k n) : px_W d mc ms Γ Q pc lv (.inl (.int x) :: st) M k n := ⟨trivial, fun C _ _ _ _ _ I => lv_if_le C.1 C.2.1 hd ht (fun h => (kt h).2 C I.pop) (fun h => (kf h).2 C I.pop)⟩
theorem px_icmp_eq {x y : Int32} {off : Int} {tgt : Nat} (hd : decode Γ.2.1 pc = .ok (.if_icmp .eq off, 3)) (ht : (pc : Int) + off = (tgt : Int)) (kt : x = y → px_W d mc ms Γ Q tgt lv st M k n) (kf : ¬ x = y → px_W d mc ms Γ Q (pc + 3) lv st M k n) : px_W d mc ms Γ Q pc lv (.inl (.int y) :: .inl (.int x) :: st) M k n := ⟨trivial, fun C _ _ _ _ _ I => lv_icmp_eq C.1 C.2.1 hd ht (fun h => (kt h).2 C I.pop.pop) (fun h => (kf h).2 C I.pop.pop)⟩
theorem px_icmp_ne {x y : Int32} {off : Int} {tgt : Nat} (hd : decode Γ.2.1 pc = .ok (.if_icmp .ne off, 3)) (ht : (pc : Int) + off = (tgt : Int)) (kt : ¬ x = y → px_W d mc ms Γ Q tgt lv st M k n) (kf : x = y → px_W d mc ms Γ Q (pc + 3) lv st M k n) : px_W d mc ms Γ Q pc lv (.inl (.int y) :: .inl (.int x) :: st) M k n := ⟨trivial, fun C _ _ _ _ _ I => lv_icmp_ne C.1 C.2.1 hd ht (fun h => (kt h).2 C I.pop.pop) (fun h => (kf h).2 C I.pop.pop)⟩
theorem px_icmp_lt {x y : Int32} {off : Int} {tgt : Nat} (hd : decode Γ.2.1 pc = .ok (.if_icmp .lt off, 3)) (ht : (pc : Int) + off = (tgt : Int)) (kt : x < y → px_W d mc ms Γ Q tgt lv st M k n) (kf : ¬ x < y → px_W d mc ms Γ Q (pc + 3) lv st M k n) : px_W d mc ms Γ Q pc lv (.inl (.int y) :: .inl (.int x) :: st) M k n := ⟨trivial, fun C _ _ _ _ _ I => lv_icmp_lt C.1 C.2.1 hd ht (fun h => (kt h).2 C I.pop.pop) (fun h => (kf h).2 C I.pop.pop)⟩
theorem px_icmp_ge {x y : Int32} {off : Int} {tgt : Nat} (hd : decode Γ.2.1 pc = .ok (.if_icmp .ge off, 3)) (ht : (pc : Int) + off = (tgt : Int)) (kt : y ≤ x → px_W d mc ms Γ Q tgt lv st M k n) (kf : ¬ y ≤ x → px_W d mc ms Γ Q (pc + 3) lv st M k n) : px_W d mc ms Γ Q pc lv (.inl (.int y) :: .inl (.int x) :: st) M k n := ⟨trivial, fun C _ _ _ _ _ I => lv_icmp_ge C.1 C.2.1 hd ht (fun h => (kt h).2 C I.pop.pop) (fun h => (kf h).2 C I.pop.pop)⟩
theorem px_icmp_gt {x y : Int32} {off : Int} {tgt : Nat} (hd : decode Γ.2.1 pc = .ok (.if_icmp .gt off, 3)) (ht : (pc : Int) + off = (tgt : Int)) (kt : y < x → px_W d mc ms Γ Q tgt lv st M k n) (kf : ¬ y < x → px_W d mc ms Γ Q (pc + 3) lv st M k n) : px_W d mc ms Γ Q pc lv (.inl (.int y) :: .inl (.int x) :: st) M k n := ⟨trivial, fun C _ _ _ _ _ I => lv_icmp_gt C.1 C.2.1 hd ht (fun h => (kt h).2 C I.pop.pop) (fun h => (kf h).2 C I.pop.pop)⟩
theorem px_icmp_le {x y : Int32} {off : Int} {tgt : Nat} (hd : decode Γ.2.1 pc = .ok (.if_icmp .le off, 3)) (ht : (pc : Int) + off = (tgt : Int)) (kt : x ≤ y → px_W d mc ms Γ Q tgt lv st M k n) (kf : ¬ x ≤ y → px_W d mc ms Γ Q (pc + 3) lv st M k n) : px_W d mc ms Γ Q pc lv (.inl (.int y) :: .inl (.int x) :: st) M k n := ⟨trivial, fun C _ _ _ _ _ I => lv_icmp_le C.1 C.2.1 hd ht (fun h => (kt h).2 C I.pop.pop) (fun h => (kf h).2 C I.pop.pop)⟩
def px_rf : Option px_R → px_V
  | none => .inl .null
  | some r => .inr r
theorem px_v_rf (ad : px_R → Nat) (o : Option px_R) : px_v ad (px_rf o) = va_rf (o.map ad) := by cases o <;> rfl
theorem px_ifnull {o : Option px_R} {off : Int} {tgt : Nat} (hd : decode Γ.2.1 pc = .ok (.ifnull off, 3)) (ht : (pc : Int) + off = (tgt : Int)) (kt : o = none → px_W d mc ms Γ Q tgt lv st M k n) (kf : ∀ r, o = some r → px_W d mc ms Γ Q (pc + 3) lv st M k n) : px_W d mc ms Γ Q pc lv (px_rf o :: st) M k n := by
  cases o with
  | none => exact ⟨trivial, fun C _ _ _ _ _ I => lv_ifnullN C.1 C.2.1 hd ht ((kt rfl).2 C I.pop)⟩
  | some r => exact ⟨trivial, fun C _ _ _ _ _ I => lv_ifnull C.1 C.2.1 hd ((kf r rfl).2 C I.pop)⟩
theorem px_ifnonnull {o : Option px_R} {off : Int} {tgt : Nat} (hd : decode Γ.2.1 pc = .ok (.ifnonnull off, 3)) (ht : (pc : Int) + off = (tgt : Int)) (kt : ∀ r, o = some r → px_W d mc ms Γ Q tgt lv st M k n) (kf : o = none → px_W d mc ms Γ Q (pc + 3) lv st M k n) : px_W d mc ms Γ Q pc lv (px_rf o :: st) M k n := by
  cases o with
  | none => exact ⟨trivial, fun C _ _ _ _ _ I => lv_ifnonnullN C.1 C.2.1 hd ((kf rfl).2 C I.pop)⟩
  | some r => exact ⟨trivial, fun C _ _ _ _ _ I => lv_ifnonnull C.1 C.2.1 hd ht ((kt r rfl).2 C I.pop)⟩
/-- two cells of the world -/
theorem px_acmp_ne {r r' : px_R} {off : Int} {tgt : Nat} (hd : decode Γ.2.1 pc = .ok (.if_acmp .ne off, 3)) (ht : (pc : Int) + off = (tgt : Int)) (kt : ¬ r = r' → px_W d mc ms Γ Q tgt lv st M k n) (kf : r = r' → px_W d mc ms Γ Q (pc + 3) lv st M k n) : px_W d mc ms Γ Q pc lv (.inr r' :: .inr r :: st) M k n := ⟨trivial, fun {p l e R s m args below meth c g P0 ad0} C {ad dd H locs ls} I => lv_acmp_ne (rx := some (ad r)) (ry := some (ad r')) C.1 C.2.1 hd ht (fun h => (kt (fun e => h (by rw [e]))).2 C I.pop.pop) (fun h => (kf (I.1.inj I.pop.top I.top (Option.some.inj h))).2 C I.pop.pop)⟩
theorem px_acmp_eq {r r' : px_R} {off : Int} {tgt : Nat} (hd : decode Γ.2.1 pc = .ok (.if_acmp .eq off, 3)) (ht : (pc : Int) + off = (tgt : Int)) (kt : r = r' → px_W d mc ms Γ Q tgt lv st M k n) (kf : ¬ r = r' → px_W d mc ms Γ Q (pc + 3) lv st M k n) : px_W d mc ms Γ Q pc lv (.inr r' :: .inr r :: st) M k n := ⟨trivial, fun {p l e R s m args below meth c g P0 ad0} C {ad dd H locs ls} I => lv_acmp_eq (rx := some (ad r)) (ry := some (ad r')) C.1 C.2.1 hd ht (fun h => (kt (I.1.inj I.pop.top I.top (Option.some.inj h))).2 C I.pop.pop) (fun h => (kf (fun e => h (by rw [e]))).2 C I.pop.pop)⟩
/-- two references that lie outside the world, the same -/
theorem px_acmp_eqE {a : Nat} {off : Int} {tgt : Nat} (hd : decode Γ.2.1 pc = .ok (.if_acmp .eq off, 3)) (ht : (pc : Int) + off = (tgt : Int)) (kt : px_W d mc ms Γ Q tgt lv st M k n) : px_W d mc ms Γ Q pc lv (.inl (.ref a) :: .inl (.ref a) :: st) M k n := ⟨trivial, fun C _ _ _ _ _ I => lv_acmp_eq (rx := some a) (ry := some a) C.1 C.2.1 hd ht (fun _ => kt.2 C I.pop.pop) (fun h => absurd rfl h)⟩
theorem px_tableOut {dflt lo hi : Int} {offs : Array Int} {len : Nat} {x : Int32} {tgt : Nat} (hd : decode Γ.2.1 pc = .ok (.tableswitch dflt lo hi offs, len)) (h : x.toInt < lo ∨ hi < x.toInt) (ht : (pc : Int) + dflt = (tgt : Int)) (kk : px_W d mc ms Γ Q tgt lv st M k n) : px_W d mc ms Γ Q pc lv (.inl (.int x) :: st) M k n := ⟨trivial, fun C _ _ _ _ _ I => lv_tableOut C.1 C.2.1 hd h ht (kk.2 C I.pop)⟩
theorem px_tableIn {dflt lo hi : Int} {offs : Array Int} {len : Nat} {x : Int32} {off : Int} {tgt : Nat} (hd : decode Γ.2.1 pc = .ok (.tableswitch dflt lo hi offs, len)) (h1 : ¬ x.toInt < lo) (h2 : ¬ hi < x.toInt) (ho : offs[(x.toInt - lo).toNat]? = some off) (ht : (pc : Int) + off = (tgt : Int)) (kk : px_W d mc ms Γ Q tgt lv st M k n) : px_W d mc ms Γ Q pc lv (.inl (.int x) :: st) M k n := ⟨trivial, fun C _ _ _ _ _ I => lv_tableIn C.1 C.2.1 hd h1 h2 ho ht (kk.2 C I.pop)⟩
end PX1
