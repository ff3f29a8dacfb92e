/-! ===== parts 05 to 07 anew, with E: where the empty row of all lists lies, and what Object[].class is; for the JDK's own methods ===== -/
theorem pe_blind {E : Nat × Nat} {g : px_G} {ad dd : px_R → Nat} {M : px_M} {av : List Value} : FrameBlind (va_Pc av (fun U => px_St g U ∧ px_Vw g ad dd M U.heap ∧ va_Mi "[Ljava/lang/Object;" E.2 U)) := fun a U g' mk h => ⟨h.1, h.2.1.same rfl rfl, h.2.2⟩
theorem pe_pre {E : Nat × Nat} {g : px_G} {P0 : px_R → Prop} {ad0 : px_R → Nat} {s : State} {nL : Nat} {lv : List (Nat × px_V)} {st : List px_V} {M : px_M} {ad dd : px_R → Nat} {H : Heap} {locs : List Loc} {ls : Array Slot} (hMi : va_Mi "[Ljava/lang/Object;" E.2 s) (hSt : px_St g s) (I : px_I g P0 ad0 s nL lv st M ad dd H locs ls) {av : List Value} (U : State) (hU : U.heap = H) (hW : s.WarmedH U.vm) : va_Pc av (fun U => px_St g U ∧ px_Vw g ad dd M U.heap ∧ va_Mi "[Ljava/lang/Object;" E.2 U) av.toArray U :=
  ⟨rfl, (px_pre (av := av) hSt I U hU hW).2.1, (px_pre (av := av) hSt I U hU hW).2.2, hMi.moved hW.alike⟩
def pe_C (E : Nat × Nat) (d mc ms : Nat) (Γ : px_Y) (g : px_G) (p : Program) (l : Launch) (R : Room) (s : State) (m : MethodId) (args : Array Value) (meth : Method) (c : Code) : Prop :=
  p.tables.exec = Jvm.exec ∧ c.code = Γ.2.1 ∧ c.maxLocals = Γ.2.2.1 ∧ meth.sig.returnType = Γ.2.2.2.1 ∧ meth.locks = false ∧ s.vm.findClass Γ.1.cls = some m.cls ∧ meth.name = Γ.1.name ∧
  (∀ w ∈ px_T, w.before args s = true) ∧ c.exceptionTable.toList = tableOf Γ.2.2.2.2 ∧ l.flags = flags0 ∧ px_St g s ∧ (d + 8 ≤ R.frames ∧ 60 * d + 200 ≤ R.locals ∧ mc ≤ R.cells ∧ ms ≤ R.slots ∧ px_gE g = E.1 ∧ va_Mi "[Ljava/lang/Object;" E.2 s)
def pe_W (E : Nat × Nat) (d mc ms : Nat) (Γ : px_Y) (Q : px_Q) (pc : Nat) (lv : List (Nat × px_V)) (st : List px_V) (M : px_M) (k n : Nat) : Prop :=
  True ∧ ∀ {p : Program} {l : Launch} {e : Env} {R : Room} {s : State} {m : MethodId} {args : Array Value} {below : List Frame} {meth : Method} {c : Code} {g : px_G} {P0 : px_R → Prop} {ad0 : px_R → Nat}, pe_C E d mc ms Γ g p l R s m args meth c →
    ∀ {ad dd : px_R → Nat} {H : Heap} {locs : List Loc} {ls : Array Slot}, px_I g P0 ad0 s Γ.2.2.1 lv st M ad dd H locs ls →
      W p l e R s m args below meth c H locs k n (vx_MQ below (px_Qc g P0 ad0 Q) (px_XC g P0 ad0 Q) args s mc ms (px_AA g)) (F0 m pc ls (st.map (px_v ad)))
def pe_X (E : Nat × Nat) (d mc ms : Nat) (Γ : px_Y) (Q : px_Q) (pc : Nat) (lv : List (Nat × px_V)) (X9 : String) (M : px_M) (k n : Nat) : Prop :=
  True ∧ ∀ {p : Program} {l : Launch} {e : Env} {R : Room} {s : State} {m : MethodId} {args : Array Value} {below : List Frame} {meth : Method} {c : Code} {g : px_G} {P0 : px_R → Prop} {ad0 : px_R → Nat}, pe_C E d mc ms Γ g p l R s m args meth c →
    ∀ {ad dd : px_R → Nat} {H : Heap} {locs : List Loc} {ls : Array Slot} {q : Addr} {ce : Cell} {rest : List Value}, px_I g P0 ad0 s Γ.2.2.1 lv [] M ad dd H locs ls → H[q]? = some ce → ce.vm = .none → s.vm.findClass X9 = some ce.cls →
      vx_W p l e R s m args below meth c H locs k n (vx_MQ below (px_Qc g P0 ad0 Q) (px_XC g P0 ad0 Q) args s mc ms (px_AA g)) (F0 m pc ls rest) q
def pe_Met (E : Nat × Nat) (d mc ms : Nat) (Γ : px_Y) (As : List px_V) (M : px_M) (Q : px_Q) : Prop :=
  ∀ (l : Launch), l.flags = flags0 → (∀ v ∈ As, px_wf M v) → ∀ (g : px_G) (ad dd : px_R → Nat), px_gE g = E.1 → vx_Met l Γ.1 (px_ws Γ) (px_rm d mc ms) (va_Pc (As.map (px_v ad)) (fun U => px_St g U ∧ px_Vw g ad dd M U.heap ∧ va_Mi "[Ljava/lang/Object;" E.2 U)) (px_Qc g (fun r => M r ≠ none) ad Q) (px_XC g (fun r => M r ≠ none) ad Q) mc ms (px_AA g)
section PXIe
variable {g : px_G} {P0 : px_R → Prop} {ad0 : px_R → Nat} {s : State} {nL : Nat} {lv : List (Nat × px_V)} {st : List px_V} {M : px_M} {ad dd : px_R → Nat} {H : Heap} {locs : List Loc} {ls : Array Slot}
end PXIe
section PX1e
variable {E : Nat × Nat} {d mc ms : Nat} {Γ : px_Y} {Q : px_Q} {pc : Nat} {lv : List (Nat × px_V)} {st : List px_V} {M : px_M} {k n : Nat}
theorem pe_sub {lv' : List (Nat × px_V)} (kk : pe_W E d mc ms Γ Q pc lv' st M k n) (h : lv'.map (fun q => px_get lv q.1) = lv'.map (fun q => some q.2)) : pe_W E d mc ms Γ Q pc lv st M k n := by
  refine ⟨trivial, fun {p l e R s m args below meth c g P0 ad0} C {ad dd H locs ls} I => ?_⟩
  have hg : ∀ q ∈ lv', px_get lv q.1 = some q.2 := List.map_inj_left.mp h
  refine kk.2 C ⟨I.1, fun q hq => I.lwf (hg q hq), I.2.2.1, I.2.2.2.1, I.2.2.2.2.1, I.siz, I.has.2.1, fun q hq => ?_⟩
  obtain ⟨x, hx, rfl⟩ := List.mem_map.mp hq
  exact I.loc (hg x hx)
theorem pe_wid {k' n' : Nat} (h1 : k ≤ k') (h2 : n ≤ n') (kk : pe_W E d mc ms Γ Q pc lv st M k' n') : pe_W E d mc ms Γ Q pc lv st M k n := ⟨trivial, fun C _ _ _ _ _ I => W.widen h1 h2 (kk.2 C I)⟩
theorem pe_iconst {x : Int} {v : Int32} (hd : decode Γ.2.1 pc = .ok (.iconst x, 1)) (hv : Int32.ofInt x = v) (kk : pe_W E d mc ms Γ Q (pc + 1) lv (.inl (.int v) :: st) M k n) : pe_W E d mc ms Γ Q pc lv st M k n := ⟨trivial, fun C _ _ _ _ _ I => lv_iconst C.1 C.2.1 hd hv (kk.2 C (I.psh trivial))⟩
theorem pe_bipush {x : Int} {v : Int32} (hd : decode Γ.2.1 pc = .ok (.bipush x, 2)) (hv : (Int8.ofInt x).toInt32 = v) (kk : pe_W E d mc ms Γ Q (pc + 2) lv (.inl (.int v) :: st) M k n) : pe_W E d mc ms Γ Q pc lv st M k n := ⟨trivial, fun C _ _ _ _ _ I => lv_bipush C.1 C.2.1 hd hv (kk.2 C (I.psh trivial))⟩
theorem pe_sipush {x : Int} {v : Int32} (hd : decode Γ.2.1 pc = .ok (.sipush x, 3)) (hv : (Int16.ofInt x).toInt32 = v) (kk : pe_W E d mc ms Γ Q (pc + 3) lv (.inl (.int v) :: st) M k n) : pe_W E d mc ms Γ Q pc lv st M k n := ⟨trivial, fun C _ _ _ _ _ I => lv_sipush C.1 C.2.1 hd hv (kk.2 C (I.psh trivial))⟩
theorem pe_lconst {x : Fin 2} {v : Int64} (hd : decode Γ.2.1 pc = .ok (.lconst x, 1)) (hv : Int64.ofNat (x : Nat) = v) (kk : pe_W E d mc ms Γ Q (pc + 1) lv (.inl (.long v) :: st) M k n) : pe_W E d mc ms Γ Q pc lv st M k n := ⟨trivial, fun C _ _ _ _ _ I => lv_lconst C.1 C.2.1 hd hv (kk.2 C (I.psh trivial))⟩
theorem pe_dconst0 (hd : decode Γ.2.1 pc = .ok (.dconst 0, 1)) (kk : pe_W E d mc ms Γ Q (pc + 1) lv (.inl (.double FP.dconst0) :: st) M k n) : pe_W E d mc ms Γ Q pc lv st M k n := ⟨trivial, fun C _ _ _ _ _ I => lv_dconst0 C.1 C.2.1 hd (kk.2 C (I.psh trivial))⟩
theorem pe_anull (hd : decode Γ.2.1 pc = .ok (.aconst_null, 1)) (kk : pe_W E d mc ms Γ Q (pc + 1) lv (.inl .null :: st) M k n) : pe_W E d mc ms Γ Q pc lv st M k n := ⟨trivial, fun C _ _ _ _ _ I => lv_null C.1 C.2.1 hd (kk.2 C (I.psh trivial))⟩
theorem pe_ldc2d {index : Nat} {v : UInt64} (hd : decode Γ.2.1 pc = .ok (.ldc2_w index, 3)) (hw : Cond.constantDouble Γ.1.cls index v ∈ px_T) (kk : pe_W E d mc ms Γ Q (pc + 3) lv (.inl (.double v) :: st) M k n) : pe_W E d mc ms Γ Q pc lv st M k n := ⟨trivial, fun C _ _ _ _ _ I => lv_ldc2d C.1 C.2.1 C.2.2.2.2.2.1 (C.2.2.2.2.2.2.2.1 _ hw) hd (kk.2 C (I.psh trivial))⟩
theorem pe_ldc {index : Nat} {v : Int32} (hd : decode Γ.2.1 pc = .ok (.ldc index, 2)) (hw : Cond.constant Γ.1.cls index v ∈ px_T) (kk : pe_W E d mc ms Γ Q (pc + 2) lv (.inl (.int v) :: st) M k n) : pe_W E d mc ms Γ Q pc lv st M k n := ⟨trivial, fun C _ _ _ _ _ I => lv_ldc C.1 C.2.1 C.2.2.2.2.2.1 (C.2.2.2.2.2.2.2.1 _ hw) hd (kk.2 C (I.psh trivial))⟩
theorem pe_iload_n {j : Fin 4} {x : Int32} (hd : decode Γ.2.1 pc = .ok (.iload_n j, 1)) (hl : px_get lv (j : Nat) = some (.inl (.int x))) (kk : pe_W E d mc ms Γ Q (pc + 1) lv (.inl (.int x) :: st) M k n) : pe_W E d mc ms Γ Q pc lv st M k n := ⟨trivial, fun C _ _ _ _ _ I => lv_iload_n C.1 C.2.1 hd rfl (I.loc hl) (kk.2 C (I.psh trivial))⟩
theorem pe_iload {j : Nat} {x : Int32} (hd : decode Γ.2.1 pc = .ok (.iload j, 2)) (hl : px_get lv j = some (.inl (.int x))) (kk : pe_W E d mc ms Γ Q (pc + 2) lv (.inl (.int x) :: st) M k n) : pe_W E d mc ms Γ Q pc lv st M k n := ⟨trivial, fun C _ _ _ _ _ I => lv_iload C.1 C.2.1 hd (I.loc hl) (kk.2 C (I.psh trivial))⟩
theorem pe_dload_n {j : Fin 4} {x : UInt64} (hd : decode Γ.2.1 pc = .ok (.dload_n j, 1)) (hl : px_get lv (j : Nat) = some (.inl (.double x))) (kk : pe_W E d mc ms Γ Q (pc + 1) lv (.inl (.double x) :: st) M k n) : pe_W E d mc ms Γ Q pc lv st M k n := ⟨trivial, fun C _ _ _ _ _ I => lv_dload_n C.1 C.2.1 hd rfl (I.loc hl) (kk.2 C (I.psh trivial))⟩
theorem pe_dload {j : Nat} {x : UInt64} (hd : decode Γ.2.1 pc = .ok (.dload j, 2)) (hl : px_get lv j = some (.inl (.double x))) (kk : pe_W E d mc ms Γ Q (pc + 2) lv (.inl (.double x) :: st) M k n) : pe_W E d mc ms Γ Q pc lv st M k n := ⟨trivial, fun C _ _ _ _ _ I => lv_dload C.1 C.2.1 hd (I.loc hl) (kk.2 C (I.psh trivial))⟩
theorem pe_aload_n {j : Fin 4} {v : px_V} (hd : decode Γ.2.1 pc = .ok (.aload_n j, 1)) (hl : px_get lv (j : Nat) = some v) (hv : px_ref v) (kk : pe_W E d mc ms Γ Q (pc + 1) lv (v :: st) M k n) : pe_W E d mc ms Γ Q pc lv st M k n := by
  refine px_ref.cases (P := fun v => px_get lv (j : Nat) = some v → pe_W E d mc ms Γ Q (pc + 1) lv (v :: st) M k n → pe_W E d mc ms Γ Q pc lv st M k n) hv ?_ ?_ ?_ hl kk
  · exact fun r hl kk => ⟨trivial, fun {p l e R s m args below meth c g P0 ad0} C {ad dd H locs ls} I => lv_aload_n C.1 C.2.1 hd rfl (I.loc hl) (kk.2 C (I.psh (I.lwf hl)))⟩
  · exact fun r hl kk => ⟨trivial, fun {p l e R s m args below meth c g P0 ad0} C {ad dd H locs ls} I => lv_aload_n C.1 C.2.1 hd rfl (I.loc hl) (kk.2 C (I.psh (I.lwf hl)))⟩
  · exact fun hl kk => ⟨trivial, fun {p l e R s m args below meth c g P0 ad0} C {ad dd H locs ls} I => lv_aload_nN C.1 C.2.1 hd rfl (I.loc hl) (kk.2 C (I.psh (I.lwf hl)))⟩
theorem pe_aload {j : Nat} {v : px_V} (hd : decode Γ.2.1 pc = .ok (.aload j, 2)) (hl : px_get lv j = some v) (hv : px_ref v) (kk : pe_W E d mc ms Γ Q (pc + 2) lv (v :: st) M k n) : pe_W E d mc ms Γ Q pc lv st M k n := by
  refine px_ref.cases (P := fun v => px_get lv j = some v → pe_W E d mc ms Γ Q (pc + 2) lv (v :: st) M k n → pe_W E d mc ms Γ Q pc lv st M k n) hv ?_ ?_ ?_ hl kk
  · exact fun r hl kk => ⟨trivial, fun {p l e R s m args below meth c g P0 ad0} C {ad dd H locs ls} I => lv_aload C.1 C.2.1 hd (I.loc hl) (kk.2 C (I.psh (I.lwf hl)))⟩
  · exact fun r hl kk => ⟨trivial, fun {p l e R s m args below meth c g P0 ad0} C {ad dd H locs ls} I => lv_aload C.1 C.2.1 hd (I.loc hl) (kk.2 C (I.psh (I.lwf hl)))⟩
  · exact fun hl kk => ⟨trivial, fun {p l e R s m args below meth c g P0 ad0} C {ad dd H locs ls} I => lv_aloadN C.1 C.2.1 hd (I.loc hl) (kk.2 C (I.psh (I.lwf hl)))⟩
theorem pe_istore_n {j : Fin 4} {x : Int32} (hd : decode Γ.2.1 pc = .ok (.istore_n j, 1)) (hn : (j : Nat) < Γ.2.2.1) (kk : pe_W E d mc ms Γ Q (pc + 1) (px_st1 (j : Nat) (.inl (.int x)) lv) st M k n) : pe_W E d mc ms Γ Q pc lv (.inl (.int x) :: st) M k n := ⟨trivial, fun {p l e R s m args below meth c g P0 ad0} C {ad dd H locs ls} I => lv_istore_n C.1 C.2.1 hd rfl I.has hn (px_l_st1 ad (j : Nat) (.inl (.int x)) lv) fun _ h => kk.2 C (I.str1 h)⟩
theorem pe_istore {j : Nat} {x : Int32} (hd : decode Γ.2.1 pc = .ok (.istore j, 2)) (hn : j < Γ.2.2.1) (kk : pe_W E d mc ms Γ Q (pc + 2) (px_st1 j (.inl (.int x)) lv) st M k n) : pe_W E d mc ms Γ Q pc lv (.inl (.int x) :: st) M k n := ⟨trivial, fun {p l e R s m args below meth c g P0 ad0} C {ad dd H locs ls} I => lv_istore C.1 C.2.1 hd I.has hn (px_l_st1 ad j (.inl (.int x)) lv) fun _ h => kk.2 C (I.str1 h)⟩
theorem pe_dstore_n {j : Fin 4} {x : UInt64} (hd : decode Γ.2.1 pc = .ok (.dstore_n j, 1)) (hn : (j : Nat) + 1 < Γ.2.2.1) (kk : pe_W E d mc ms Γ Q (pc + 1) (px_st2 (j : Nat) (.inl (.double x)) lv) st M k n) : pe_W E d mc ms Γ Q pc lv (.inl (.double x) :: st) M k n := ⟨trivial, fun {p l e R s m args below meth c g P0 ad0} C {ad dd H locs ls} I => lv_dstore_n C.1 C.2.1 hd rfl I.has hn (px_l_st2 ad (j : Nat) (.inl (.double x)) lv) fun _ h => kk.2 C (I.str2 h)⟩
theorem pe_dstore {j : Nat} {x : UInt64} (hd : decode Γ.2.1 pc = .ok (.dstore j, 2)) (hn : j + 1 < Γ.2.2.1) (kk : pe_W E d mc ms Γ Q (pc + 2) (px_st2 j (.inl (.double x)) lv) st M k n) : pe_W E d mc ms Γ Q pc lv (.inl (.double x) :: st) M k n := ⟨trivial, fun {p l e R s m args below meth c g P0 ad0} C {ad dd H locs ls} I => lv_dstore C.1 C.2.1 hd I.has hn (px_l_st2 ad j (.inl (.double x)) lv) fun _ h => kk.2 C (I.str2 h)⟩
theorem pe_astore_n {j : Fin 4} {v : px_V} (hd : decode Γ.2.1 pc = .ok (.astore_n j, 1)) (hn : (j : Nat) < Γ.2.2.1) (hv : px_ref v) (kk : pe_W E d mc ms Γ Q (pc + 1) (px_st1 (j : Nat) v lv) st M k n) : pe_W E d mc ms Γ Q pc lv (v :: st) M k n := by
  refine px_ref.cases (P := fun v => pe_W E d mc ms Γ Q (pc + 1) (px_st1 (j : Nat) v lv) st M k n → pe_W E d mc ms Γ Q pc lv (v :: st) M k n) hv ?_ ?_ ?_ kk
  · exact fun r kk => ⟨trivial, fun {p l e R s m args below meth c g P0 ad0} C {ad dd H locs ls} I => lv_astore_n C.1 C.2.1 hd rfl I.has hn (px_l_st1 ad (j : Nat) (.inr r) lv) fun _ h => kk.2 C (I.str1 h)⟩
  · exact fun r kk => ⟨trivial, fun {p l e R s m args below meth c g P0 ad0} C {ad dd H locs ls} I => lv_astore_n C.1 C.2.1 hd rfl I.has hn (px_l_st1 ad (j : Nat) (.inl (.ref r)) lv) fun _ h => kk.2 C (I.str1 h)⟩
  · exact fun kk => ⟨trivial, fun {p l e R s m args below meth c g P0 ad0} C {ad dd H locs ls} I => lv_astore_nN C.1 C.2.1 hd rfl I.has hn (px_l_st1 ad (j : Nat) (.inl .null) lv) fun _ h => kk.2 C (I.str1 h)⟩
theorem pe_astore {j : Nat} {v : px_V} (hd : decode Γ.2.1 pc = .ok (.astore j, 2)) (hn : j < Γ.2.2.1) (hv : px_ref v) (kk : pe_W E d mc ms Γ Q (pc + 2) (px_st1 j v lv) st M k n) : pe_W E d mc ms Γ Q pc lv (v :: st) M k n := by
  refine px_ref.cases (P := fun v => pe_W E d mc ms Γ Q (pc + 2) (px_st1 j v lv) st M k n → pe_W E d mc ms Γ Q pc lv (v :: st) M k n) hv ?_ ?_ ?_ kk
  · exact fun r kk => ⟨trivial, fun {p l e R s m args below meth c g P0 ad0} C {ad dd H locs ls} I => lv_astore C.1 C.2.1 hd I.has hn (px_l_st1 ad j (.inr r) lv) fun _ h => kk.2 C (I.str1 h)⟩
  · exact fun r kk => ⟨trivial, fun {p l e R s m args below meth c g P0 ad0} C {ad dd H locs ls} I => lv_astore C.1 C.2.1 hd I.has hn (px_l_st1 ad j (.inl (.ref r)) lv) fun _ h => kk.2 C (I.str1 h)⟩
  · exact fun kk => ⟨trivial, fun {p l e R s m args below meth c g P0 ad0} C {ad dd H locs ls} I => lv_astoreN C.1 C.2.1 hd I.has hn (px_l_st1 ad j (.inl .null) lv) fun _ h => kk.2 C (I.str1 h)⟩
theorem pe_iinc {j : Nat} {a : Int} {x v : Int32} (hd : decode Γ.2.1 pc = .ok (.iinc j a, 3)) (hl : px_get lv j = some (.inl (.int x))) (hv : x + Int32.ofInt a = v) (hn : j < Γ.2.2.1) (kk : pe_W E d mc ms Γ Q (pc + 3) (px_st1 j (.inl (.int v)) lv) st M k n) : pe_W E d mc ms Γ Q pc lv st M k n := by
  refine ⟨trivial, fun {p l e R s m args below meth c g P0 ad0} C {ad dd H locs ls} I => ?_⟩
  obtain ⟨i, hi⟩ := List.getElem?_of_mem (px_get_mem hl)
  exact lv_iinc (k := i) C.1 C.2.1 hd I.has (by rw [px_l, List.getElem?_map, hi]; rfl) hv hn (px_l_st1 ad j (.inl (.int v)) lv) fun _ h => kk.2 C ((I.psh (v := .inl (.int v)) trivial).str1 h)
theorem pe_iadd {x y : Int32} (hd : decode Γ.2.1 pc = .ok (.iadd, 1)) (kk : pe_W E d mc ms Γ Q (pc + 1) lv (.inl (.int (x + y)) :: st) M k n) : pe_W E d mc ms Γ Q pc lv (.inl (.int y) :: .inl (.int x) :: st) M k n := ⟨trivial, fun C _ _ _ _ _ I => lv_iadd C.1 C.2.1 hd (kk.2 C (I.pop.pop.psh trivial))⟩
theorem pe_isub {x y : Int32} (hd : decode Γ.2.1 pc = .ok (.isub, 1)) (kk : pe_W E d mc ms Γ Q (pc + 1) lv (.inl (.int (x - y)) :: st) M k n) : pe_W E d mc ms Γ Q pc lv (.inl (.int y) :: .inl (.int x) :: st) M k n := ⟨trivial, fun C _ _ _ _ _ I => lv_isub C.1 C.2.1 hd (kk.2 C (I.pop.pop.psh trivial))⟩
theorem pe_imul {x y : Int32} (hd : decode Γ.2.1 pc = .ok (.imul, 1)) (kk : pe_W E d mc ms Γ Q (pc + 1) lv (.inl (.int (x * y)) :: st) M k n) : pe_W E d mc ms Γ Q pc lv (.inl (.int y) :: .inl (.int x) :: st) M k n := ⟨trivial, fun C _ _ _ _ _ I => lv_imul C.1 C.2.1 hd (kk.2 C (I.pop.pop.psh trivial))⟩
theorem pe_iand {x y : Int32} (hd : decode Γ.2.1 pc = .ok (.iand, 1)) (kk : pe_W E d mc ms Γ Q (pc + 1) lv (.inl (.int (x &&& y)) :: st) M k n) : pe_W E d mc ms Γ Q pc lv (.inl (.int y) :: .inl (.int x) :: st) M k n := ⟨trivial, fun C _ _ _ _ _ I => lv_iand C.1 C.2.1 hd (kk.2 C (I.pop.pop.psh trivial))⟩
theorem pe_ishr {x y : Int32} (hd : decode Γ.2.1 pc = .ok (.ishr, 1)) (kk : pe_W E d mc ms Γ Q (pc + 1) lv (.inl (.int (x >>> (y &&& 31))) :: st) M k n) : pe_W E d mc ms Γ Q pc lv (.inl (.int y) :: .inl (.int x) :: st) M k n := ⟨trivial, fun C _ _ _ _ _ I => lv_ishr C.1 C.2.1 hd (kk.2 C (I.pop.pop.psh trivial))⟩
theorem pe_i2l {x : Int32} (hd : decode Γ.2.1 pc = .ok (.i2l, 1)) (kk : pe_W E d mc ms Γ Q (pc + 1) lv (.inl (.long x.toInt64) :: st) M k n) : pe_W E d mc ms Γ Q pc lv (.inl (.int x) :: st) M k n := ⟨trivial, fun C _ _ _ _ _ I => lv_i2l C.1 C.2.1 hd rfl (kk.2 C (I.pop.psh trivial))⟩
theorem pe_i2d {x : Int32} (hd : decode Γ.2.1 pc = .ok (.i2d, 1)) (kk : pe_W E d mc ms Γ Q (pc + 1) lv (.inl (.double (FP.i2d x)) :: st) M k n) : pe_W E d mc ms Γ Q pc lv (.inl (.int x) :: st) M k n := ⟨trivial, fun C _ _ _ _ _ I => lv_i2d C.1 C.2.1 hd (kk.2 C (I.pop.psh trivial))⟩
theorem pe_l2d {x : Int64} (hd : decode Γ.2.1 pc = .ok (.l2d, 1)) (kk : pe_W E d mc ms Γ Q (pc + 1) lv (.inl (.double (FP.l2d x)) :: st) M k n) : pe_W E d mc ms Γ Q pc lv (.inl (.long x) :: st) M k n := ⟨trivial, fun C _ _ _ _ _ I => lv_l2d C.1 C.2.1 hd (kk.2 C (I.pop.psh trivial))⟩
theorem pe_d2i {x : UInt64} (hd : decode Γ.2.1 pc = .ok (.d2i, 1)) (kk : pe_W E d mc ms Γ Q (pc + 1) lv (.inl (.int (FP.d2i x)) :: st) M k n) : pe_W E d mc ms Γ Q pc lv (.inl (.double x) :: st) M k n := ⟨trivial, fun C _ _ _ _ _ I => lv_d2i C.1 C.2.1 hd (kk.2 C (I.pop.psh trivial))⟩
theorem pe_d2l {x : UInt64} (hd : decode Γ.2.1 pc = .ok (.d2l, 1)) (kk : pe_W E d mc ms Γ Q (pc + 1) lv (.inl (.long (FP.d2l x)) :: st) M k n) : pe_W E d mc ms Γ Q pc lv (.inl (.double x) :: st) M k n := ⟨trivial, fun C _ _ _ _ _ I => lv_d2l C.1 C.2.1 hd (kk.2 C (I.pop.psh trivial))⟩
theorem pe_dadd {x y z : UInt64} (hd : decode Γ.2.1 pc = .ok (.dadd, 1)) (hz : FP.dadd x y = z) (hn : vf_n64 z) (kk : pe_W E d mc ms Γ Q (pc + 1) lv (.inl (.double z) :: st) M k n) : pe_W E d mc ms Γ Q pc lv (.inl (.double y) :: .inl (.double x) :: st) M k n := by
  subst hz
  exact ⟨trivial, fun C _ _ _ _ _ I => lv_dadd C.1 C.2.1 hd hn (kk.2 C (I.pop.pop.psh trivial))⟩
theorem pe_dsub {x y z : UInt64} (hd : decode Γ.2.1 pc = .ok (.dsub, 1)) (hz : FP.dsub x y = z) (hn : vf_n64 z) (kk : pe_W E d mc ms Γ Q (pc + 1) lv (.inl (.double z) :: st) M k n) : pe_W E d mc ms Γ Q pc lv (.inl (.double y) :: .inl (.double x) :: st) M k n := by
  subst hz
  exact ⟨trivial, fun C _ _ _ _ _ I => lv_dsub C.1 C.2.1 hd hn (kk.2 C (I.pop.pop.psh trivial))⟩
theorem pe_dmul {x y z : UInt64} (hd : decode Γ.2.1 pc = .ok (.dmul, 1)) (hz : FP.dmul x y = z) (hn : vf_n64 z) (kk : pe_W E d mc ms Γ Q (pc + 1) lv (.inl (.double z) :: st) M k n) : pe_W E d mc ms Γ Q pc lv (.inl (.double y) :: .inl (.double x) :: st) M k n := by
  subst hz
  exact ⟨trivial, fun C _ _ _ _ _ I => lv_dmul C.1 C.2.1 hd hn (kk.2 C (I.pop.pop.psh trivial))⟩
theorem pe_ddiv {x y z : UInt64} (hd : decode Γ.2.1 pc = .ok (.ddiv, 1)) (hz : FP.ddiv x y = z) (hn : vf_n64 z) (kk : pe_W E d mc ms Γ Q (pc + 1) lv (.inl (.double z) :: st) M k n) : pe_W E d mc ms Γ Q pc lv (.inl (.double y) :: .inl (.double x) :: st) M k n := by
  subst hz
  exact ⟨trivial, fun C _ _ _ _ _ I => lv_ddiv C.1 C.2.1 hd hn (kk.2 C (I.pop.pop.psh trivial))⟩
theorem pe_dcmp {x y : UInt64} {op : CmpOp} (hd : decode Γ.2.1 pc = .ok (.dcmp op, 1)) (kk : pe_W E d mc ms Γ Q (pc + 1) lv (.inl (.int (Op.cmpValue (FP.dcmp x y) op)) :: st) M k n) : pe_W E d mc ms Γ Q pc lv (.inl (.double y) :: .inl (.double x) :: st) M k n := ⟨trivial, fun C _ _ _ _ _ I => lv_dcmp C.1 C.2.1 hd (kk.2 C (I.pop.pop.psh trivial))⟩
theorem pe_lcmp {x y : Int64} (hd : decode Γ.2.1 pc = .ok (.lcmp, 1)) (kk : pe_W E d mc ms Γ Q (pc + 1) lv (.inl (.int (lg_cmp x y)) :: st) M k n) : pe_W E d mc ms Γ Q pc lv (.inl (.long y) :: .inl (.long x) :: st) M k n := ⟨trivial, fun C _ _ _ _ _ I => W.lcmp C.1 C.2.1 hd (kk.2 C (I.pop.pop.psh trivial))⟩
theorem pe_dup {v : px_V} (hd : decode Γ.2.1 pc = .ok (.dup, 1)) (hv : px_cat v = 1) (kk : pe_W E d mc ms Γ Q (pc + 1) lv (v :: v :: st) M k n) : pe_W E d mc ms Γ Q pc lv (v :: st) M k n := ⟨trivial, fun C _ _ _ _ _ I => lv_dup C.1 C.2.1 hd ((px_cat_v _ v).trans hv) (kk.2 C (I.psh I.top))⟩
theorem pe_pop {v : px_V} (hd : decode Γ.2.1 pc = .ok (.pop, 1)) (hv : px_cat v = 1) (kk : pe_W E d mc ms Γ Q (pc + 1) lv st M k n) : pe_W E d mc ms Γ Q pc lv (v :: st) M k n := ⟨trivial, fun C _ _ _ _ _ I => lv_pop C.1 C.2.1 hd ((px_cat_v _ v).trans hv) (kk.2 C I.pop)⟩
theorem pe_dup_x1 {v w : px_V} (hd : decode Γ.2.1 pc = .ok (.dup_x1, 1)) (hv : px_cat v = 1) (hw : px_cat w = 1) (kk : pe_W E d mc ms Γ Q (pc + 1) lv (v :: w :: v :: st) M k n) : pe_W E d mc ms Γ Q pc lv (v :: w :: st) M k n := ⟨trivial, fun C _ _ _ _ _ I => lv_dup_x1 C.1 C.2.1 hd ((px_cat_v _ v).trans hv) ((px_cat_v _ w).trans hw) (kk.2 C (((I.pop.pop.psh I.top).psh I.pop.top).psh I.top))⟩
theorem pe_dup2 {v w : px_V} (hd : decode Γ.2.1 pc = .ok (.dup2, 1)) (hv : px_cat v = 1) (hw : px_cat w = 1) (kk : pe_W E d mc ms Γ Q (pc + 1) lv (v :: w :: v :: w :: st) M k n) : pe_W E d mc ms Γ Q pc lv (v :: w :: st) M k n := ⟨trivial, fun C _ _ _ _ _ I => lv_dup2_11 C.1 C.2.1 hd ((px_cat_v _ v).trans hv) ((px_cat_v _ w).trans hw) (kk.2 C ((I.psh I.pop.top).psh I.top))⟩
theorem pe_goto {off : Int} {tgt : Nat} (hd : decode Γ.2.1 pc = .ok (.goto off, 3)) (ht : (pc : Int) + off = (tgt : Int)) (kk : pe_W E d mc ms Γ Q tgt lv st M k n) : pe_W E d mc ms Γ Q pc lv st M k n := ⟨trivial, fun C _ _ _ _ _ I => lv_goto C.1 C.2.1 hd ht (kk.2 C I)⟩
theorem pe_if_eq {x : Int32} {off : Int} {tgt : Nat} (hd : decode Γ.2.1 pc = .ok (.ifCond .eq off, 3)) (ht : (pc : Int) + off = (tgt : Int)) (kt : x = 0 → pe_W E d mc ms Γ Q tgt lv st M k n) (kf : ¬ x = 0 → pe_W E d mc ms Γ Q (pc + 3) lv st M k n) : pe_W E d mc ms Γ Q pc lv (.inl (.int x) :: st) M k n := ⟨trivial, fun C _ _ _ _ _ I => lv_if_eq C.1 C.2.1 hd ht (fun h => (kt h).2 C I.pop) (fun h => (kf h).2 C I.pop)⟩
theorem pe_if_ne {x : Int32} {off : Int} {tgt : Nat} (hd : decode Γ.2.1 pc = .ok (.ifCond .ne off, 3)) (ht : (pc : Int) + off = (tgt : Int)) (kt : ¬ x = 0 → pe_W E d mc ms Γ Q tgt lv st M k n) (kf : x = 0 → pe_W E d mc ms Γ Q (pc + 3) lv st M k n) : pe_W E d mc ms Γ Q pc lv (.inl (.int x) :: st) M k n := ⟨trivial, fun C _ _ _ _ _ I => lv_if_ne C.1 C.2.1 hd ht (fun h => (kt h).2 C I.pop) (fun h => (kf h).2 C I.pop)⟩
theorem pe_if_lt {x : Int32} {off : Int} {tgt : Nat} (hd : decode Γ.2.1 pc = .ok (.ifCond .lt off, 3)) (ht : (pc : Int) + off = (tgt : Int)) (kt : x < 0 → pe_W E d mc ms Γ Q tgt lv st M k n) (kf : ¬ x < 0 → pe_W E d mc ms Γ Q (pc + 3) lv st M k n) : pe_W E d mc ms Γ Q pc lv (.inl (.int x) :: st) M k n := ⟨trivial, fun C _ _ _ _ _ I => lv_if_lt C.1 C.2.1 hd ht (fun h => (kt h).2 C I.pop) (fun h => (kf h).2 C I.pop)⟩
theorem pe_if_ge {x : Int32} {off : Int} {tgt : Nat} (hd : decode Γ.2.1 pc = .ok (.ifCond .ge off, 3)) (ht : (pc : Int) + off = (tgt : Int)) (kt : 0 ≤ x → pe_W E d mc ms Γ Q tgt lv st M k n) (kf : ¬ 0 ≤ x → pe_W E d mc ms Γ Q (pc + 3) lv st M k n) : pe_W E d mc ms Γ Q pc lv (.inl (.int x) :: st) M k n := ⟨trivial, fun C _ _ _ _ _ I => lv_if_ge C.1 C.2.1 hd ht (fun h => (kt h).2 C I.pop) (fun h => (kf h).2 C I.pop)⟩
theorem pe_if_gt {x : Int32} {off : Int} {tgt : Nat} (hd : decode Γ.2.1 pc = .ok (.ifCond .gt off, 3)) (ht : (pc : Int) + off = (tgt : Int)) (kt : 0 < x → pe_W E d mc ms Γ Q tgt lv st M k n) (kf : ¬ 0 < x → pe_W E d mc ms Γ Q (pc + 3) lv st M k n) : pe_W E d mc ms Γ Q pc lv (.inl (.int x) :: st) M k n := ⟨trivial, fun C _ _ _ _ _ I => lv_if_gt C.1 C.2.1 hd ht (fun h => (kt h).2 C I.pop) (fun h => (kf h).2 C I.pop)⟩
theorem pe_if_le {x : Int32} {off : Int} {tgt : Nat} (hd : decode Γ.2.1 pc = .ok (.ifCond .le off, 3)) (ht : (pc : Int) + off = (tgt : Int)) (kt : x ≤ 0 → pe_W E d mc ms Γ Q tgt lv st M k n) (kf : ¬ x ≤ 0 → pe_W E d mc ms Γ Q (pc + 3) lv st M k n) : pe_W E d mc ms Γ Q pc lv (.inl (.int x) :: st) M k n := ⟨trivial, fun C _ _ _ _ _ I => lv_if_le C.1 C.2.1 hd ht (fun h => (kt h).2 C I.pop) (fun h => (kf h).2 C I.pop)⟩
theorem pe_icmp_eq {x y : Int32} {off : Int} {tgt : Nat} (hd : decode Γ.2.1 pc = .ok (.if_icmp .eq off, 3)) (ht : (pc : Int) + off = (tgt : Int)) (kt : x = y → pe_W E d mc ms Γ Q tgt lv st M k n) (kf : ¬ x = y → pe_W E d mc ms Γ Q (pc + 3) lv st M k n) : pe_W E d mc ms Γ Q pc lv (.inl (.int y) :: .inl (.int x) :: st) M k n := ⟨trivial, fun C _ _ _ _ _ I => lv_icmp_eq C.1 C.2.1 hd ht (fun h => (kt h).2 C I.pop.pop) (fun h => (kf h).2 C I.pop.pop)⟩
theorem pe_icmp_ne {x y : Int32} {off : Int} {tgt : Nat} (hd : decode Γ.2.1 pc = .ok (.if_icmp .ne off, 3)) (ht : (pc : Int) + off = (tgt : Int)) (kt : ¬ x = y → pe_W E d mc ms Γ Q tgt lv st M k n) (kf : x = y → pe_W E d mc ms Γ Q (pc + 3) lv st M k n) : pe_W E d mc ms Γ Q pc lv (.inl (.int y) :: .inl (.int x) :: st) M k n := ⟨trivial, fun C _ _ _ _ _ I => lv_icmp_ne C.1 C.2.1 hd ht (fun h => (kt h).2 C I.pop.pop) (fun h => (kf h).2 C I.pop.pop)⟩
theorem pe_icmp_lt {x y : Int32} {off : Int} {tgt : Nat} (hd : decode Γ.2.1 pc = .ok (.if_icmp .lt off, 3)) (ht : (pc : Int) + off = (tgt : Int)) (kt : x < y → pe_W E d mc ms Γ Q tgt lv st M k n) (kf : ¬ x < y → pe_W E d mc ms Γ Q (pc + 3) lv st M k n) : pe_W E d mc ms Γ Q pc lv (.inl (.int y) :: .inl (.int x) :: st) M k n := ⟨trivial, fun C _ _ _ _ _ I => lv_icmp_lt C.1 C.2.1 hd ht (fun h => (kt h).2 C I.pop.pop) (fun h => (kf h).2 C I.pop.pop)⟩
theorem pe_icmp_ge {x y : Int32} {off : Int} {tgt : Nat} (hd : decode Γ.2.1 pc = .ok (.if_icmp .ge off, 3)) (ht : (pc : Int) + off = (tgt : Int)) (kt : y ≤ x → pe_W E d mc ms Γ Q tgt lv st M k n) (kf : ¬ y ≤ x → pe_W E d mc ms Γ Q (pc + 3) lv st M k n) : pe_W E d mc ms Γ Q pc lv (.inl (.int y) :: .inl (.int x) :: st) M k n := ⟨trivial, fun C _ _ _ _ _ I => lv_icmp_ge C.1 C.2.1 hd ht (fun h => (kt h).2 C I.pop.pop) (fun h => (kf h).2 C I.pop.pop)⟩
theorem pe_icmp_gt {x y : Int32} {off : Int} {tgt : Nat} (hd : decode Γ.2.1 pc = .ok (.if_icmp .gt off, 3)) (ht : (pc : Int) + off = (tgt : Int)) (kt : y < x → pe_W E d mc ms Γ Q tgt lv st M k n) (kf : ¬ y < x → pe_W E d mc ms Γ Q (pc + 3) lv st M k n) : pe_W E d mc ms Γ Q pc lv (.inl (.int y) :: .inl (.int x) :: st) M k n := ⟨trivial, fun C _ _ _ _ _ I => lv_icmp_gt C.1 C.2.1 hd ht (fun h => (kt h).2 C I.pop.pop) (fun h => (kf h).2 C I.pop.pop)⟩
theorem pe_icmp_le {x y : Int32} {off : Int} {tgt : Nat} (hd : decode Γ.2.1 pc = .ok (.if_icmp .le off, 3)) (ht : (pc : Int) + off = (tgt : Int)) (kt : x ≤ y → pe_W E d mc ms Γ Q tgt lv st M k n) (kf : ¬ x ≤ y → pe_W E d mc ms Γ Q (pc + 3) lv st M k n) : pe_W E d mc ms Γ Q pc lv (.inl (.int y) :: .inl (.int x) :: st) M k n := ⟨trivial, fun C _ _ _ _ _ I => lv_icmp_le C.1 C.2.1 hd ht (fun h => (kt h).2 C I.pop.pop) (fun h => (kf h).2 C I.pop.pop)⟩
theorem pe_ifnull {o : Option px_R} {off : Int} {tgt : Nat} (hd : decode Γ.2.1 pc = .ok (.ifnull off, 3)) (ht : (pc : Int) + off = (tgt : Int)) (kt : o = none → pe_W E d mc ms Γ Q tgt lv st M k n) (kf : ∀ r, o = some r → pe_W E d mc ms Γ Q (pc + 3) lv st M k n) : pe_W E d mc ms Γ Q pc lv (px_rf o :: st) M k n := by
  cases o with
  | none => exact ⟨trivial, fun C _ _ _ _ _ I => lv_ifnullN C.1 C.2.1 hd ht ((kt rfl).2 C I.pop)⟩
  | some r => exact ⟨trivial, fun C _ _ _ _ _ I => lv_ifnull C.1 C.2.1 hd ((kf r rfl).2 C I.pop)⟩
theorem pe_ifnonnull {o : Option px_R} {off : Int} {tgt : Nat} (hd : decode Γ.2.1 pc = .ok (.ifnonnull off, 3)) (ht : (pc : Int) + off = (tgt : Int)) (kt : ∀ r, o = some r → pe_W E d mc ms Γ Q tgt lv st M k n) (kf : o = none → pe_W E d mc ms Γ Q (pc + 3) lv st M k n) : pe_W E d mc ms Γ Q pc lv (px_rf o :: st) M k n := by
  cases o with
  | none => exact ⟨trivial, fun C _ _ _ _ _ I => lv_ifnonnullN C.1 C.2.1 hd ((kf rfl).2 C I.pop)⟩
  | some r => exact ⟨trivial, fun C _ _ _ _ _ I => lv_ifnonnull C.1 C.2.1 hd ht ((kt r rfl).2 C I.pop)⟩
theorem pe_acmp_ne {r r' : px_R} {off : Int} {tgt : Nat} (hd : decode Γ.2.1 pc = .ok (.if_acmp .ne off, 3)) (ht : (pc : Int) + off = (tgt : Int)) (kt : ¬ r = r' → pe_W E d mc ms Γ Q tgt lv st M k n) (kf : r = r' → pe_W E d mc ms Γ Q (pc + 3) lv st M k n) : pe_W E d mc ms Γ Q pc lv (.inr r' :: .inr r :: st) M k n := ⟨trivial, fun {p l e R s m args below meth c g P0 ad0} C {ad dd H locs ls} I => lv_acmp_ne (rx := some (ad r)) (ry := some (ad r')) C.1 C.2.1 hd ht (fun h => (kt (fun e => h (by rw [e]))).2 C I.pop.pop) (fun h => (kf (I.1.inj I.pop.top I.top (Option.some.inj h))).2 C I.pop.pop)⟩
theorem pe_acmp_eq {r r' : px_R} {off : Int} {tgt : Nat} (hd : decode Γ.2.1 pc = .ok (.if_acmp .eq off, 3)) (ht : (pc : Int) + off = (tgt : Int)) (kt : r = r' → pe_W E d mc ms Γ Q tgt lv st M k n) (kf : ¬ r = r' → pe_W E d mc ms Γ Q (pc + 3) lv st M k n) : pe_W E d mc ms Γ Q pc lv (.inr r' :: .inr r :: st) M k n := ⟨trivial, fun {p l e R s m args below meth c g P0 ad0} C {ad dd H locs ls} I => lv_acmp_eq (rx := some (ad r)) (ry := some (ad r')) C.1 C.2.1 hd ht (fun h => (kt (I.1.inj I.pop.top I.top (Option.some.inj h))).2 C I.pop.pop) (fun h => (kf (fun e => h (by rw [e]))).2 C I.pop.pop)⟩
theorem pe_acmp_eqE {a : Nat} {off : Int} {tgt : Nat} (hd : decode Γ.2.1 pc = .ok (.if_acmp .eq off, 3)) (ht : (pc : Int) + off = (tgt : Int)) (kt : pe_W E d mc ms Γ Q tgt lv st M k n) : pe_W E d mc ms Γ Q pc lv (.inl (.ref a) :: .inl (.ref a) :: st) M k n := ⟨trivial, fun C _ _ _ _ _ I => lv_acmp_eq (rx := some a) (ry := some a) C.1 C.2.1 hd ht (fun _ => kt.2 C I.pop.pop) (fun h => absurd rfl h)⟩
theorem pe_tableOut {dflt lo hi : Int} {offs : Array Int} {len : Nat} {x : Int32} {tgt : Nat} (hd : decode Γ.2.1 pc = .ok (.tableswitch dflt lo hi offs, len)) (h : x.toInt < lo ∨ hi < x.toInt) (ht : (pc : Int) + dflt = (tgt : Int)) (kk : pe_W E d mc ms Γ Q tgt lv st M k n) : pe_W E d mc ms Γ Q pc lv (.inl (.int x) :: st) M k n := ⟨trivial, fun C _ _ _ _ _ I => lv_tableOut C.1 C.2.1 hd h ht (kk.2 C I.pop)⟩
theorem pe_tableIn {dflt lo hi : Int} {offs : Array Int} {len : Nat} {x : Int32} {off : Int} {tgt : Nat} (hd : decode Γ.2.1 pc = .ok (.tableswitch dflt lo hi offs, len)) (h1 : ¬ x.toInt < lo) (h2 : ¬ hi < x.toInt) (ho : offs[(x.toInt - lo).toNat]? = some off) (ht : (pc : Int) + off = (tgt : Int)) (kk : pe_W E d mc ms Γ Q tgt lv st M k n) : pe_W E d mc ms Γ Q pc lv (.inl (.int x) :: st) M k n := ⟨trivial, fun C _ _ _ _ _ I => lv_tableIn C.1 C.2.1 hd h1 h2 ho ht (kk.2 C I.pop)⟩
end PX1e

section PX2e
variable {p : Program} {l : Launch} {e : Env} {R : Room} {s : State} {m : MethodId} {args : Array Value} {below : List Frame} {meth : Method} {c : Code} {H : Heap} {locs : List Loc} {cells slots : Nat} {Z : State → Prop} {cc : ByteArray} {pc : Nat} {ls : Array Slot} {rest : List Value} {D : va_G} {tys : List (ClassId × FieldType)} {a : Nat}
end PX2e
section PX3e
variable {E : Nat × Nat} {d mc ms : Nat} {Γ : px_Y} {Q : px_Q} {pc : Nat} {lv : List (Nat × px_V)} {st : List px_V} {M : px_M} {k n : Nat}
theorem pe_getf {index ci kf : Nat} {r : px_R} {fs : List px_V} {v : px_V} (hd : decode Γ.2.1 pc = .ok (.getfield index, 3)) (hf : px_fl Γ.1.cls index ci kf) (hr : M r = some (.inl (ci, fs))) (hv : fs[kf]? = some v)
    (kk : pe_W E d mc ms Γ Q (pc + 3) lv (v :: st) M k n) : pe_W E d mc ms Γ Q pc lv (.inr r :: st) M k n := by
  refine ⟨trivial, fun {p l e R s m args below meth c g P0 ad0} C {ad dd H locs ls} I => ?_⟩
  obtain ⟨⟨Cn, T, N⟩, hc, hk, ref, hsame, hlink⟩ := hf
  obtain ⟨hx, hb, hml, hrt, hlk, hown, hnm, hts, htb, hfl, hSt, hR⟩ := id C
  have hP := px_one (px_at.obj (I.1.1 r _ hr))
  have hv' : (fs.map (px_v ad))[kf]? = some (px_v ad v) := by rw [List.getElem?_map, hv]; rfl
  have hwf : px_wf M v := (I.1.2.1 r _ hr) v (List.mem_of_getElem? hv)
  have hsm : ∀ x, s.fieldFound? (T kf).1 (T kf).2.1 (T kf).2.2.1 = some x → s.fieldFound? ref (T kf).2.1 (T kf).2.2.1 = some x := by
    rcases hsame with h | h
    · intro x hx; rw [h]; exact hx
    · exact u_same (hts _ h)
  rcases hlink with hlink | ⟨host, hlink⟩
  · exact va_get hx hb hts (px_clin ci _ hc) hown hSt.1 hP 0 rfl hc kf hk (hts _ hlink) hsm hv' hd (kk.2 C (I.pop.psh hwf))
  · exact va_getN hx hb hts (px_clin ci _ hc) hown hSt.1 hP 0 rfl hc kf hk (va_Nw.use rfl (hSt.2.2.2.2.2.2.1 _ hlink rfl)) hsm hv' hd (kk.2 C (I.pop.psh hwf))
theorem pe_putf {index ci kf : Nat} {r : px_R} {fs : List px_V} {v : px_V} (hd : decode Γ.2.1 pc = .ok (.putfield index, 3)) (hf : px_fl Γ.1.cls index ci kf) (hnf : px_nf ci kf) (hr : M r = some (.inl (ci, fs))) (hl : kf < fs.length)
    (hn : ∀ ad, narrow (px_fty ci kf) (px_v ad v) = px_v ad v ∧ fits (px_fty ci kf) (px_v ad v) = true)
    (kk : pe_W E d mc ms Γ Q (pc + 3) lv st (px_up M r (.inl (ci, fs.set kf v))) k n) : pe_W E d mc ms Γ Q pc lv (v :: .inr r :: st) M k n := by
  refine ⟨trivial, fun {p l e R s m args below meth c g P0 ad0} C {ad dd H locs ls} I => ?_⟩
  obtain ⟨q, hc, hk, ref, hsame, hlink⟩ := hf
  obtain ⟨hx, hb, hml, hrt, hlk, hown, hnm, hts, htb, hfl, hSt, hR⟩ := id C
  have hsm : ∀ x, s.fieldFound? (q.2.1 kf).1 (q.2.1 kf).2.1 (q.2.1 kf).2.2.1 = some x → s.fieldFound? ref (q.2.1 kf).2.1 (q.2.1 kf).2.2.1 = some x := by
    rcases hsame with h | h
    · intro x hx; rw [h]; exact hx
    · exact u_same (hts _ h)
  have hrn : M r ≠ none := by rw [hr]; exact fun z => by cases z
  refine px_put0 hx hb hts hown hSt.1 (px_at.obj (I.1.1 r _ hr)) hc hk ?_ hsm (hnf q hc) (hn ad).1 (hn ad).2 (by rw [List.length_map]; exact hl) hd fun H1 i e1 e2 e3 => ?_
  · rcases hlink with h | ⟨host, h⟩
    · exact Or.inl (hts _ h)
    · exact Or.inr ⟨host, va_Nw.use rfl (hSt.2.2.2.2.2.2.1 _ h rfl)⟩
  · refine kk.2 C ⟨I.1.set hr (fun xs z => by cases z) (fun xs z => by cases z) ?_ ?_ e3, fun q hq => (I.2.1 q hq).mono fun _ => px_up_nn, fun w hw => (I.pop.pop.2.2.1 w hw).mono fun _ => px_up_nn, fun x hx => ⟨px_up_nn (I.2.2.2.1 x hx).1, (I.2.2.2.1 x hx).2⟩, I.2.2.2.2.1.put e2 e3 (I.1.ge hrn), I.has⟩
    · show va_at (px_gD g) px_cl (ad r, .inr (ci, (fs.set kf v).map (px_v ad))) H1
      rw [List.map_set]; exact e1
    · intro w hw
      rcases List.mem_or_eq_of_mem_set hw with h | h
      · exact (I.1.2.1 r _ hr) w h
      · rw [h]; exact I.top
theorem pe_putF {index ci kf : Nat} {r : px_R} {fs : List px_V} {v : px_V} (hd : decode Γ.2.1 pc = .ok (.putfield index, 3)) (hf : ∃ q : vw_C, px_cl[ci]? = some q ∧ kf < q.2.2 ∧ (q.2.1 kf).2.2.2 = true ∧ (q.2.1 kf).1 = Γ.1.cls ∧ Cond.fieldLink Γ.1.cls index (q.2.1 kf).1 (q.2.1 kf).2.1 (q.2.1 kf).2.2.1 ∈ px_T) (hni : Γ.1.name = "<init>") (hr : M r = some (.inl (ci, fs))) (hl : kf < fs.length)
    (hn : ∀ ad, narrow (px_fty ci kf) (px_v ad v) = px_v ad v ∧ fits (px_fty ci kf) (px_v ad v) = true)
    (kk : pe_W E d mc ms Γ Q (pc + 3) lv st (px_up M r (.inl (ci, fs.set kf v))) k n) : pe_W E d mc ms Γ Q pc lv (v :: .inr r :: st) M k n := by
  refine ⟨trivial, fun {p l e R s m args below meth c g P0 ad0} C {ad dd H locs ls} I => ?_⟩
  obtain ⟨q, hc, hk, hfin, hdecl, hlink⟩ := hf
  obtain ⟨hx, hb, hml, hrt, hlk, hown, hnm, hts, htb, hfl, hSt, hR⟩ := id C
  have hrn : M r ≠ none := by rw [hr]; exact fun z => by cases z
  refine px_putF0 hx hb hts hown hSt.1 (px_at.obj (I.1.1 r _ hr)) hc hk (hts _ hlink) hfin (hnm.trans hni) hdecl (hn ad).1 (hn ad).2 (by rw [List.length_map]; exact hl) hd fun H1 i e1 e2 e3 => ?_
  refine kk.2 C ⟨I.1.set hr (fun xs z => by cases z) (fun xs z => by cases z) ?_ ?_ e3, fun q hq => (I.2.1 q hq).mono fun _ => px_up_nn, fun w hw => (I.pop.pop.2.2.1 w hw).mono fun _ => px_up_nn, fun x hx => ⟨px_up_nn (I.2.2.2.1 x hx).1, (I.2.2.2.1 x hx).2⟩, I.2.2.2.2.1.put e2 e3 (I.1.ge hrn), I.has⟩
  · show va_at (px_gD g) px_cl (ad r, .inr (ci, (fs.set kf v).map (px_v ad))) H1
    rw [List.map_set]; exact e1
  · intro w hw
    rcases List.mem_or_eq_of_mem_set hw with h | h
    · exact (I.1.2.1 r _ hr) w h
    · rw [h]; exact I.top
theorem pe_ald_i {r : px_R} {len : Nat} {f : Nat → Int32} {i : Int32} {j : Nat} (hd : decode Γ.2.1 pc = .ok (.iaload, 1)) (hr : M r = some (.inr (.inl (0, len, .inl f)))) (hi : i = nI j) (hj : j < len) (hn : len ≤ 65536)
    (kk : pe_W E d mc ms Γ Q (pc + 1) lv (.inl (.int (f j)) :: st) M k n) : pe_W E d mc ms Γ Q pc lv (.inl (.int i) :: .inr r :: st) M k n := by
  subst hi
  refine ⟨trivial, fun {p l e R s m args below meth c g P0 ad0} C {ad dd H locs ls} I => ?_⟩
  have k1 := kk.2 (e := e) (below := below) C (I.pop.pop.psh trivial)
  rw [← nI_clamp (n := j) (by omega)] at k1
  exact va_iald C.1 C.2.1 C.2.2.2.2.2.2.2.2.2.2.1.1 (px_one (px_at.arr (I.1.1 r _ hr))) 0 0 rfl rfl (vp_in_nI (n := j) (N := len) hj (by omega)) hd k1
theorem pe_ald_z {r : px_R} {len : Nat} {f : Nat → Int32} {i : Int32} {j : Nat} (hd : decode Γ.2.1 pc = .ok (.baload, 1)) (hr : M r = some (.inr (.inl (2, len, .inl f)))) (hi : i = nI j) (hj : j < len) (hn : len ≤ 65536)
    (kk : pe_W E d mc ms Γ Q (pc + 1) lv (.inl (.int (f j)) :: st) M k n) : pe_W E d mc ms Γ Q pc lv (.inl (.int i) :: .inr r :: st) M k n := by
  subst hi
  refine ⟨trivial, fun {p l e R s m args below meth c g P0 ad0} C {ad dd H locs ls} I => ?_⟩
  have k1 := kk.2 (e := e) (below := below) C (I.pop.pop.psh trivial)
  rw [← nI_clamp (n := j) (by omega)] at k1
  exact va_zald C.1 C.2.1 C.2.2.2.2.2.2.2.2.2.2.1.1 (px_one (px_at.arr (I.1.1 r _ hr))) 0 2 rfl rfl (vp_in_nI (n := j) (N := len) hj (by omega)) hd k1
theorem pe_ald_d {r : px_R} {len : Nat} {f : Nat → UInt64} {i : Int32} {j : Nat} (hd : decode Γ.2.1 pc = .ok (.daload, 1)) (hr : M r = some (.inr (.inl (1, len, .inr (.inr (.inl f)))))) (hi : i = nI j) (hj : j < len) (hn : len ≤ 65536)
    (kk : pe_W E d mc ms Γ Q (pc + 1) lv (.inl (.double (f j)) :: st) M k n) : pe_W E d mc ms Γ Q pc lv (.inl (.int i) :: .inr r :: st) M k n := by
  subst hi
  refine ⟨trivial, fun {p l e R s m args below meth c g P0 ad0} C {ad dd H locs ls} I => ?_⟩
  have k1 := kk.2 (e := e) (below := below) C (I.pop.pop.psh trivial)
  rw [← nI_clamp (n := j) (by omega)] at k1
  exact va_dald C.1 C.2.1 C.2.2.2.2.2.2.2.2.2.2.1.1 (px_one (px_at.arr (I.1.1 r _ hr))) 0 1 rfl rfl (vp_in_nI (n := j) (N := len) hj (by omega)) hd k1
theorem pe_ald_l {r : px_R} {len : Nat} {f : Nat → Int64} {i : Int32} {j : Nat} (hd : decode Γ.2.1 pc = .ok (.laload, 1)) (hr : M r = some (.inr (.inl (3, len, .inr (.inl f))))) (hi : i = nI j) (hj : j < len) (hn : len ≤ 65536)
    (kk : pe_W E d mc ms Γ Q (pc + 1) lv (.inl (.long (f j)) :: st) M k n) : pe_W E d mc ms Γ Q pc lv (.inl (.int i) :: .inr r :: st) M k n := by
  subst hi
  refine ⟨trivial, fun {p l e R s m args below meth c g P0 ad0} C {ad dd H locs ls} I => ?_⟩
  have k1 := kk.2 (e := e) (below := below) C (I.pop.pop.psh trivial)
  rw [← nI_clamp (n := j) (by omega)] at k1
  exact va_lald C.1 C.2.1 C.2.2.2.2.2.2.2.2.2.2.1.1 (px_one (px_at.arr (I.1.1 r _ hr))) 0 3 rfl rfl (vp_in_nI (n := j) (N := len) hj (by omega)) hd k1
theorem pe_ald_q4 {r : px_R} {len : Nat} {f : Nat → Option px_R} {i : Int32} {j : Nat} (hd : decode Γ.2.1 pc = .ok (.aaload, 1)) (hr : M r = some (.inr (.inl (4, len, .inr (.inr (.inr f)))))) (hi : i = nI j) (hj : j < len) (hn : len ≤ 65536)
    (kk : pe_W E d mc ms Γ Q (pc + 1) lv (px_rf (f j) :: st) M k n) : pe_W E d mc ms Γ Q pc lv (.inl (.int i) :: .inr r :: st) M k n := by
  subst hi
  refine ⟨trivial, fun {p l e R s m args below meth c g P0 ad0} C {ad dd H locs ls} I => ?_⟩
  have k1 := kk.2 (e := e) (below := below) C (I.pop.pop.psh (v := px_rf (f j)) (by
    cases e9 : f j with
    | none => trivial
    | some x => exact (I.1.2.1 r _ hr) j x e9))
  rw [List.map_cons, px_v_rf, ← nI_clamp (n := j) (by omega)] at k1
  exact va_aldq C.1 C.2.1 C.2.2.2.2.2.2.2.2.2.2.1.1 (px_one (px_at.arr (I.1.1 r _ hr))) 0 4 rfl rfl (vp_in_nI (n := j) (N := len) hj (by omega)) hd k1
theorem pe_ald_q5 {r : px_R} {len : Nat} {f : Nat → Option px_R} {i : Int32} {j : Nat} (hd : decode Γ.2.1 pc = .ok (.aaload, 1)) (hr : M r = some (.inr (.inl (5, len, .inr (.inr (.inr f)))))) (hi : i = nI j) (hj : j < len) (hn : len ≤ 65536)
    (kk : pe_W E d mc ms Γ Q (pc + 1) lv (px_rf (f j) :: st) M k n) : pe_W E d mc ms Γ Q pc lv (.inl (.int i) :: .inr r :: st) M k n := by
  subst hi
  refine ⟨trivial, fun {p l e R s m args below meth c g P0 ad0} C {ad dd H locs ls} I => ?_⟩
  have k1 := kk.2 (e := e) (below := below) C (I.pop.pop.psh (v := px_rf (f j)) (by
    cases e9 : f j with
    | none => trivial
    | some x => exact (I.1.2.1 r _ hr) j x e9))
  rw [List.map_cons, px_v_rf, ← nI_clamp (n := j) (by omega)] at k1
  exact va_aldq C.1 C.2.1 C.2.2.2.2.2.2.2.2.2.2.1.1 (px_one (px_at.arr (I.1.1 r _ hr))) 0 5 rfl rfl (vp_in_nI (n := j) (N := len) hj (by omega)) hd k1
theorem pe_alen {r : px_R} {t len : Nat} {a : px_A} (hd : decode Γ.2.1 pc = .ok (.arraylength, 1)) (hr : M r = some (.inr (.inl (t, len, a)))) (ht : t < 6)
    (kk : pe_W E d mc ms Γ Q (pc + 1) lv (.inl (.int (nI len)) :: st) M k n) : pe_W E d mc ms Γ Q pc lv (.inr r :: st) M k n := by
  refine ⟨trivial, fun {p l e R s m args below meth c g P0 ad0} C {ad dd H locs ls} I => ?_⟩
  refine va_alen C.1 C.2.1 C.2.2.2.2.2.2.2.2.2.2.1.1 (px_one (px_at.arr (I.1.1 r _ hr))) 0 t rfl (ty := px_ty t) ?_ rfl hd (kk.2 C (I.pop.psh trivial))
  rcases (show t = 0 ∨ t = 1 ∨ t = 2 ∨ t = 3 ∨ t = 4 ∨ t = 5 by omega) with rfl | rfl | rfl | rfl | rfl | rfl <;> rfl
theorem pe_ast_i {r : px_R} {len : Nat} {f : Nat → Int32} {i x : Int32} {j : Nat} (hd : decode Γ.2.1 pc = .ok (.iastore, 1)) (hr : M r = some (.inr (.inl (0, len, .inl f)))) (hi : i = nI j) (hj : j < len) (hn : len ≤ 65536)
    (kk : pe_W E d mc ms Γ Q (pc + 1) lv st (px_up M r (.inr (.inl (0, len, .inl (upd f j x))))) k n) : pe_W E d mc ms Γ Q pc lv (.inl (.int x) :: .inl (.int i) :: .inr r :: st) M k n := by
  subst hi
  refine ⟨trivial, fun {p l e R s m args below meth c g P0 ad0} C {ad dd H locs ls} I => ?_⟩
  refine W.iast C.1 C.2.1 (px_ai (I.1.1 r _ hr)) ((C.2.2.2.2.2.2.2.2.2.2.1.1.2 0 _ rfl).1 len (fun j => .int (f j))) (fun q => by cases q) (px_in0 hj hn) rfl rfl hd fun H1 e1 e2 e3 => kk.2 C (I.pop.pop.pop.arr hr ?_ trivial e2 e3)
  rw [e1, nI_clamp (by omega)]
  show some ((arrV _ _ (fun q => Value.int (f q))).setSlot _ _) = some (arrV _ _ (fun q => Value.int (upd f j x q)))
  rw [arrV_store]
  congr 2
  funext q
  by_cases hq : q = j <;> simp [updV, upd, hq]
theorem pe_ast_z {r : px_R} {len : Nat} {f : Nat → Int32} {i x : Int32} {j : Nat} (hd : decode Γ.2.1 pc = .ok (.bastore, 1)) (hr : M r = some (.inr (.inl (2, len, .inl f)))) (hi : i = nI j) (hj : j < len) (hn : len ≤ 65536) (hx : narrow .boolean (.int x) = .int x)
    (kk : pe_W E d mc ms Γ Q (pc + 1) lv st (px_up M r (.inr (.inl (2, len, .inl (upd f j x))))) k n) : pe_W E d mc ms Γ Q pc lv (.inl (.int x) :: .inl (.int i) :: .inr r :: st) M k n := by
  subst hi
  refine ⟨trivial, fun {p l e R s m args below meth c g P0 ad0} C {ad dd H locs ls} I => ?_⟩
  refine W.zast C.1 C.2.1 (px_ai (I.1.1 r _ hr)) ((C.2.2.2.2.2.2.2.2.2.2.1.1.2 2 _ rfl).1 len (fun j => .int (f j))) (fun q => by cases q) (px_in0 hj hn) rfl rfl hd fun H1 e1 e2 e3 => kk.2 C (I.pop.pop.pop.arr hr ?_ trivial e2 e3)
  rw [e1, hx, nI_clamp (by omega)]
  show some ((arrV _ _ (fun q => Value.int (f q))).setSlot _ _) = some (arrV _ _ (fun q => Value.int (upd f j x q)))
  rw [arrV_store]
  congr 2
  funext q
  by_cases hq : q = j <;> simp [updV, upd, hq]
theorem pe_ast_d {r : px_R} {len : Nat} {f : Nat → UInt64} {i : Int32} {x : UInt64} {j : Nat} (hd : decode Γ.2.1 pc = .ok (.dastore, 1)) (hr : M r = some (.inr (.inl (1, len, .inr (.inr (.inl f)))))) (hi : i = nI j) (hj : j < len) (hn : len ≤ 65536)
    (kk : pe_W E d mc ms Γ Q (pc + 1) lv st (px_up M r (.inr (.inl (1, len, .inr (.inr (.inl (vf_upd f j x))))))) k n) : pe_W E d mc ms Γ Q pc lv (.inl (.double x) :: .inl (.int i) :: .inr r :: st) M k n := by
  subst hi
  refine ⟨trivial, fun {p l e R s m args below meth c g P0 ad0} C {ad dd H locs ls} I => ?_⟩
  refine W.dast C.1 C.2.1 (px_ad (I.1.1 r _ hr)) ((C.2.2.2.2.2.2.2.2.2.2.1.1.2 1 _ rfl).1 len (fun j => .double (f j))) (fun q => by cases q) (px_in0 hj hn) rfl rfl hd fun H1 e1 e2 e3 => kk.2 C (I.pop.pop.pop.arr hr ?_ trivial e2 e3)
  rw [e1, nI_clamp (by omega)]
  show some ((arrV _ _ (fun q => Value.double (f q))).setSlot _ _) = some (arrV _ _ (fun q => Value.double (vf_upd f j x q)))
  rw [arrV_store]
  congr 2
  funext q
  by_cases hq : q = j <;> simp [updV, vf_upd, hq]
theorem pe_ast_l {r : px_R} {len : Nat} {f : Nat → Int64} {i : Int32} {x : Int64} {j : Nat} (hd : decode Γ.2.1 pc = .ok (.lastore, 1)) (hr : M r = some (.inr (.inl (3, len, .inr (.inl f))))) (hi : i = nI j) (hj : j < len) (hn : len ≤ 65536)
    (kk : pe_W E d mc ms Γ Q (pc + 1) lv st (px_up M r (.inr (.inl (3, len, .inr (.inl (vf_upd f j x)))))) k n) : pe_W E d mc ms Γ Q pc lv (.inl (.long x) :: .inl (.int i) :: .inr r :: st) M k n := by
  subst hi
  refine ⟨trivial, fun {p l e R s m args below meth c g P0 ad0} C {ad dd H locs ls} I => ?_⟩
  refine W.last C.1 C.2.1 (px_al (I.1.1 r _ hr)) ((C.2.2.2.2.2.2.2.2.2.2.1.1.2 3 _ rfl).1 len (fun j => .long (f j))) (fun q => by cases q) (px_in0 hj hn) rfl rfl hd fun H1 e1 e2 e3 => kk.2 C (I.pop.pop.pop.arr hr ?_ trivial e2 e3)
  rw [e1, nI_clamp (by omega)]
  show some ((arrV _ _ (fun q => Value.long (f q))).setSlot _ _) = some (arrV _ _ (fun q => Value.long (vf_upd f j x q)))
  rw [arrV_store]
  congr 2
  funext q
  by_cases hq : q = j <;> simp [updV, vf_upd, hq]
theorem pe_ast_q4 {r x : px_R} {len : Nat} {f : Nat → Option px_R} {i : Int32} {j : Nat} {fs : List px_V} (hd : decode Γ.2.1 pc = .ok (.aastore, 1)) (hr : M r = some (.inr (.inl (4, len, .inr (.inr (.inr f)))))) (hx : M x = some (.inl (2, fs))) (hi : i = nI j) (hj : j < len) (hn : len ≤ 65536)
    (kk : pe_W E d mc ms Γ Q (pc + 1) lv st (px_up M r (.inr (.inl (4, len, .inr (.inr (.inr (va_up f j (some x)))))))) k n) : pe_W E d mc ms Γ Q pc lv (.inr x :: .inl (.int i) :: .inr r :: st) M k n := by
  subst hi
  refine ⟨trivial, fun {p l e R s m args below meth c g P0 ad0} C {ad dd H locs ls} I => ?_⟩
  have hK := C.2.2.2.2.2.2.2.2.2.2.1.1
  obtain ⟨r', hr', cellV, g1, g2, g3, -⟩ := px_at.obj (I.1.1 x _ hx)
  have hcls := (hK.1 2 _ rfl).2
  obtain ⟨kA, comp, k1, k2, k3, -⟩ := (hK.2 4 _ rfl).2
  have hcomp : comp = (px_gD g).1 2 := Option.some.inj (k3.symm.trans hcls.1)
  subst hcomp
  obtain ⟨kC, hkC, -⟩ := hcls.2
  refine W.aast C.1 C.2.1 (px_aq (I.1.1 r _ hr)) (fun q h => by cases h) (fun h => by cases h) k1 k2 rfl hkC ?_ g1 (fun q h => by rw [g3] at h; cases h) (by rw [g2]; exact hkC) (by rw [g2]; exact va_assign hcls) rfl rfl hd fun H1 e1 e2 e3 => kk.2 C (I.pop.pop.pop.arr hr ?_ (px_cfq (r := r) (x := x) (I.1.2.1 r _ hr) (fun y hy => by rw [← Option.some.inj hy, hx]; exact fun z => by cases z)) e2 e3)
  · have h0 := px_in0 (cA := px_gA g 4) (f := fun j => va_rf ((f j).map ad)) hj hn
    exact ⟨fun z => h0 (Or.inl z), Nat.not_le.mp fun z => h0 (Or.inr z)⟩
  · rw [e1, nI_clamp (by omega)]
    show some ((arrV _ _ (fun q => va_rf ((f q).map ad))).setSlot _ _) = some (arrV _ _ (fun q => va_rf ((va_up f j (some x) q).map ad)))
    rw [arrV_store]
    congr 2
    funext q
    by_cases hq : q = j <;> simp [updV, va_up, hq, va_rf]
theorem pe_ast_q5 {r x : px_R} {len ci : Nat} {q : vw_C} {f : Nat → Option px_R} {i : Int32} {j : Nat} {fs : List px_V} (hd : decode Γ.2.1 pc = .ok (.aastore, 1)) (hr : M r = some (.inr (.inl (5, len, .inr (.inr (.inr f)))))) (hx : M x = some (.inl (ci, fs))) (hc : px_cl[ci]? = some q) (hcast : Cond.castable q.1 "java/lang/Object" ∈ lw_tbl) (hi : i = nI j) (hj : j < len) (hn : len ≤ 65536)
    (kk : pe_W E d mc ms Γ Q (pc + 1) lv st (px_up M r (.inr (.inl (5, len, .inr (.inr (.inr (va_up f j (some x)))))))) k n) : pe_W E d mc ms Γ Q pc lv (.inr x :: .inl (.int i) :: .inr r :: st) M k n := by
  subst hi
  refine ⟨trivial, fun {p l e R s m args below meth c g P0 ad0} C {ad dd H locs ls} I => ?_⟩
  have hSt := C.2.2.2.2.2.2.2.2.2.2.1
  have hK := hSt.1
  obtain ⟨r', hr', cellV, g1, g2, g3, -⟩ := px_at.obj (I.1.1 x _ hx)
  have hcls := (hK.1 ci _ hc).2
  obtain ⟨kA, comp, k1, k2, k3, -⟩ := (hK.2 5 _ rfl).2
  obtain ⟨kC, hkC, -⟩ := hcls.2
  obtain ⟨kE, hkE, -⟩ := Vm.findClass_spec k3
  obtain ⟨c3, c4, hc3, hc4, hasg⟩ := Cond.castable_spec (va_Nw.use (A := args) rfl (hSt.2.2.2.2.2.2.1 _ hcast rfl))
  have e4 : c4 = comp := Option.some.inj (hc4.symm.trans k3)
  have e3' : c3 = (px_gD g).1 ci := Option.some.inj (hc3.symm.trans hcls.1)
  subst e4 e3'
  refine W.aast C.1 C.2.1 (px_aq (I.1.1 r _ hr)) (fun q h => by cases h) (fun h => by cases h) k1 k2 rfl hkE ?_ g1 (fun q h => by rw [g3] at h; cases h) (by rw [g2]; exact hkC) (by rw [g2]; exact hasg) rfl rfl hd fun H1 e1 e2 e3 => kk.2 C (I.pop.pop.pop.arr hr ?_ (px_cfq (r := r) (x := x) (I.1.2.1 r _ hr) (fun y hy => by rw [← Option.some.inj hy, hx]; exact fun z => by cases z)) e2 e3)
  · have h0 := px_in0 (cA := px_gA g 5) (f := fun j => va_rf ((f j).map ad)) hj hn
    exact ⟨fun z => h0 (Or.inl z), Nat.not_le.mp fun z => h0 (Or.inr z)⟩
  · rw [e1, nI_clamp (by omega)]
    show some ((arrV _ _ (fun q => va_rf ((f q).map ad))).setSlot _ _) = some (arrV _ _ (fun q => va_rf ((va_up f j (some x) q).map ad)))
    rw [arrV_store]
    congr 2
    funext q
    by_cases hq : q = j <;> simp [updV, va_up, hq, va_rf]
theorem pe_ast_n5 {r : px_R} {len : Nat} {f : Nat → Option px_R} {i : Int32} {j : Nat} (hd : decode Γ.2.1 pc = .ok (.aastore, 1)) (hr : M r = some (.inr (.inl (5, len, .inr (.inr (.inr f)))))) (hi : i = nI j) (hj : j < len) (hn : len ≤ 65536)
    (kk : pe_W E d mc ms Γ Q (pc + 1) lv st (px_up M r (.inr (.inl (5, len, .inr (.inr (.inr (va_up f j none))))))) k n) : pe_W E d mc ms Γ Q pc lv (.inl .null :: .inl (.int i) :: .inr r :: st) M k n := by
  subst hi
  refine ⟨trivial, fun {p l e R s m args below meth c g P0 ad0} C {ad dd H locs ls} I => ?_⟩
  have hK := C.2.2.2.2.2.2.2.2.2.2.1.1
  refine va_WaastN (C := "java/lang/Object") C.1 C.2.1 (px_aq (I.1.1 r _ hr)) ((hK.2 5 _ rfl).1 len (fun j => va_rf ((f j).map ad))) (fun h => by cases h) (px_in0 hj hn) rfl rfl hd fun H1 e1 e2 e3 => kk.2 C (I.pop.pop.pop.arr hr ?_ (px_cfq (r := r) (x := r) (I.1.2.1 r _ hr) (fun y hy => by cases hy)) e2 e3)
  rw [e1, nI_clamp (by omega)]
  show some ((arrV _ _ (fun q => va_rf ((f q).map ad))).setSlot _ _) = some (arrV _ _ (fun q => va_rf ((va_up f j none q).map ad)))
  rw [arrV_store]
  congr 2
  funext q
  by_cases hq : q = j <;> simp [updV, va_up, hq, va_rf]
theorem pe_new {index ci : Nat} {q : vw_C} {fs : List px_V} (r : px_R) (hd : decode Γ.2.1 pc = .ok (.new index, 3)) (hc : px_cl[ci]? = some q) (h1 : Cond.classLink Γ.1.cls index q.1 ∈ px_T) (h2 : Cond.instantiable q.1 q.2.2 ∈ px_T) (h3 : Cond.initialized q.1 ∈ px_T) (hr : M r = none)
    (hfs : fs = (List.range q.2.2).map fun j => px_dv (px_fty ci j)) (hk : k + 1 ≤ mc) (hn : n + q.2.2 ≤ ms)
    (kk : pe_W E d mc ms Γ Q (pc + 3) lv (.inr r :: st) (px_up M r (.inl (ci, fs))) (k + 1) (n + q.2.2)) : pe_W E d mc ms Γ Q pc lv st M k n := by
  refine ⟨trivial, fun {p l e R s m args below meth c g P0 ad0} C {ad dd H locs ls} I => ?_⟩
  obtain ⟨hx, hb, hml, hrt, hlk, hown, hnm, hts, htb, hfl, hSt, hR⟩ := id C
  obtain ⟨Cn, T, N⟩ := q
  have hKn := hSt.1.1 ci _ hc
  refine W.newcK hx hb hown (hts _ h1) (hts _ h2) (hts _ h3) rfl hd (by omega) (by omega) hKn.2.1 rfl fun H1 kC hkC e1 z1 o1 => ?_
  have hfl : fs.length = N := by rw [hfs]; simp
  have I' := I.new hSt (H1 := H1) (o := .inl (ci, fs)) hr (fun xs z => by cases z) ?_ ?_ z1 o1
  · have k1 := kk.2 (e := e) (below := below) C I'
    rw [List.map_cons, px_stk I hr] at k1
    have e9 : px_v (px_ua ad r H.size) (.inr r) = .ref H.size := congrArg Value.ref (if_pos rfl)
    rw [e9] at k1
    exact k1
  · show va_at (px_gD g) px_cl (px_ua ad r H.size r, .inr (ci, fs.map _)) H1
    rw [show px_ua ad r H.size r = H.size from if_pos rfl]
    refine ⟨_, hc, (u_born (px_fty ci) hts (px_clin ci _ hc) hKn hkC e1 (px_clty ci _ hc)).to fun j hj => ?_⟩
    rw [hfs]
    show _ = (((List.range N).map _).map _).getD j Value.null
    simp [List.getD_eq_getElem?_getD, hj, px_dv, px_v]
  · intro v hv
    rw [hfs] at hv
    obtain ⟨j, -, rfl⟩ := List.mem_map.mp hv
    trivial
theorem pe_newa {atype : ArrayType} {t N : Nat} {x : Int32} {a0 : px_A} (r : px_R) (hd : decode Γ.2.1 pc = .ok (.newarray atype, 2)) (ht : newarray.typeOf atype = px_ty t) (ht4 : t < 4) (hw : Cond.arrayClass (px_ty t) ∈ px_T) (hr : M r = none) (hx : x = nI N) (hN : N ≤ 65536)
    (ha : ∀ (ad : px_R → Nat) (cA : ClassId), vp_cell cA (N, px_a ad a0) = arrV cA N (fun _ => defaultValue (px_ty t))) (hcf : px_cf M (.inr (.inl (t, N, a0)))) (hk : k + 1 ≤ mc) (hn : n + N ≤ ms)
    (kk : pe_W E d mc ms Γ Q (pc + 2) lv (.inr r :: st) (px_up M r (.inr (.inl (t, N, a0)))) (k + 1) (n + N)) : pe_W E d mc ms Γ Q pc lv (.inl (.int x) :: st) M k n := by
  subst hx
  refine ⟨trivial, fun {p l e R s m args below meth c g P0 ad0} C {ad dd H locs ls} I => ?_⟩
  obtain ⟨hx, hb, hml, hrt, hlk, hown, hnm, hts, htb, hfl, hSt, hR⟩ := id C
  have hby : N * componentBytes (newarray.typeOf atype) ≤ 536870912 := by
    rw [ht]
    rcases (show t = 0 ∨ t = 1 ∨ t = 2 ∨ t = 3 by omega) with rfl | rfl | rfl | rfl <;> simp [px_ty, componentBytes] <;> omega
  refine va_newaK hx hb (by rw [ht]; exact hts _ hw) rfl hd rfl (nI_pos (by omega)) (nI_clamp (by omega)) hby (by omega) (by omega) rfl fun H1 cA e1 z1 o1 hAr hNm => ?_
  rw [ht] at e1 hNm
  have ecA := px_cA hSt ht4 hNm
  subst ecA
  have I' := I.pop.new hSt (H1 := H1) (o := .inr (.inl (t, N, a0))) hr (fun xs z => by cases z) ?_ hcf z1 o1
  · have k1 := kk.2 (e := e) (below := below) C I'
    rw [List.map_cons, px_stk I.pop hr] at k1
    have e9 : px_v (px_ua ad r H.size) (.inr r) = .ref H.size := congrArg Value.ref (if_pos rfl)
    rw [e9] at k1
    exact k1
  · show va_at (px_gD g) px_cl (px_ua ad r H.size r, .inl (px_gA g t, N, px_a _ a0)) H1
    rw [show px_ua ad r H.size r = H.size from if_pos rfl]
    show H1[H.size]? = some (vp_cell _ _)
    rw [ha]; exact e1
theorem pe_newq {index t N : Nat} {nm : String} {x : Int32} (r : px_R) (hd : decode Γ.2.1 pc = .ok (.anewarray index, 3)) (ht : (t = 4 ∧ nm = "PathLists$Step") ∨ (t = 5 ∧ nm = "java/lang/Object")) (hw : Cond.classLink Γ.1.cls index nm ∈ px_T) (hr : M r = none) (hx : x = nI N) (hN : N ≤ 65536) (hk : k + 1 ≤ mc) (hn : n + N ≤ ms)
    (kk : pe_W E d mc ms Γ Q (pc + 3) lv (.inr r :: st) (px_up M r (.inr (.inl (t, N, .inr (.inr (.inr fun _ => none)))))) (k + 1) (n + N)) : pe_W E d mc ms Γ Q pc lv (.inl (.int x) :: st) M k n := by
  subst hx
  refine ⟨trivial, fun {p l e R s m args below meth c g P0 ad0} C {ad dd H locs ls} I => ?_⟩
  obtain ⟨hx, hb, hml, hrt, hlk, hown, hnm, hts, htb, hfl, hSt, hR⟩ := id C
  have ho : va_AO nm s ∧ ∃ kA comp, s.vm.classes[px_gA g t]? = some kA ∧ kA.kind = .array comp (.object nm) ∧ s.vm.findClass nm = some comp ∧ s.vm.findClass ("[" ++ (FieldType.object nm).toString) = some (px_gA g t) := by
    rcases ht with ⟨rfl, rfl⟩ | ⟨rfl, rfl⟩
    · exact ⟨hSt.2.2.2.2.2.2.2.1.1, (hSt.1.2 4 _ rfl).2⟩
    · exact ⟨hSt.2.2.2.2.2.2.2.1.2, (hSt.1.2 5 _ rfl).2⟩
  obtain ⟨ho, kA, comp, f2, f3, f4, f1⟩ := ho
  have ec : (nI N).toNatClampNeg = N := nI_clamp (by omega)
  refine W.anew hx hb hown (hts _ hw) (va_AO.use ho) rfl hd rfl (nI_pos (by omega)) (by omega) (by omega) (by omega) fun cA kA comp g1 g2 g3 g4 => ?_
  have ecA : cA = px_gA g t := Option.some.inj (g1.symm.trans f1)
  subst ecA
  rw [ec]
  generalize hH1 : H.push ({ cls := px_gA g t, slots := Array.replicate N .null, vm := .none } : Cell) = H1
  have z1 : H1.size = H.size + 1 := by rw [← hH1, Array.size_push]
  have e1 : H1[H.size]? = some (arrV (px_gA g t) N (fun _ => .null)) := by rw [← hH1, Array.getElem?_push_size, ← arrV_new]
  have o1 : ∀ q : Nat, q < H.size → H1[q]? = H[q]? := fun q hq => by rw [← hH1, Array.getElem?_push, if_neg (Nat.ne_of_lt hq)]
  have I' := I.pop.new hSt (H1 := H1) (o := .inr (.inl (t, N, .inr (.inr (.inr fun _ => none))))) hr (fun xs z => by cases z) ?_ (fun i x h => by cases h) z1 o1
  · have k1 := kk.2 (e := e) (below := below) C I'
    rw [List.map_cons, px_stk I.pop hr] at k1
    have e9 : px_v (px_ua ad r H.size) (.inr r) = .ref H.size := congrArg Value.ref (if_pos rfl)
    rw [e9] at k1
    exact k1
  · show va_at (px_gD g) px_cl (px_ua ad r H.size r, .inl (px_gA g t, N, px_a _ _)) H1
    rw [show px_ua ad r H.size r = H.size from if_pos rfl]
    exact e1
theorem pe_cast {index ci : Nat} {q : vw_C} {r : px_R} {fs : List px_V} (hd : decode Γ.2.1 pc = .ok (.checkcast index, 3)) (hr : M r = some (.inl (ci, fs))) (hc : px_cl[ci]? = some q) (hw : Cond.classLink Γ.1.cls index q.1 ∈ px_T)
    (kk : pe_W E d mc ms Γ Q (pc + 3) lv (.inr r :: st) M k n) : pe_W E d mc ms Γ Q pc lv (.inr r :: st) M k n := by
  refine ⟨trivial, fun {p l e R s m args below meth c g P0 ad0} C {ad dd H locs ls} I => ?_⟩
  obtain ⟨hx, hb, hml, hrt, hlk, hown, hnm, hts, htb, hfl, hSt, hR⟩ := id C
  exact va_castS hx hb hown (hts _ hw) (hSt.1.1 ci _ hc).2 (va_recv (q0 := 0) (fs := fs.map (px_v ad)) hSt.1 (px_one (px_at.obj (I.1.1 r _ hr))) hc rfl) hd (kk.2 C I)
end PX3e

section PX4e
variable {E : Nat × Nat} {d mc ms : Nat} {Γ : px_Y} {Q : px_Q} {pc : Nat} {lv : List (Nat × px_V)} {st : List px_V} {M : px_M} {k n : Nat}
theorem pe_iret {x : Int32} (hd : decode Γ.2.1 pc = .ok (.ireturn, 1)) (hr : Γ.2.2.2.1 = some .int) (hQ : Q (.inl (some (.inl (.int x)))) M) (hk : k ≤ mc) (hn : n ≤ ms) : pe_W E d mc ms Γ Q pc lv (.inl (.int x) :: []) M k n := by
  refine ⟨trivial, fun {p l e R s m args below meth c g P0 ad0} C {ad dd H locs ls} I => ?_⟩
  exact vx_ret (W.widen hk hn (W.iret C.1 C.2.1 (C.2.2.2.1.trans hr) (fun t ht _ => px_qc I ht hQ (fun w hw => by cases hw; trivial) args) I.2.2.2.2.1.2.2 hd C.2.2.2.2.1))
theorem pe_zret {x : Int32} (hd : decode Γ.2.1 pc = .ok (.ireturn, 1)) (hr : Γ.2.2.2.1 = some .boolean) (hx : narrow .boolean (.int x) = .int x) (hQ : Q (.inl (some (.inl (.int x)))) M) (hk : k ≤ mc) (hn : n ≤ ms) : pe_W E d mc ms Γ Q pc lv (.inl (.int x) :: []) M k n := by
  refine ⟨trivial, fun {p l e R s m args below meth c g P0 ad0} C {ad dd H locs ls} I => ?_⟩
  exact vx_ret (W.widen hk hn (W.zret C.1 C.2.1 (C.2.2.2.1.trans hr) hx (fun t ht _ => px_qc I ht hQ (fun w hw => by cases hw; trivial) args) I.2.2.2.2.1.2.2 hd C.2.2.2.2.1))
theorem pe_dret {x : UInt64} (hd : decode Γ.2.1 pc = .ok (.dreturn, 1)) (hr : Γ.2.2.2.1 = some .double) (hQ : Q (.inl (some (.inl (.double x)))) M) (hk : k ≤ mc) (hn : n ≤ ms) : pe_W E d mc ms Γ Q pc lv (.inl (.double x) :: []) M k n := by
  refine ⟨trivial, fun {p l e R s m args below meth c g P0 ad0} C {ad dd H locs ls} I => ?_⟩
  exact vx_ret (W.widen hk hn (W.dret C.1 C.2.1 (C.2.2.2.1.trans hr) (fun t ht _ => px_qc I ht hQ (fun w hw => by cases hw; trivial) args) I.2.2.2.2.1.2.2 hd C.2.2.2.2.1))
theorem pe_vret (hd : decode Γ.2.1 pc = .ok (.return_, 1)) (hr : Γ.2.2.2.1 = none) (hQ : Q (.inl none) M) (hk : k ≤ mc) (hn : n ≤ ms) : pe_W E d mc ms Γ Q pc lv [] M k n := by
  refine ⟨trivial, fun {p l e R s m args below meth c g P0 ad0} C {ad dd H locs ls} I => ?_⟩
  exact vx_ret (W.widen hk hn (W.vret C.1 C.2.1 (C.2.2.2.1.trans hr) (fun t ht _ => px_qc I ht hQ (fun w hw => by cases hw) args) I.2.2.2.2.1.2.2 hd C.2.2.2.2.1))
theorem pe_aret {v : px_V} {rt : FieldType} (hd : decode Γ.2.1 pc = .ok (.areturn, 1)) (hr : Γ.2.2.2.1 = some rt) (hrr : (∃ n, rt = .object n) ∨ ∃ t, rt = .array t) (hv : px_ref v) (hQ : Q (.inl (some v)) M) (hk : k ≤ mc) (hn : n ≤ ms) : pe_W E d mc ms Γ Q pc lv (v :: []) M k n := by
  refine ⟨trivial, fun {p l e R s m args below meth c g P0 ad0} C {ad dd H locs ls} I => ?_⟩
  have h9 : px_v ad v = .null ∨ ∃ a, px_v ad v = .ref a := by
    rcases v with v | r
    · cases v <;> first | exact Or.inl rfl | exact Or.inr ⟨_, rfl⟩ | exact absurd hv id
    · exact Or.inr ⟨_, rfl⟩
  exact vx_ret (W.widen hk hn (W.aret C.1 C.2.1 (C.2.2.2.1.trans hr) hrr h9 (fun t ht _ => px_qc I ht hQ (fun w hw => by cases hw; exact I.top) args) I.2.2.2.2.1.2.2 hd C.2.2.2.2.1))
theorem pe_back {Q' : px_Q} {mc' ms' : Nat} {a : Array Value} {st0 : List Value} {p : Program} {l : Launch} {e : Env} {R : Room} {s : State} {m : MethodId} {args : Array Value} {below : List Frame} {meth : Method} {c : Code} {g : px_G} {P0 : px_R → Prop} {ad0 : px_R → Nat} (C : pe_C E d mc ms Γ g p l R s m args meth c)
    {ad dd : px_R → Nat} {H : Heap} {locs : List Loc} {ls : Array Slot} (I : px_I g P0 ad0 s Γ.2.2.1 lv st M ad dd H locs ls)
    (hr : vx_Run p l e R s m args below meth c H locs k n mc' ms' (F0 m pc ls st0) (st.map (px_v ad)) (px_Qc g (fun r => M r ≠ none) ad Q' a) (px_XC g (fun r => M r ≠ none) ad Q') (px_AA g))
    (kk : ∀ v M', Q' (.inl v) M' → pe_W E d mc ms Γ Q (pc + 3) lv (v.toList ++ st) M' (k + mc') (n + ms')) (kx : ∀ X9 M', Q' (.inr X9) M' → pe_X E d mc ms Γ Q pc lv X9 M' (k + mc') (n + ms')) :
    W p l e R s m args below meth c H locs k n (vx_MQ below (px_Qc g P0 ad0 Q) (px_XC g P0 ad0 Q) args s mc ms (px_AA g)) (F0 m pc ls st0) := by
  have keep : ∀ {M' : px_M} {ad' dd' : px_R → Nat} {t T' : State} {L : List Loc} {st₀ : State} {stk : List px_V}, st₀.heap = H → T'.heap = t.heap → (∀ q ∈ L, px_AA g q.base) → px_Vw g ad' dd' M' t.heap → (∀ r, M r ≠ none → M' r ≠ none ∧ ad' r = ad r) → va_F (px_AA g) st₀ t →
      (∀ v ∈ stk, px_wf M' v) → px_I g P0 ad0 s Γ.2.2.1 lv stk M' ad' dd' T'.heap (locs ++ L) ls := by
    intro M' ad' dd' t T' L st₀ stk h0 e1 hL hV hext hF hs
    obtain ⟨k1, k2, k3⟩ := vx_keep (A1 := px_AA g) (A0 := px_AA g) h0 e1 I.2.2.2.2.1 (fun q _ h => h) (fun q h => h) hL hF
    refine ⟨by rw [e1]; exact hV, fun q hq => (I.2.1 q hq).mono fun r h => (hext r h).1, hs, fun r hr => ⟨(hext r (I.2.2.2.1 r hr).1).1, ((hext r (I.2.2.2.1 r hr).1).2).trans (I.2.2.2.1 r hr).2⟩, k3, ?_⟩
    have e : px_l ad' lv = px_l ad lv := List.map_congr_left fun q hq => by rw [px_v_congr (fun r h => (hext r h).2) (I.2.1 q hq)]
    rw [e]; exact I.has
  intro T hT X
  rcases hr T hT X with ⟨v, st₀, t, T', L, h0, X', hL, e1, e2, ⟨v', M', ad', dd', hv, hQ, hwf, hV, hext, hF⟩, st1⟩ | ⟨q, st₀, t, T', L, E, ce, h0, X', hL, e1, e2, ⟨M', ad', dd', hQ, hV, hext, hF⟩, hce, hcv, hcl, st1⟩
  · cases hv
    have I' := keep (stk := v'.toList ++ st) h0 e1 hL hV hext hF (fun w hw => by
      rcases List.mem_append.mp hw with h | h
      · exact hwf w (Option.mem_toList.mp h)
      · exact (I.2.2.1 w h).mono fun r h => (hext r h).1)
    obtain ⟨t2, a1, b1⟩ := (kk v' M' hQ).2 C I' T' rfl X'
    have e9 : (v'.toList ++ st).map (px_v ad') = (v'.map (px_v ad')).toList ++ st.map (px_v ad) := by
      rw [List.map_append]
      congr 1
      · cases v' <;> rfl
      · exact List.map_congr_left fun w hw => px_v_congr (fun r h => (hext r h).2) (I.2.2.1 w hw)
    rw [e9] at a1
    exact ⟨t2, st1 t2 a1, b1⟩
  · have I' := keep (stk := []) h0 e1 hL hV hext hF (fun w hw => absurd hw List.not_mem_nil)
    obtain ⟨t2, a1, b1⟩ := (kx E M' hQ).2 C I' (q := q) (ce := ce) (rest := st.map (px_v ad)) (by rw [e1]; exact hce) hcv hcl T' rfl X'
    exact ⟨t2, st1.trans a1, b1⟩
theorem pe_CallB {g : px_G} {p : Program} {l : Launch} {R : Room} {s : State} {m : MethodId} {args : Array Value} {meth : Method} {c : Code} (C : pe_C E d mc ms Γ g p l R s m args meth c) {Γ' : px_Y} {d' mc' ms' nA idx : Nat} (h : px_lk0 nA Γ') (hh : Γ'.2.2.2.2 = []) (hl : Cond.methodLink Γ.1.cls idx Γ'.1 ∈ px_T) (hd : d' + 1 ≤ d) :
    CallB R s args Γ.1.cls idx Γ'.1 Γ'.2.1 Γ'.2.2.1 Γ'.2.2.2.1 (px_ws Γ') (px_rm d' mc' ms') mc' ms' nA := by
  obtain ⟨hx, hb, hml, hrt, hlk, ho, hnm, hts, htb, hfl, hSt, hR⟩ := id C
  obtain ⟨h1, h2, h3, h4, h5⟩ := h
  refine ⟨rfl, rfl, by show d' + 8 + 1 ≤ R.frames; omega, by show 8 + (Γ'.2.2.1 + 11) + (60 * d' + 200) ≤ R.locals; omega, px_hws hts h2, ?_, ?_, hts _ h1, h3, fun sig hs => ?_, hts _ hl⟩
  · rw [← px_cw0 hh]; exact List.mem_cons_self
  · rw [← px_cw0 hh]; exact hts _ h2
  · rw [hs] at h4; exact (Option.some.inj h4).symm
theorem pe_callV {Γ' : px_Y} {d' mc' ms' idx nA : Nat} {As stk : List px_V} {r : px_R} {Q' : px_Q} (hM : pe_Met E d' mc' ms' Γ' (.inr r :: As) M Q') (hd : decode Γ.2.1 pc = .ok (.invokevirtual idx, 3)) (hl : px_lkV Γ.1.cls idx nA Γ') (hr : px_rcv M r Γ'.1.cls) (hs : stk = As.reverse ++ .inr r :: st) (hA : As.length = nA) (hdd : d' + 1 ≤ d) (hk : k + mc' ≤ mc) (hn : n + ms' ≤ ms) (hst : (st.map px_cat).sum ≤ 8)
    (kk : ∀ v M', Q' (.inl v) M' → pe_W E d mc ms Γ Q (pc + 3) lv (v.toList ++ st) M' (k + mc') (n + ms')) (kx : ∀ X9 M', Q' (.inr X9) M' → pe_X E d mc ms Γ Q pc lv X9 M' (k + mc') (n + ms')) : pe_W E d mc ms Γ Q pc lv stk M k n := by
  subst hs
  refine ⟨trivial, fun {p l e R s m args below meth c g P0 ad0} C {ad dd H locs ls} I => ?_⟩
  obtain ⟨hx, hb, hml, hrt, hlk, ho, hnm, hts, htb, hfl, hSt, hR⟩ := id C
  obtain ⟨l0, hh, l1, l2, l3⟩ := hl
  have hst' : ∀ v ∈ (As.reverse ++ .inr r :: st), px_wf M v := I.2.2.1
  have hwA : ∀ v ∈ (.inr r :: As), px_wf M v := fun v hv => hst' v (by
    rcases List.mem_cons.mp hv with h | h
    · rw [h]; simp
    · simp [h])
  have I2 : px_I g P0 ad0 s Γ.2.2.1 lv st M ad dd H locs ls := ⟨I.1, I.2.1, fun v hv => hst' v (by simp [hv]), I.2.2.2⟩
  have hM' := hM l hfl hwA g ad dd hR.2.2.2.2.1
  refine pe_back C I2 (a := (.ref (ad r) :: As.map (px_v ad)).toArray) (vx_runV (nL := Γ.2.2.1) (Ts := px_T) (C := Γ'.1.cls) (b := ad r) (As := As.map (px_v ad)) ⟨hx, hb, hml, ho, hts⟩ hM' ⟨pe_CallB C l0 hh l1 hdd, hts _ l2, hts _ l3⟩ ⟨pe_blind, hr.use hSt I.1, fun U hU hW => pe_pre hR.2.2.2.2.2 hSt I2 U hU hW⟩ rfl (by rw [List.length_map]; exact hA) I.siz ?_ ?_ hd ⟨by omega, by omega⟩) kk kx
  · show (As.reverse ++ .inr r :: st).map (px_v ad) = _
    rw [List.map_append, List.map_reverse]; rfl
  · show 2 * 0 + _ ≤ 8
    rw [px_cats]; omega
theorem pe_callS {Γ' : px_Y} {d' mc' ms' idx nA : Nat} {As stk : List px_V} {Q' : px_Q} (hM : pe_Met E d' mc' ms' Γ' As M Q') (hd : decode Γ.2.1 pc = .ok (.invokestatic idx, 3)) (hl : px_lkS Γ.1.cls idx nA Γ') (hs : stk = As.reverse ++ st) (hA : As.length = nA) (hdd : d' + 1 ≤ d) (hk : k + mc' ≤ mc) (hn : n + ms' ≤ ms) (hst : (st.map px_cat).sum ≤ 8)
    (kk : ∀ v M', Q' (.inl v) M' → pe_W E d mc ms Γ Q (pc + 3) lv (v.toList ++ st) M' (k + mc') (n + ms')) (kx : ∀ X9 M', Q' (.inr X9) M' → pe_X E d mc ms Γ Q pc lv X9 M' (k + mc') (n + ms')) : pe_W E d mc ms Γ Q pc lv stk M k n := by
  subst hs
  refine ⟨trivial, fun {p l e R s m args below meth c g P0 ad0} C {ad dd H locs ls} I => ?_⟩
  obtain ⟨hx, hb, hml, hrt, hlk, ho, hnm, hts, htb, hfl, hSt, hR⟩ := id C
  obtain ⟨l0, hh, l1, l2⟩ := hl
  have hst' : ∀ v ∈ (As.reverse ++ st), px_wf M v := I.2.2.1
  have I2 : px_I g P0 ad0 s Γ.2.2.1 lv st M ad dd H locs ls := ⟨I.1, I.2.1, fun v hv => hst' v (by simp [hv]), I.2.2.2⟩
  have hM' := hM l hfl (fun v hv => hst' v (by simp [hv])) g ad dd hR.2.2.2.2.1
  refine pe_back C I2 (a := (As.map (px_v ad)).toArray) (vx_runS (nL := Γ.2.2.1) (Ts := px_T) (As := As.map (px_v ad)) ⟨hx, hb, hml, ho, hts⟩ hM' ⟨pe_CallB C l0 hh l1 hdd, hts _ l2⟩ ⟨pe_blind, fun U hU hW => pe_pre hR.2.2.2.2.2 hSt I2 U hU hW⟩ rfl (by rw [List.length_map]; exact hA) I.siz ?_ ?_ hd ⟨by omega, by omega⟩) kk kx
  · show (As.reverse ++ st).map (px_v ad) = _
    rw [List.map_append, List.map_reverse]
  · show 2 * 0 + _ ≤ 8
    rw [px_cats]; omega
theorem pe_callI {Γ' : px_Y} {d' mc' ms' idx nA : Nat} {As stk : List px_V} {r : px_R} {M1 : px_M} (hM : pe_Met E d' mc' ms' Γ' (.inr r :: As) M (px_rt none M1)) (hd : decode Γ.2.1 pc = .ok (.invokespecial idx, 3)) (hl : px_lkI Γ.1.cls idx nA Γ') (hret : Γ'.2.2.2.1 = none) (hs : stk = As.reverse ++ .inr r :: st) (hA : As.length = nA) (hdd : d' + 1 ≤ d) (hk : k + mc' ≤ mc) (hn : n + ms' ≤ ms) (hst : (st.map px_cat).sum ≤ 8)
    (kk : pe_W E d mc ms Γ Q (pc + 3) lv st M1 (k + mc') (n + ms')) : pe_W E d mc ms Γ Q pc lv stk M k n := by
  subst hs
  refine ⟨trivial, fun {p l e R s m args below meth c g P0 ad0} C {ad dd H locs ls} I => ?_⟩
  obtain ⟨hx, hb, hml, hrt, hlk, ho, hnm, hts, htb, hfl, hSt, hR⟩ := id C
  obtain ⟨l0, hh, hin, l1, l2⟩ := hl
  have hst' : ∀ v ∈ (As.reverse ++ .inr r :: st), px_wf M v := I.2.2.1
  have hwA : ∀ v ∈ (.inr r :: As), px_wf M v := fun v hv => hst' v (by
    rcases List.mem_cons.mp hv with h | h
    · rw [h]; simp
    · simp [h])
  have I2 : px_I g P0 ad0 s Γ.2.2.1 lv st M ad dd H locs ls := ⟨I.1, I.2.1, fun v hv => hst' v (by simp [hv]), I.2.2.2⟩
  have hM' := px_met_of (hM l hfl hwA g ad dd hR.2.2.2.2.1) (fun E s t h => by obtain ⟨_, _, _, h1, -⟩ := h; exact absurd h1.1 (fun z => by cases z))
  have hstk : (As.reverse ++ .inr r :: st).map (px_v ad) = (As.map (px_v ad)).reverse ++ .ref (ad r) :: st.map (px_v ad) := by
    rw [List.map_append, List.map_reverse]; rfl
  have hcat : 2 * 0 + ((st.map (px_v ad)).map fun v => v.category).sum ≤ 8 := by rw [px_cats]; omega
  have hpre : PreS s H (va_Pc (((.inr r : px_V) :: As).map (px_v ad)) (fun U => px_St g U ∧ px_Vw g ad dd M U.heap ∧ va_Mi "[Ljava/lang/Object;" E.2 U)) (.ref (ad r) :: As.map (px_v ad)) := ⟨pe_blind, fun U hU hW => pe_pre hR.2.2.2.2.2 hSt I2 U hU hW⟩
  have go : va_Run p l e R s m args below meth c H locs k n mc' ms' (F0 m pc ls ((As.reverse ++ .inr r :: st).map (px_v ad))) (st.map (px_v ad)) (px_Qc g (fun r => M r ≠ none) ad (px_rt none M1) (.ref (ad r) :: As.map (px_v ad)).toArray) (px_AA g) := by
    obtain ⟨h1, h2, h3, h4, h5⟩ := id l0
    rcases l2 with l2 | ⟨host, l2⟩
    · have cb := pe_CallB (d' := d') (mc' := mc') (ms' := ms') C l0 hh l2 hdd
      rw [hret] at cb
      exact va_runI (nL := Γ.2.2.1) (Ts := px_T) (As := As.map (px_v ad)) (b := ad r) ⟨hx, hb, hml, ho, hts⟩ hM' ⟨cb, hin, hts _ l1⟩ hpre rfl (by rw [List.length_map]; exact hA) I.siz hstk hcat hd ⟨by omega, by omega⟩
    · refine va_runIN (nL := Γ.2.2.1) (Ts := px_T) (As := As.map (px_v ad)) (b := ad r) (bytes := Γ'.2.1) (maxL := Γ'.2.2.1) (host := host) ⟨hx, hb, hml, ho, hts⟩ hM' ⟨⟨⟨rfl, rfl, by show d' + 8 + 1 ≤ R.frames; omega, by show 8 + (Γ'.2.2.1 + 11) + (60 * d' + 200) ≤ R.locals; omega, px_hws hts h2, ?_⟩, ?_, hts _ h1, h3, fun sig hs => ?_, va_Nw.use rfl (hSt.2.2.2.2.2.2.1 _ l2 rfl)⟩, hin, hts _ l1⟩ hpre rfl (by rw [List.length_map]) I.siz hstk hcat hd ⟨by omega, by omega⟩
      · rw [← hret, ← px_cw0 hh]; exact List.mem_cons_self
      · rw [← hret, ← px_cw0 hh]; exact hts _ h2
      · rw [hs] at h4; exact hA.trans (Option.some.inj h4).symm
  exact pe_back (a := (.ref (ad r) :: As.map (px_v ad)).toArray) C I2 (fun T hT X => Or.inl (go T hT X)) (fun v M' h => by
    obtain ⟨h1, h2⟩ := h
    cases h1; subst h2; exact kk) (fun E M' h => absurd h.1 (fun z => by cases z))
theorem pe_objInit {idx : Nat} {r : px_R} (hd : decode Γ.2.1 pc = .ok (.invokespecial idx, 3)) (hl : Cond.methodLink Γ.1.cls idx objectInit ∈ px_T ∧ Cond.instanceMethod objectInit ∈ px_T ∧ Cond.code objectInit ⟨#[0xb1]⟩ 1 none ∈ px_T) (hst : (st.map px_cat).sum ≤ 8)
    (kk : pe_W E d mc ms Γ Q (pc + 3) lv st M k n) : pe_W E d mc ms Γ Q pc lv (.inr r :: st) M k n := by
  refine ⟨trivial, fun {p l e R s m args below meth c g P0 ad0} C {ad dd H locs ls} I => ?_⟩
  obtain ⟨hx, hb, hml, hrt, hlk, ho, hnm, hts, htb, hfl, hSt, hR⟩ := id C
  exact W.objInit hx hb ho (hts _ hl.1) (hts _ hl.2.1) (hts _ hl.2.2) rfl (I.siz.trans hml.symm) rfl hd (by omega) (by show 2 * 0 + ((st.map (px_v ad)).map fun v => v.category).sum + 12 ≤ R.locals; rw [px_cats]; omega) (kk.2 C I.pop)
theorem pe_ofW {As : List px_V} (hy : plainName Γ.1.cls = true) (hc : px_cw Γ ∈ px_T) (hl : (As.map fun v => if px_cat v = 2 then 2 else 1).sum ≤ Γ.2.2.1) (h : pe_W E d mc ms Γ Q 0 (px_args 0 As) [] M 0 0) : pe_Met E d mc ms Γ As M Q := by
  intro l hfl hwf g ad dd hE
  have body : ∀ (p : Program) (e : Env) (s : State) (m : MethodId) (args : Array Value) (below : List Frame) (meth : Method) (c : Code) (s₁ : State), BodyLoose p l Γ.1 (headSpec (px_ws Γ) (px_rm d mc ms)) Γ.2.1 Γ.2.2.1 Γ.2.2.2.1 e s m args below meth c s₁ → c.maxLocals = Γ.2.2.1 → c.exceptionTable.toList = tableOf Γ.2.2.2.2 → va_Pc (As.map (px_v ad)) (fun U => px_St g U ∧ px_Vw g ad dd M U.heap ∧ va_Mi "[Ljava/lang/Object;" E.2 U) args s →
      W p l e (headSpec (px_ws Γ) (px_rm d mc ms)).room s m args below meth c s.heap [] 0 0 (vx_MQ below (px_Qc g (fun r => M r ≠ none) ad Q) (px_XC g (fun r => M r ≠ none) ad Q) args s mc ms (px_AA g)) (entryFrame m args Γ.2.2.1) := by
    intro p e s m args below meth c s₁ B hml ht hv
    obtain ⟨rfl, hSt, hV, hMi⟩ := hv
    have hts := atoms_spec (ws := px_ws Γ) B.pre
    have hl' : (lg_sl (As.map (px_v ad))).length ≤ Γ.2.2.1 := by rw [px_sl_len]; exact hl
    have hl0 := lv_entry (As.map (px_v ad)) hl'
    rw [lg_entry_eq]
    generalize (lg_sl (As.map (px_v ad)) ++ List.replicate (Γ.2.2.1 - (lg_sl (As.map (px_v ad))).length) Slot.unset).toArray = ls at hl0 ⊢
    rw [px_l_args] at hl0
    refine h.2 (P0 := fun r => M r ≠ none) (ad0 := ad) ⟨B.exec, B.bytes, hml, B.returns, B.notSynchronized, findClass_of_methodNamed B.named, (name_of_methodNamed B.named B.method).1, fun w hw => hts w (List.mem_cons_of_mem _ hw), ht, hfl, hSt, ?_⟩ ⟨hV, fun q hq => hwf _ (px_args_mem As 0 q hq), fun v hv => absurd hv List.not_mem_nil, fun r hr => ⟨hr, rfl⟩, va_S.rf, hl0⟩
    exact ⟨Nat.le_refl _, Nat.le_refl _, Nat.le_refl _, Nat.le_refl _, hE, hMi⟩
  by_cases hh : Γ.2.2.2.2 = []
  · refine vx_ofW (cc := Γ.2.1) (maxL := Γ.2.2.1) (ret := Γ.2.2.2.1) hy (by rw [px_ws, px_cw0 hh]) fun p e s m args below meth c s₁ B hml ht hv => body p e s m args below meth c s₁ B hml ?_ hv
    rw [hh]
    cases e9 : c.exceptionTable.toList with
    | nil => rfl
    | cons a l => exact (ht a (by rw [e9]; exact List.mem_cons_self)).elim
  · refine vx_ofWH (cc := Γ.2.1) (maxL := Γ.2.2.1) (ret := Γ.2.2.2.1) (hh := Γ.2.2.2.2) hy (by rw [px_ws, px_cwH hh]) fun p e s m args below meth c s₁ B hml hv => body p e s m args below meth c s₁ B hml ?_ hv
    have h9 := atoms_spec (ws := px_ws Γ) B.pre _ List.mem_cons_self
    rw [px_cwH hh] at h9
    exact vx_table (x := Γ.1) B h9
theorem pe_Met.mono {As : List px_V} {Q' : px_Q} (h : pe_Met E d mc ms Γ As M Q) (hQ : ∀ o M', Q o M' → Q' o M') : pe_Met E d mc ms Γ As M Q' := by
  intro l hfl hwf g ad dd hE p e ha hc hk s m args below hf happ hP hK
  obtain ⟨n, o, h1, h2, h3, h4⟩ := h l hfl hwf g ad dd hE p e ha hc hk s m args below hf happ hP hK
  refine ⟨n, o, h1, h2, h3, ?_⟩
  rcases h4 with ⟨⟨v, M', ad', dd', a1, a2, a3⟩, h4⟩ | ⟨q, e9, E, ce, L, ⟨M', ad', dd', a1, a2⟩, h5⟩
  · exact Or.inl ⟨⟨v, M', ad', dd', a1, hQ _ _ a2, a3⟩, h4⟩
  · exact Or.inr ⟨q, e9, E, ce, L, ⟨M', ad', dd', hQ _ _ a1, a2⟩, h5⟩
end PX4e

section MMRe
variable {E : Nat × Nat} {d mc ms : Nat} {Γ : px_Y} {Q : px_Q} {pc : Nat} {lv : List (Nat × px_V)} {st : List px_V} {X : px_M} {s : mm_S} {k n : Nat}
theorem pen_iadd {x y z : Int32} (hd : decode Γ.2.1 pc = .ok (.iadd, 1)) (hz : x + y = z) {M : px_M} (kk : pe_W E d mc ms Γ Q (pc + 1) lv (.inl (.int z) :: st) M k n) : pe_W E d mc ms Γ Q pc lv (.inl (.int y) :: .inl (.int x) :: st) M k n := by subst hz; exact pe_iadd hd kk
theorem pen_isub {x y z : Int32} (hd : decode Γ.2.1 pc = .ok (.isub, 1)) (hz : x - y = z) {M : px_M} (kk : pe_W E d mc ms Γ Q (pc + 1) lv (.inl (.int z) :: st) M k n) : pe_W E d mc ms Γ Q pc lv (.inl (.int y) :: .inl (.int x) :: st) M k n := by subst hz; exact pe_isub hd kk
theorem pen_imul {x y z : Int32} (hd : decode Γ.2.1 pc = .ok (.imul, 1)) (hz : x * y = z) {M : px_M} (kk : pe_W E d mc ms Γ Q (pc + 1) lv (.inl (.int z) :: st) M k n) : pe_W E d mc ms Γ Q pc lv (.inl (.int y) :: .inl (.int x) :: st) M k n := by subst hz; exact pe_imul hd kk
theorem pen_dcmp {x y : UInt64} {a b : Int} {op : CmpOp} (hd : decode Γ.2.1 pc = .ok (.dcmp op, 1)) (hx : x = dz a) (hy : y = dz b) (ha : a.natAbs ≤ 2 ^ 53) (hb : b.natAbs ≤ 2 ^ 53) {M : px_M} (kk : pe_W E d mc ms Γ Q (pc + 1) lv (.inl (.int (dz_c a b)) :: st) M k n) : pe_W E d mc ms Γ Q pc lv (.inl (.double y) :: .inl (.double x) :: st) M k n := by
  subst hx hy
  refine pe_dcmp hd ?_
  rw [dz_cmp op ha hb]; exact kk
theorem pen_dadd {a b : Int} (hd : decode Γ.2.1 pc = .ok (.dadd, 1)) (ha : a.natAbs ≤ 2 ^ 50) (hb : b.natAbs ≤ 2 ^ 50) {z : Int} (hz : a + b = z) {M : px_M} (kk : pe_W E d mc ms Γ Q (pc + 1) lv (.inl (.double (dz z)) :: st) M k n) : pe_W E d mc ms Γ Q pc lv (.inl (.double (dz b)) :: .inl (.double (dz a)) :: st) M k n := by
  subst hz
  exact pe_dadd hd (dz_add (by omega) (by omega)) (dz_vf (by omega)) kk
theorem pen_dsub {a b : Int} (hd : decode Γ.2.1 pc = .ok (.dsub, 1)) (ha : a.natAbs ≤ 2 ^ 50) (hb : b.natAbs ≤ 2 ^ 50) {z : Int} (hz : a - b = z) {M : px_M} (kk : pe_W E d mc ms Γ Q (pc + 1) lv (.inl (.double (dz z)) :: st) M k n) : pe_W E d mc ms Γ Q pc lv (.inl (.double (dz b)) :: .inl (.double (dz a)) :: st) M k n := by
  subst hz
  exact pe_dsub hd (dz_sub (by omega) (by omega)) (dz_vf (by omega)) kk
variable {M : px_M} {P : Prop}
theorem pen_icmp_eq {x y : Int32} {off : Int} {tgt : Nat} (hd : decode Γ.2.1 pc = .ok (.if_icmp .eq off, 3)) (ht : (pc : Int) + off = (tgt : Int)) (hc : x = y ↔ P) (kt : P → pe_W E d mc ms Γ Q tgt lv st M k n) (kf : ¬ P → pe_W E d mc ms Γ Q (pc + 3) lv st M k n) : pe_W E d mc ms Γ Q pc lv (.inl (.int y) :: .inl (.int x) :: st) M k n := pe_icmp_eq hd ht (fun h => kt (hc.mp h)) (fun h => kf (fun p => h (hc.mpr p)))
theorem pen_icmp_ne {x y : Int32} {off : Int} {tgt : Nat} (hd : decode Γ.2.1 pc = .ok (.if_icmp .ne off, 3)) (ht : (pc : Int) + off = (tgt : Int)) (hc : x = y ↔ P) (kt : ¬ P → pe_W E d mc ms Γ Q tgt lv st M k n) (kf : P → pe_W E d mc ms Γ Q (pc + 3) lv st M k n) : pe_W E d mc ms Γ Q pc lv (.inl (.int y) :: .inl (.int x) :: st) M k n := pe_icmp_ne hd ht (fun h => kt (fun p => h (hc.mpr p))) (fun h => kf (hc.mp h))
theorem pen_icmp_lt {x y : Int32} {off : Int} {tgt : Nat} (hd : decode Γ.2.1 pc = .ok (.if_icmp .lt off, 3)) (ht : (pc : Int) + off = (tgt : Int)) (hc : x < y ↔ P) (kt : P → pe_W E d mc ms Γ Q tgt lv st M k n) (kf : ¬ P → pe_W E d mc ms Γ Q (pc + 3) lv st M k n) : pe_W E d mc ms Γ Q pc lv (.inl (.int y) :: .inl (.int x) :: st) M k n := pe_icmp_lt hd ht (fun h => kt (hc.mp h)) (fun h => kf (fun p => h (hc.mpr p)))
theorem pen_icmp_ge {x y : Int32} {off : Int} {tgt : Nat} (hd : decode Γ.2.1 pc = .ok (.if_icmp .ge off, 3)) (ht : (pc : Int) + off = (tgt : Int)) (hc : y ≤ x ↔ P) (kt : P → pe_W E d mc ms Γ Q tgt lv st M k n) (kf : ¬ P → pe_W E d mc ms Γ Q (pc + 3) lv st M k n) : pe_W E d mc ms Γ Q pc lv (.inl (.int y) :: .inl (.int x) :: st) M k n := pe_icmp_ge hd ht (fun h => kt (hc.mp h)) (fun h => kf (fun p => h (hc.mpr p)))
theorem pen_icmp_gt {x y : Int32} {off : Int} {tgt : Nat} (hd : decode Γ.2.1 pc = .ok (.if_icmp .gt off, 3)) (ht : (pc : Int) + off = (tgt : Int)) (hc : y < x ↔ P) (kt : P → pe_W E d mc ms Γ Q tgt lv st M k n) (kf : ¬ P → pe_W E d mc ms Γ Q (pc + 3) lv st M k n) : pe_W E d mc ms Γ Q pc lv (.inl (.int y) :: .inl (.int x) :: st) M k n := pe_icmp_gt hd ht (fun h => kt (hc.mp h)) (fun h => kf (fun p => h (hc.mpr p)))
theorem pen_icmp_le {x y : Int32} {off : Int} {tgt : Nat} (hd : decode Γ.2.1 pc = .ok (.if_icmp .le off, 3)) (ht : (pc : Int) + off = (tgt : Int)) (hc : x ≤ y ↔ P) (kt : P → pe_W E d mc ms Γ Q tgt lv st M k n) (kf : ¬ P → pe_W E d mc ms Γ Q (pc + 3) lv st M k n) : pe_W E d mc ms Γ Q pc lv (.inl (.int y) :: .inl (.int x) :: st) M k n := pe_icmp_le hd ht (fun h => kt (hc.mp h)) (fun h => kf (fun p => h (hc.mpr p)))
theorem pen_if_eq {x : Int32} {off : Int} {tgt : Nat} (hd : decode Γ.2.1 pc = .ok (.ifCond .eq off, 3)) (ht : (pc : Int) + off = (tgt : Int)) (hc : x = 0 ↔ P) (kt : P → pe_W E d mc ms Γ Q tgt lv st M k n) (kf : ¬ P → pe_W E d mc ms Γ Q (pc + 3) lv st M k n) : pe_W E d mc ms Γ Q pc lv (.inl (.int x) :: st) M k n := pe_if_eq hd ht (fun h => kt (hc.mp h)) (fun h => kf (fun p => h (hc.mpr p)))
theorem pen_if_ne {x : Int32} {off : Int} {tgt : Nat} (hd : decode Γ.2.1 pc = .ok (.ifCond .ne off, 3)) (ht : (pc : Int) + off = (tgt : Int)) (hc : x = 0 ↔ P) (kt : ¬ P → pe_W E d mc ms Γ Q tgt lv st M k n) (kf : P → pe_W E d mc ms Γ Q (pc + 3) lv st M k n) : pe_W E d mc ms Γ Q pc lv (.inl (.int x) :: st) M k n := pe_if_ne hd ht (fun h => kt (fun p => h (hc.mpr p))) (fun h => kf (hc.mp h))
theorem pen_if_lt {x : Int32} {off : Int} {tgt : Nat} (hd : decode Γ.2.1 pc = .ok (.ifCond .lt off, 3)) (ht : (pc : Int) + off = (tgt : Int)) (hc : x < 0 ↔ P) (kt : P → pe_W E d mc ms Γ Q tgt lv st M k n) (kf : ¬ P → pe_W E d mc ms Γ Q (pc + 3) lv st M k n) : pe_W E d mc ms Γ Q pc lv (.inl (.int x) :: st) M k n := pe_if_lt hd ht (fun h => kt (hc.mp h)) (fun h => kf (fun p => h (hc.mpr p)))
theorem pen_if_ge {x : Int32} {off : Int} {tgt : Nat} (hd : decode Γ.2.1 pc = .ok (.ifCond .ge off, 3)) (ht : (pc : Int) + off = (tgt : Int)) (hc : 0 ≤ x ↔ P) (kt : P → pe_W E d mc ms Γ Q tgt lv st M k n) (kf : ¬ P → pe_W E d mc ms Γ Q (pc + 3) lv st M k n) : pe_W E d mc ms Γ Q pc lv (.inl (.int x) :: st) M k n := pe_if_ge hd ht (fun h => kt (hc.mp h)) (fun h => kf (fun p => h (hc.mpr p)))
theorem pen_if_gt {x : Int32} {off : Int} {tgt : Nat} (hd : decode Γ.2.1 pc = .ok (.ifCond .gt off, 3)) (ht : (pc : Int) + off = (tgt : Int)) (hc : 0 < x ↔ P) (kt : P → pe_W E d mc ms Γ Q tgt lv st M k n) (kf : ¬ P → pe_W E d mc ms Γ Q (pc + 3) lv st M k n) : pe_W E d mc ms Γ Q pc lv (.inl (.int x) :: st) M k n := pe_if_gt hd ht (fun h => kt (hc.mp h)) (fun h => kf (fun p => h (hc.mpr p)))
theorem pen_if_le {x : Int32} {off : Int} {tgt : Nat} (hd : decode Γ.2.1 pc = .ok (.ifCond .le off, 3)) (ht : (pc : Int) + off = (tgt : Int)) (hc : x ≤ 0 ↔ P) (kt : P → pe_W E d mc ms Γ Q tgt lv st M k n) (kf : ¬ P → pe_W E d mc ms Γ Q (pc + 3) lv st M k n) : pe_W E d mc ms Γ Q pc lv (.inl (.int x) :: st) M k n := pe_if_le hd ht (fun h => kt (hc.mp h)) (fun h => kf (fun p => h (hc.mpr p)))
end MMRe
section MMR2e
variable {E : Nat × Nat} {d mc ms : Nat} {Γ : px_Y} {Q : px_Q} {pc : Nat} {lv : List (Nat × px_V)} {st : List px_V} {M : px_M} {k n : Nat}
theorem pen_dconst0 (hd : decode Γ.2.1 pc = .ok (.dconst 0, 1)) (kk : pe_W E d mc ms Γ Q (pc + 1) lv (.inl (.double (dz 0)) :: st) M k n) : pe_W E d mc ms Γ Q pc lv st M k n := pe_dconst0 hd (by rw [dz_0]; exact kk)
theorem pen_ldc2d {index : Nat} {v : UInt64} {z : Int} (hd : decode Γ.2.1 pc = .ok (.ldc2_w index, 3)) (hw : Cond.constantDouble Γ.1.cls index v ∈ px_T) (hz : v = dz z) (kk : pe_W E d mc ms Γ Q (pc + 3) lv (.inl (.double (dz z)) :: st) M k n) : pe_W E d mc ms Γ Q pc lv st M k n := pe_ldc2d hd hw (by rw [hz]; exact kk)
theorem pen_ldc {index x : Nat} {v : Int32} (hd : decode Γ.2.1 pc = .ok (.ldc index, 2)) (hw : Cond.constant Γ.1.cls index v ∈ px_T) (hz : v = nI x) (kk : pe_W E d mc ms Γ Q (pc + 2) lv (.inl (.int (nI x)) :: st) M k n) : pe_W E d mc ms Γ Q pc lv st M k n := pe_ldc hd hw (by rw [hz]; exact kk)
end MMR2e
section MMR3e
variable {E : Nat × Nat} {d mc ms : Nat} {Γ : px_Y} {Q : px_Q} {pc : Nat} {lv : List (Nat × px_V)} {st : List px_V} {M : px_M} {k n : Nat}
theorem pe_callVr {Γ' : px_Y} {d' mc' ms' idx nA : Nat} {As stk : List px_V} {r : px_R} {v : px_V} {M1 : px_M} (hM : pe_Met E d' mc' ms' Γ' (.inr r :: As) M (px_rt (some v) M1)) (hd : decode Γ.2.1 pc = .ok (.invokevirtual idx, 3)) (hl : px_lkV Γ.1.cls idx nA Γ') (hr : px_rcv M r Γ'.1.cls) (hs : stk = As.reverse ++ .inr r :: st) (hA : As.length = nA) (hdd : d' + 1 ≤ d) (hk : k + mc' ≤ mc) (hn : n + ms' ≤ ms) (hst : (st.map px_cat).sum ≤ 8)
    (kk : pe_W E d mc ms Γ Q (pc + 3) lv (v :: st) M1 (k + mc') (n + ms')) : pe_W E d mc ms Γ Q pc lv stk M k n :=
  pe_callV hM hd hl hr hs hA hdd hk hn hst (fun v9 M' h => by
    obtain ⟨h1, h2⟩ := h
    cases h1; subst h2; exact kk) (fun E M' h => absurd h.1 (fun z => by cases z))
theorem pe_callVv {Γ' : px_Y} {d' mc' ms' idx nA : Nat} {As stk : List px_V} {r : px_R} {M1 : px_M} (hM : pe_Met E d' mc' ms' Γ' (.inr r :: As) M (px_rt none M1)) (hd : decode Γ.2.1 pc = .ok (.invokevirtual idx, 3)) (hl : px_lkV Γ.1.cls idx nA Γ') (hr : px_rcv M r Γ'.1.cls) (hs : stk = As.reverse ++ .inr r :: st) (hA : As.length = nA) (hdd : d' + 1 ≤ d) (hk : k + mc' ≤ mc) (hn : n + ms' ≤ ms) (hst : (st.map px_cat).sum ≤ 8)
    (kk : pe_W E d mc ms Γ Q (pc + 3) lv st M1 (k + mc') (n + ms')) : pe_W E d mc ms Γ Q pc lv stk M k n :=
  pe_callV hM hd hl hr hs hA hdd hk hn hst (fun v9 M' h => by
    obtain ⟨h1, h2⟩ := h
    cases h1; subst h2; exact kk) (fun E M' h => absurd h.1 (fun z => by cases z))
theorem pe_callSr {Γ' : px_Y} {d' mc' ms' idx nA : Nat} {As stk : List px_V} {v : px_V} {M1 : px_M} (hM : pe_Met E d' mc' ms' Γ' As M (px_rt (some v) M1)) (hd : decode Γ.2.1 pc = .ok (.invokestatic idx, 3)) (hl : px_lkS Γ.1.cls idx nA Γ') (hs : stk = As.reverse ++ st) (hA : As.length = nA) (hdd : d' + 1 ≤ d) (hk : k + mc' ≤ mc) (hn : n + ms' ≤ ms) (hst : (st.map px_cat).sum ≤ 8)
    (kk : pe_W E d mc ms Γ Q (pc + 3) lv (v :: st) M1 (k + mc') (n + ms')) : pe_W E d mc ms Γ Q pc lv stk M k n :=
  pe_callS hM hd hl hs hA hdd hk hn hst (fun v9 M' h => by
    obtain ⟨h1, h2⟩ := h
    cases h1; subst h2; exact kk) (fun E M' h => absurd h.1 (fun z => by cases z))
theorem pe_callSv {Γ' : px_Y} {d' mc' ms' idx nA : Nat} {As stk : List px_V} {M1 : px_M} (hM : pe_Met E d' mc' ms' Γ' As M (px_rt none M1)) (hd : decode Γ.2.1 pc = .ok (.invokestatic idx, 3)) (hl : px_lkS Γ.1.cls idx nA Γ') (hs : stk = As.reverse ++ st) (hA : As.length = nA) (hdd : d' + 1 ≤ d) (hk : k + mc' ≤ mc) (hn : n + ms' ≤ ms) (hst : (st.map px_cat).sum ≤ 8)
    (kk : pe_W E d mc ms Γ Q (pc + 3) lv st M1 (k + mc') (n + ms')) : pe_W E d mc ms Γ Q pc lv stk M k n :=
  pe_callS hM hd hl hs hA hdd hk hn hst (fun v9 M' h => by
    obtain ⟨h1, h2⟩ := h
    cases h1; subst h2; exact kk) (fun E M' h => absurd h.1 (fun z => by cases z))
end MMR3e
section PE9
variable {E : Nat × Nat} {d mc ms : Nat} {Γ : px_Y} {Q : px_Q} {pc : Nat} {lv : List (Nat × px_V)} {st : List px_V} {M : px_M} {k n : Nat}
/-- the empty row of all lists -/
theorem pe_getsE {index : Nat} (hd : decode Γ.2.1 pc = .ok (.getstatic index, 3)) (hw : Cond.fieldLink Γ.1.cls index RJx4a65c "DEFAULTCAPACITY_EMPTY_ELEMENTDATA" "[Ljava/lang/Object;" ∈ px_T)
    (kk : pe_W E d mc ms Γ Q (pc + 3) lv (.inl (.ref E.1) :: st) M k n) : pe_W E d mc ms Γ Q pc lv st M k n := by
  refine ⟨trivial, fun {p l e R s m args below meth c g P0 ad0} C {ad dd H locs ls} I => ?_⟩
  obtain ⟨hx, hb, hml, hrt, hlk, hown, hnm, hts, htb, hfl, hSt, hR⟩ := id C
  have k1 := kk.2 (e := e) (below := below) C (I.psh (v := .inl (.ref E.1)) trivial)
  rw [← hR.2.2.2.2.1] at k1
  exact va_gets hx hb hSt.2.2.2.1 I.2.2.2.2.1 hown (hts _ hw) (fun _ h => h) hd k1
/-- it has no places -/
theorem pe_alenE (hd : decode Γ.2.1 pc = .ok (.arraylength, 1)) (kk : pe_W E d mc ms Γ Q (pc + 1) lv (.inl (.int (nI 0)) :: st) M k n) : pe_W E d mc ms Γ Q pc lv (.inl (.ref E.1) :: st) M k n := by
  refine ⟨trivial, fun {p l e R s m args below meth c g P0 ad0} C {ad dd H locs ls} I => ?_⟩
  obtain ⟨hx, hb, hml, hrt, hlk, hown, hnm, hts, htb, hfl, hSt, hR⟩ := id C
  have h5 := hSt.2.2.2.2.1
  have h10 := hSt.2.2.2.2.2.2.2.2.2
  obtain ⟨cell, e1, e2, e3⟩ := h5.2
  have h9 : H[E.1]? = some cell := by
    rw [← hR.2.2.2.2.1, I.2.2.2.2.1.2.1 _ (Nat.lt_of_lt_of_le h5.1 h10) (Nat.not_le.mpr h5.1)]; exact e1
  exact W.alen hx hb h9 e2 (n := nI 0) (by rw [e3]; rfl) rfl rfl hd (kk.2 C (I.pop.psh trivial))
theorem pe_recvA {g : px_G} {P0 : px_R → Prop} {ad0 : px_R → Nat} {s : State} {nL : Nat} {ad dd : px_R → Nat} {H : Heap} {locs : List Loc} {ls : Array Slot} (hSt : px_St g s) (I : px_I g P0 ad0 s nL lv st M ad dd H locs ls) {r : px_R} {len : Nat} {f : Nat → Option px_R} (hr : M r = some (.inr (.inl (5, len, .inr (.inr (.inr f)))))) : ∃ cell : Cell, H[ad r]? = some cell ∧ cell.vm.isStatics = false ∧ s.vm.findClass "[Ljava/lang/Object;" = some cell.cls :=
  ⟨_, px_aq (I.1.1 r _ hr), rfl, va_nmO (C := "java/lang/Object") (hSt.1.2 5 _ rfl).2 (by decide)⟩
theorem pe_getC (hown' : Γ.1.cls = RJ7) {r : px_R} {len : Nat} {f : Nat → Option px_R} (hd : decode Γ.2.1 pc = .ok (.invokevirtual 86, 3)) (hr : M r = some (.inr (.inl (5, len, .inr (.inr (.inr f)))))) (hst : (st.map px_cat).sum ≤ 8)
    (kk : pe_W E d mc ms Γ Q (pc + 3) lv (.inl (.ref E.2) :: st) M k n) : pe_W E d mc ms Γ Q pc lv (.inr r :: st) M k n := by
  refine ⟨trivial, fun {p l e R s m args below meth c g P0 ad0} C {ad dd H locs ls} I => ?_⟩
  obtain ⟨hx, hb, hml, hrt, hlk, hown, hnm, hts, htb, hfl, hSt, hR⟩ := id C
  rw [hown'] at hown
  exact va_getC (C := "[Ljava/lang/Object;") hx hb (hml.trans I.siz.symm) hown (hts _ (px_mem 341 (by decide +kernel) rfl)) (va_Nw.use rfl (hSt.2.2.2.2.2.2.1 _ (List.mem_of_getElem? (i := 1146) (by decide +kernel)) rfl)) (hts _ (px_mem 1145 (by decide +kernel) rfl)) (hts _ (px_mem 342 (by decide +kernel) rfl)) (hts _ (px_mem 356 (by decide +kernel) rfl)) hR.2.2.2.2.2 (pe_recvA hSt I hr) (by omega) (by rw [px_cats]; omega) hd (kk.2 C (I.pop.psh trivial))
theorem pe_ldcM (hown' : Γ.1.cls = RJ7) (hd : decode Γ.2.1 pc = .ok (.ldc 110, 2))
    (kk : pe_W E d mc ms Γ Q (pc + 2) lv (.inl (.ref E.2) :: st) M k n) : pe_W E d mc ms Γ Q pc lv st M k n := by
  refine ⟨trivial, fun {p l e R s m args below meth c g P0 ad0} C {ad dd H locs ls} I => ?_⟩
  obtain ⟨hx, hb, hml, hrt, hlk, hown, hnm, hts, htb, hfl, hSt, hR⟩ := id C
  rw [hown'] at hown
  exact va_ldcM hx hb hown (hts _ K_RJ7_110) hR.2.2.2.2.2 hd (kk.2 C (I.psh trivial))
theorem pe_acmp_neE {a : Nat} {off : Int} {tgt : Nat} (hd : decode Γ.2.1 pc = .ok (.if_acmp .ne off, 3)) (ht : (pc : Int) + off = (tgt : Int)) (kf : pe_W E d mc ms Γ Q (pc + 3) lv st M k n) : pe_W E d mc ms Γ Q pc lv (.inl (.ref a) :: .inl (.ref a) :: st) M k n := ⟨trivial, fun C _ _ _ _ _ I => lv_acmp_ne (rx := some a) (ry := some a) C.1 C.2.1 hd ht (fun h => absurd rfl h) (fun _ => kf.2 C I.pop.pop)⟩
/-- a row of the world isn't the empty one -/
theorem pe_acmp_eqN {r : px_R} {off : Int} {tgt : Nat} (hd : decode Γ.2.1 pc = .ok (.if_acmp .eq off, 3)) (ht : (pc : Int) + off = (tgt : Int)) (kf : pe_W E d mc ms Γ Q (pc + 3) lv st M k n) : pe_W E d mc ms Γ Q pc lv (.inl (.ref E.1) :: .inr r :: st) M k n := by
  refine ⟨trivial, fun {p l e R s m args below meth c g P0 ad0} C {ad dd H locs ls} I => ?_⟩
  have hR := C.2.2.2.2.2.2.2.2.2.2.2
  have h5 := C.2.2.2.2.2.2.2.2.2.2.1.2.2.2.2.1
  have h6 := I.1.ge I.pop.top
  exact lv_acmp_eq (rx := some (ad r)) (ry := some E.1) C.1 C.2.1 hd ht (fun h => absurd (Option.some.inj h) (by omega)) (fun _ => kf.2 C I.pop.pop)
theorem pe_copy0 {p : Program} {l : Launch} {e : Env} {R : Room} {s : State} {m : MethodId} {args : Array Value} {below : List Frame} {meth : Method} {c : Code} {H : Heap} {locs : List Loc} {cells slots : Nat} {Z : State → Prop} {cc : ByteArray} {pc : Nat} {ls : Array Slot} {rest : List Value} (hexec : p.tables.exec = Jvm.exec) (hb : c.code = cc) (hml : c.maxLocals = ls.size) {own : String} {index : Nat} (hown : s.vm.findClass own = some m.cls) (hlink : (Cond.methodLink own index arraycopyName).before args s = true) (hnat : (Cond.native arraycopyName).before args s = true) (hstat : (Cond.static arraycopyName).before args s = true) (hini : (Cond.initialized "java/lang/System").before args s = true)
    {a0 a1 : Nat} {cA : ClassId} {n0 n1 j j1 z : Nat} {f f1 : Nat → Option Nat} (hc0 : H[a0]? = some (arrV cA n0 (fun j => va_rf (f j)))) (hc1 : H[a1]? = some (arrV cA n1 (fun j => va_rf (f1 j)))) (hA : ArrOfT s cA (.object "java/lang/Object") ∧ va_RA s cA (.object "java/lang/Object")) (hj : j + z ≤ n0) (hj1 : j1 + z ≤ n1) (hn0 : n0 ≤ 65536) (hn1 : n1 ≤ 65536) (hel : ∀ i : Nat, i < z → ∀ y : Nat, f (j + i) = some y → va_Any "java/lang/Object" s H y)
    (hframes : 1 ≤ R.frames) (hlocals : (rest.map fun v => v.category).sum + (nativeFrameWords "java/lang/System" "arraycopy" 5 + 11) ≤ R.locals) (hdg : decode cc pc = .ok (.invokestatic index, 3))
    (kk : ∀ (H1 : Heap) (locs1 : List Loc), H1[a1]? = some (vp_cell cA (n1, .inr (.inr (.inr (.inr (va_cpy f f1 j j1 z)))))) → H1.size = H.size → (∀ q : Nat, q ≠ a1 → H1[q]? = H[q]?) → (∀ q ∈ locs1, q ∈ locs ∨ q.base = a1) → W p l e R s m args below meth c H1 locs1 cells slots Z (F0 m (pc + 3) ls rest)) : W p l e R s m args below meth c H locs cells slots Z (F0 m pc ls (.int (nI z) :: .int (nI j1) :: .ref a1 :: .int (nI j) :: .ref a0 :: rest)) := by
  have c1 : (nI j).toNatClampNeg = j := nI_clamp (by omega)
  have c2 : (nI j1).toNatClampNeg = j1 := nI_clamp (by omega)
  have c3 : (nI z).toNatClampNeg = z := nI_clamp (by omega)
  have t1 : (nI j).toInt = j := nI_toInt (by omega)
  have t2 : (nI j1).toInt = j1 := nI_toInt (by omega)
  have t3 : (nI z).toInt = z := nI_toInt (by omega)
  intro T hT X
  obtain ⟨-, k0, hk0, cm0, hkk0⟩ := hA.1 n0 (fun j => va_rf (f j))
  obtain ⟨-, k1, hk1, cm1, hkk1⟩ := hA.1 n1 (fun j => va_rf (f1 j))
  obtain ⟨kA, comp, r1, r2, r3, -⟩ := hA.2
  obtain ⟨vm', X', step⟩ := X.arraycopy hexec hown hlink hnat hstat hini (src := a0) (dst := a1) (cs := arrV cA n0 (fun j => va_rf (f j))) (cd := arrV cA n1 (fun j => va_rf (f1 j))) (srcPos := nI j) (destPos := nI j1) (n := nI z) (by rw [hT]; exact hc0) (by rw [hT]; exact hc1)
    (fun _ h => by cases h) (fun _ h => by cases h) (fun h => by cases h) (fun h => by cases h) hk0 hk1 hkk0 hkk1 rfl (nI_pos (by omega)) (nI_pos (by omega)) (nI_pos (by omega))
    (by rw [t1, t3, arrV_size]; omega) (by rw [t2, t3, arrV_size]; omega)
    (fun vm₁ hal i hi => by
      rw [c3] at hi
      rw [c1, Array.getD_eq_getD_getElem?, arrV_read _ _ (by omega)]
      show _ ∧ _
      cases hy : f (j + i) with
      | none => exact ⟨rfl, trivial⟩
      | some y =>
        obtain ⟨cellV, g1, g2, ⟨kC, hkC⟩, hasg⟩ := hel i hi y hy
        cases hk1.symm.trans r1
        cases hkk1.symm.trans r2
        obtain ⟨kE, hkE, -⟩ := Vm.findClass_spec r3
        obtain ⟨kC', hkC', -⟩ := hal.2.2 _ _ hkC
        obtain ⟨kE', hkE', -⟩ := hal.2.2 _ _ hkE
        refine ⟨rfl, cellV, (show T.heap[y]? = some cellV by rw [hT]; exact g1), (fun q h => by rw [h] at g2; cases g2), ⟨kC', hkC'⟩, ⟨kE', hkE'⟩, ?_⟩
        show vm₁.assignable _ _ = true
        rw [hal.assignable]
        exact hasg _ r3)
    (g := F0 m pc ls (.int (nI z) :: .int (nI j1) :: .ref a1 :: .int (nI j) :: .ref a0 :: rest)) rfl (by rw [hml]) (rest := rest) rfl (by rw [hb]; exact hdg) hframes (by show 2 * 0 + _ + _ ≤ _; omega)
  have e1 : copied (arrV cA n0 (fun j => va_rf (f j))) (arrV cA n1 (fun j => va_rf (f1 j))) (nI j) (nI j1) (nI z) = arrV cA n1 (fun i => va_rf (va_cpy f f1 j j1 z i)) := by
    have h := va_copied (fun z => va_rf z) cA cA f f1 (n0 := n0) (n1 := n1) (sp := j) (dp := j1) (n := z) hj
    unfold copied
    rw [c1, c2, c3]
    exact h
  rw [e1] at X' step
  have hl : a1 < H.size := (Array.getElem?_eq_some_iff.mp hc1).1
  obtain ⟨t, b1, b2⟩ := kk (H.setIfInBounds a1 (arrV cA n1 (fun i => va_rf (va_cpy f f1 j j1 z i)))) _ (by simp [Array.getElem?_setIfInBounds, hl]; rfl) (by simp) (fun q hq => by simp [Array.getElem?_setIfInBounds, Ne.symm hq]) (fun q hq => by
    rcases List.mem_append.mp hq with h | h
    · exact Or.inl h
    · obtain ⟨z, -, hz⟩ := List.mem_map.mp h
      exact Or.inr (by rw [← hz])) _ (by rw [← hT]; rfl) X'
  exact ⟨t, step t b1, b2⟩
def px_obs (M : px_M) (x : px_R) : Prop := ∃ ci fs q, M x = some (.inl (ci, fs)) ∧ px_cl[ci]? = some q ∧ Cond.castable q.1 "java/lang/Object" ∈ lw_tbl
/-- arraycopy between rows of objects, or in one -/
theorem pe_copy {index : Nat} {r r' : px_R} {len len' : Nat} {f f' : Nat → Option px_R} {i i' x : Int32} {j j' z : Nat} (hd : decode Γ.2.1 pc = .ok (.invokestatic index, 3)) (hl : Cond.methodLink Γ.1.cls index arraycopyName ∈ px_T) (hr : M r = some (.inr (.inl (5, len, .inr (.inr (.inr f)))))) (hr' : M r' = some (.inr (.inl (5, len', .inr (.inr (.inr f')))))) (hi : i = nI j) (hi' : i' = nI j') (hx : x = nI z) (hj : j + z ≤ len) (hj' : j' + z ≤ len') (hn : len ≤ 65536) (hn' : len' ≤ 65536)
    (hel : ∀ q y, q < z → f (j + q) = some y → px_obs M y) (hst : (st.map px_cat).sum ≤ 8)
    (kk : pe_W E d mc ms Γ Q (pc + 3) lv st (px_up M r' (.inr (.inl (5, len', .inr (.inr (.inr (va_cpy f f' j j' z))))))) k n) : pe_W E d mc ms Γ Q pc lv (.inl (.int x) :: .inl (.int i') :: .inr r' :: .inl (.int i) :: .inr r :: st) M k n := by
  subst hi hi' hx
  refine ⟨trivial, fun {p l e R s m args below meth c g P0 ad0} C {ad dd H locs ls} I => ?_⟩
  obtain ⟨hx, hb, hml, hrt, hlk, hown, hnm, hts, htb, hfl, hSt, hR⟩ := id C
  have hK := hSt.1
  have c1 : (nI j).toNatClampNeg = j := nI_clamp (by omega)
  have c2 : (nI j').toNatClampNeg = j' := nI_clamp (by omega)
  have c3 : (nI z).toNatClampNeg = z := nI_clamp (by omega)
  have hrn' : M r' ≠ none := by rw [hr']; exact fun z => by cases z
  have hany : ∀ q : Nat, q < z → ∀ y : Nat, (f (j + q)).map ad = some y → va_Any "java/lang/Object" s H y := by
    intro q hq y hy
    obtain ⟨x0, hx0, rfl⟩ := Option.map_eq_some_iff.mp hy
    obtain ⟨ci, fs, q0, h1, h2, h3⟩ := hel q x0 hq hx0
    refine va_rAny (q0 := 0) (fs := fs.map (px_v ad)) hK (px_one (px_at.obj (I.1.1 x0 _ h1))) rfl h2 fun comp c0 g1 g2 => ?_
    obtain ⟨c3, c4, hc3, hc4, hasg⟩ := Cond.castable_spec (va_Nw.use (A := args) rfl (hSt.2.2.2.2.2.2.1 _ h3 rfl))
    have e4 : c4 = comp := Option.some.inj (hc4.symm.trans g1)
    have e3 : c3 = c0 := Option.some.inj (hc3.symm.trans g2)
    rw [e3, e4] at hasg
    exact hasg
  have lm : (Cond.static arraycopyName) ∈ px_T := px_mem 233 (by decide +kernel) rfl
  have lm2 : (Cond.native arraycopyName) ∈ px_T := px_mem 234 (by decide +kernel) rfl
  have lm3 : (Cond.initialized "java/lang/System") ∈ px_T := px_mem 52 (by decide +kernel) rfl
  have fr : nativeFrameWords "java/lang/System" "arraycopy" 5 ≤ 20 := by decide
  have fin : ∀ (H1 : Heap) (locs1 : List Loc), H1[ad r']? = some (vp_cell (px_gA g 5) (len', .inr (.inr (.inr (.inr (va_cpy (fun i => (f i).map ad) (fun i => (f' i).map ad) j j' z)))))) → va_S (px_AA g) s.heap H1 locs1 → (∀ q : Nat, q ≠ ad r' → H1[q]? = H[q]?) → W p l e R s m args below meth c H1 locs1 k n (vx_MQ below (px_Qc g P0 ad0 Q) (px_XC g P0 ad0 Q) args s mc ms (px_AA g)) (F0 m (pc + 3) ls (st.map (px_v ad))) := by
    intro H1 locs1 e1 e2 e3
    refine kk.2 C ⟨I.1.set hr' (fun xs z => by cases z) (fun xs z => by cases z) ?_ ?_ e3, fun q hq => (I.2.1 q hq).mono fun _ => px_up_nn, fun w hw => (I.pop.pop.pop.pop.pop.2.2.1 w hw).mono fun _ => px_up_nn, fun x hx => ⟨px_up_nn (I.2.2.2.1 x hx).1, (I.2.2.2.1 x hx).2⟩, e2, I.has⟩
    · show H1[ad r']? = some (vp_cell (px_gA g 5) (len', .inr (.inr (.inr (.inr fun i => (va_cpy f f' j j' z i).map ad)))))
      rw [e1]
      refine congrArg (fun u => some (vp_cell (px_gA g 5) (len', .inr (.inr (.inr (.inr u)))))) (funext fun i => ?_)
      unfold va_cpy
      split <;> rfl
    · intro i y hy
      unfold va_cpy at hy
      split at hy
      · exact (I.1.2.1 r _ hr) _ y hy
      · exact (I.1.2.1 r' _ hr') _ y hy
  have hn0 : px_gn g ≤ ad r' := I.1.ge hrn'
  refine pe_copy0 hx hb (hml.trans I.siz.symm) hown (hts _ hl) (hts _ lm2) (hts _ lm) (hts _ lm3) (px_aq (I.1.1 r _ hr)) (px_aq (I.1.1 r' _ hr')) (hK.2 5 _ rfl) hj hj' hn hn' hany (by omega) (by rw [px_cats]; omega) hd fun H1 locs1 e1 e2 e3 e4 => fin H1 locs1 e1 ⟨by rw [e2]; exact I.2.2.2.2.1.1, fun q g1 g2 => ?_, fun q hq => ?_⟩ e3
  · rw [e3 q (fun e => g2 (by rw [e]; exact hn0))]
    exact I.2.2.2.2.1.2.1 q g1 g2
  · rcases e4 q hq with h | h
    · exact I.2.2.2.2.1.2.2 q h
    · show px_gn g ≤ q.base
      rw [h]; exact hn0
end PE9
