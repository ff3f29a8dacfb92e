/-! ===== returns, throws, catches, calls, and a body's contract ===== -/
theorem px_notrace {l : Launch} (h : l.flags = flags0) : l.stackTraces = false := by
  unfold Launch.stackTraces
  rw [h]
  simp [flags0]
/-- a return of v over the world M1; a throw of E -/
abbrev px_rt (v : Option px_V) (M1 : px_M) : px_Q := fun o M => o = .inl v ∧ M = M1
abbrev px_th (E : String) (M1 : px_M) : px_Q := fun o M => o = .inr E ∧ M = M1
theorem px_met_of {l : Launch} {y : MethodName} {ws : List Cond} {rm : Room} {Pc : Array Value → State → Prop} {Qc : Array Value → State → Outcome → State → Prop} {XC : String → State → State → Prop} {mc ms : Nat} {free : Addr → Prop} (h : vx_Met l y ws rm Pc Qc XC mc ms free) (hx : ∀ E s t, ¬ XC E s t) : Met l y ws rm Pc Qc mc ms free := by
  intro p e ha hc hk s m args below hf happ hP hK
  obtain ⟨n, o, h1, h2, h3, h4⟩ := h p e ha hc hk s m args below hf happ hP hK
  refine ⟨n, o, h1, h2, h3, ?_⟩
  rcases h4 with h4 | ⟨q, -, E, ce, L, hX, -⟩
  · exact h4
  · exact absurd hX (hx _ _ _)
section PX4
variable {d mc ms : Nat} {Γ : px_Y} {Q : px_Q} {pc : Nat} {lv : List (Nat × px_V)} {st : List px_V} {M : px_M} {k n : Nat}
theorem px_I.F {g : px_G} {P0 : px_R → Prop} {ad0 : px_R → Nat} {s t : State} {nL : Nat} {ad dd : px_R → Nat} {H : Heap} {locs : List Loc} {ls : Array Slot} (I : px_I g P0 ad0 s nL lv st M ad dd H locs ls) (ht : t.heap = H) : va_F (px_AA g) s t := I.2.2.2.2.1.F ht
theorem px_qc {g : px_G} {P0 : px_R → Prop} {ad0 : px_R → Nat} {s t : State} {nL : Nat} {ad dd : px_R → Nat} {H : Heap} {locs : List Loc} {ls : Array Slot} (I : px_I g P0 ad0 s nL lv st M ad dd H locs ls) (ht : t.heap = H) {v : Option px_V} (hQ : Q (.inl v) M) (hv : ∀ w, v = some w → px_wf M w) (a : Array Value) : px_Qc g P0 ad0 Q a s (.returned (v.map (px_v ad))) t :=
  ⟨v, M, ad, dd, rfl, hQ, hv, by rw [ht]; exact I.1, I.2.2.2.1, I.F ht⟩
theorem px_iret {x : Int32} (hd : decode Γ.2.1 pc = .ok (.ireturn, 1)) (hr : Γ.2.2.2.1 = some .int) (hQ : Q (.inl (some (.inl (.int x)))) M) (hk : k ≤ mc) (hn : n ≤ ms) : px_W d mc ms Γ Q pc lv (.inl (.int x) :: []) M k n := by
  refine ⟨trivial, fun {p l e R s m args below meth c g P0 ad0} C {ad dd H locs ls} I => ?_⟩
  exact vx_ret (W.widen hk hn (W.iret C.1 C.2.1 (C.2.2.2.1.trans hr) (fun t ht _ => px_qc I ht hQ (fun w hw => by cases hw; trivial) args) I.2.2.2.2.1.2.2 hd C.2.2.2.2.1))
theorem px_zret {x : Int32} (hd : decode Γ.2.1 pc = .ok (.ireturn, 1)) (hr : Γ.2.2.2.1 = some .boolean) (hx : narrow .boolean (.int x) = .int x) (hQ : Q (.inl (some (.inl (.int x)))) M) (hk : k ≤ mc) (hn : n ≤ ms) : px_W d mc ms Γ Q pc lv (.inl (.int x) :: []) M k n := by
  refine ⟨trivial, fun {p l e R s m args below meth c g P0 ad0} C {ad dd H locs ls} I => ?_⟩
  exact vx_ret (W.widen hk hn (W.zret C.1 C.2.1 (C.2.2.2.1.trans hr) hx (fun t ht _ => px_qc I ht hQ (fun w hw => by cases hw; trivial) args) I.2.2.2.2.1.2.2 hd C.2.2.2.2.1))
theorem px_dret {x : UInt64} (hd : decode Γ.2.1 pc = .ok (.dreturn, 1)) (hr : Γ.2.2.2.1 = some .double) (hQ : Q (.inl (some (.inl (.double x)))) M) (hk : k ≤ mc) (hn : n ≤ ms) : px_W d mc ms Γ Q pc lv (.inl (.double x) :: []) M k n := by
  refine ⟨trivial, fun {p l e R s m args below meth c g P0 ad0} C {ad dd H locs ls} I => ?_⟩
  exact vx_ret (W.widen hk hn (W.dret C.1 C.2.1 (C.2.2.2.1.trans hr) (fun t ht _ => px_qc I ht hQ (fun w hw => by cases hw; trivial) args) I.2.2.2.2.1.2.2 hd C.2.2.2.2.1))
theorem px_vret (hd : decode Γ.2.1 pc = .ok (.return_, 1)) (hr : Γ.2.2.2.1 = none) (hQ : Q (.inl none) M) (hk : k ≤ mc) (hn : n ≤ ms) : px_W d mc ms Γ Q pc lv [] M k n := by
  refine ⟨trivial, fun {p l e R s m args below meth c g P0 ad0} C {ad dd H locs ls} I => ?_⟩
  exact vx_ret (W.widen hk hn (W.vret C.1 C.2.1 (C.2.2.2.1.trans hr) (fun t ht _ => px_qc I ht hQ (fun w hw => by cases hw) args) I.2.2.2.2.1.2.2 hd C.2.2.2.2.1))
theorem px_aret {v : px_V} {rt : FieldType} (hd : decode Γ.2.1 pc = .ok (.areturn, 1)) (hr : Γ.2.2.2.1 = some rt) (hrr : (∃ n, rt = .object n) ∨ ∃ t, rt = .array t) (hv : px_ref v) (hQ : Q (.inl (some v)) M) (hk : k ≤ mc) (hn : n ≤ ms) : px_W d mc ms Γ Q pc lv (v :: []) M k n := by
  refine ⟨trivial, fun {p l e R s m args below meth c g P0 ad0} C {ad dd H locs ls} I => ?_⟩
  have h9 : px_v ad v = .null ∨ ∃ a, px_v ad v = .ref a := by
    rcases v with v | r
    · cases v <;> first | exact Or.inl rfl | exact Or.inr ⟨_, rfl⟩ | exact absurd hv id
    · exact Or.inr ⟨_, rfl⟩
  exact vx_ret (W.widen hk hn (W.aret C.1 C.2.1 (C.2.2.2.1.trans hr) hrr h9 (fun t ht _ => px_qc I ht hQ (fun w hw => by cases hw; exact I.top) args) I.2.2.2.2.1.2.2 hd C.2.2.2.2.1))
/-- what 'throw new E(text)' links -/
def px_thw (own : String) (ik ic : Nat) (E : String) : Prop := Bundle.fit E = true ∧ Cond.classLink own ik E ∈ px_T ∧ Cond.initialized E ∈ px_T ∧ (∀ w ∈ vx_atS own ic E ["java/lang/RuntimeException", "java/lang/Exception"], (w ∈ px_T ∨ (w ∈ lw_tbl ∧ px_isN w = true)) ∧ vx_ot w = true)
theorem px_throw {ik is ic : Nat} {E text : String} (hw : px_thw RX4 ik ic E) (hown : Γ.1.cls = RX4) (hh : Γ.2.2.2.2 = []) (htx : (is, text) ∈ px_strs)
    (d0 : decode Γ.2.1 pc = .ok (.new ik, 3)) (d3 : decode Γ.2.1 (pc + 3) = .ok (.dup, 1)) (d4 : decode Γ.2.1 (pc + 4) = .ok (.ldc is, 2)) (d6 : decode Γ.2.1 (pc + 6) = .ok (.invokespecial ic, 3)) (d9 : decode Γ.2.1 (pc + 9) = .ok (.athrow, 1))
    (hst : (st.map px_cat).sum ≤ 8) (hQ : Q (.inr E) M) (hk : k + 1 ≤ mc) (hn : n + 6 ≤ ms) : px_W d mc ms Γ Q pc lv st M k n := by
  refine ⟨trivial, fun {p l e R s m args below meth c g P0 ad0} C {ad dd H locs ls} I => ?_⟩
  obtain ⟨hx, hb, hml, hrt, hlk, ho, hnm, hts, htb, hfl, hSt, hR⟩ := id C
  obtain ⟨w1, w2, w3, w4⟩ := hw
  rw [hown] at ho
  obtain ⟨sa, hsa⟩ := hSt.2.2.2.2.2.1 _ htx
  have hcat : ((st.map (px_v ad)).map fun v => v.category).sum = (st.map px_cat).sum := by
    rw [List.map_map]
    exact congrArg List.sum (List.map_congr_left fun v _ => px_cat_v ad v)
  refine vx_throwS (names := ["java/lang/RuntimeException", "java/lang/Exception"]) hx hb (px_notrace hfl) ho w1 (by decide) (hts _ w2) (hts _ w3) hsa (fun w h => ?_) (fun w h => ?_) hSt.2.1 hSt.2.2.1 I.2.2.2.2.1 (I.siz.trans hml.symm) d0 d3 d4 d6 d9 ?_ (by show 2 + 3 < R.frames; omega) (by rw [hcat]; show _ + (13 * 3 + 43) ≤ R.locals; omega) (by omega) (by omega) hlk (fun t hal hz hq => ?_) I.2.2.2.2.1.2.2 hk hn
  · rcases (w4 w h).1 with h9 | ⟨h9, h8⟩
    · exact hts w h9
    · refine va_Nw.use ?_ (hSt.2.2.2.2.2.2.1 w h9 h8)
      cases w <;> first | rfl | (simp [px_isN] at h8)
  · rcases List.mem_cons.mp h with rfl | h
    · rfl
    · rcases List.mem_cons.mp h with rfl | h
      · rfl
      · exact (w4 w h).2
  · rw [htb, hh]
    exact fun x hx => absurd hx List.not_mem_nil
  · have hF := I.2.2.2.2.1
    exact ⟨M, ad, dd, hQ, I.1.heap hq, I.2.2.2.1, Nat.le_trans hF.1 hz, fun q h1 h2 => (hq q (Nat.lt_of_lt_of_le h1 hF.1)).trans (hF.2.1 q h1 h2)⟩
/-- thrown, and no handler here -/
theorem px_xout {E : String} (hh : Γ.2.2.2.2 = []) (hQ : Q (.inr E) M) (hk : k ≤ mc) (hn : n ≤ ms) : px_X d mc ms Γ Q pc lv E M k n := by
  refine ⟨trivial, fun {p l e R s m args below meth c g P0 ad0} C {ad dd H locs ls q ce rest} I h1 h2 h3 => ?_⟩
  refine vx_out (by rw [C.2.2.2.2.2.2.2.2.1, hh]; exact fun x hx => absurd hx List.not_mem_nil) C.2.2.2.2.1 h1 h2 h3 (fun t ht hal => ?_) I.2.2.2.2.1.2.2 hk hn
  exact ⟨M, ad, dd, hQ, by rw [ht]; exact I.1, I.2.2.2.1, I.F ht⟩
/-- thrown, and caught by row x of the table; the rows ahead name other classes -/
theorem px_xcatch {E : String} (pre : List (Nat × Nat × Nat × Nat)) (x : Nat × Nat × Nat × Nat) (suf : List (Nat × Nat × Nat × Nat)) (hsplit : Γ.2.2.2.2 = pre ++ x :: suf)
    (hpass : ∀ z ∈ pre, z.2.2.2 ≠ 0 ∧ ∃ nm : String, Cond.classLink Γ.1.cls z.2.2.2 nm ∈ px_T ∧ (E, nm) ∈ px_ncs) (hc : x.1 ≤ pc ∧ pc < x.2.1) (h0 : x.2.2.2 ≠ 0) (hlink : Cond.classLink Γ.1.cls x.2.2.2 E ∈ px_T) (hcast : Cond.castable E E ∈ lw_tbl)
    (kk : ∀ q : Nat, px_W d mc ms Γ Q x.2.2.1 lv (.inl (.ref q) :: []) M k n) : px_X d mc ms Γ Q pc lv E M k n := by
  refine ⟨trivial, fun {p l e R s m args below meth c g P0 ad0} C {ad dd H locs ls q ce rest} I h1 h2 h3 => ?_⟩
  obtain ⟨hx, hb, hml, hrt, hlk, ho, hnm, hts, htb, hfl, hSt, hR⟩ := id C
  refine vx_catch (name := E) ho (tableOf pre) ⟨x.1, x.2.1, x.2.2.1, x.2.2.2⟩ (tableOf suf) ?_ (fun z hz => ?_) ?_ h0 (hts _ hlink) (va_Nw.use rfl (hSt.2.2.2.2.2.2.1 _ hcast rfl)) h1 h2 h3 ((kk q).2 C (I.psh trivial))
  · rw [htb, hsplit]; simp [tableOf]
  · obtain ⟨y, hy, rfl⟩ := List.mem_map.mp hz
    obtain ⟨a1, nm, a2, a3⟩ := hpass y hy
    exact Or.inr ⟨a1, nm, hts _ a2, hSt.2.2.2.2.2.2.2.2.1.2.2.2 _ a3⟩
  · simp [covers, hc.1, hc.2]
/-! calls -/
theorem px_blind {g : px_G} {ad dd : px_R → Nat} {M : px_M} {av : List Value} : FrameBlind (va_Pc av (fun U => px_St g U ∧ px_Vw g ad dd M U.heap)) := fun a U g' mk h => ⟨h.1, h.2.1.same rfl rfl, h.2.2⟩
theorem px_pre {g : px_G} {P0 : px_R → Prop} {ad0 : px_R → Nat} {s : State} {nL : Nat} {ad dd : px_R → Nat} {H : Heap} {locs : List Loc} {ls : Array Slot} (hSt : px_St g s) (I : px_I g P0 ad0 s nL lv st M ad dd H locs ls) {av : List Value} (U : State) (hU : U.heap = H) (hW : s.WarmedH U.vm) : va_Pc av (fun U => px_St g U ∧ px_Vw g ad dd M U.heap) av.toArray U :=
  ⟨rfl, hSt.move hW (by rw [hU]; exact I.2.2.2.2.1.1) (fun q h1 h2 => by rw [hU]; exact I.2.2.2.2.1.2.1 q h1 h2), by rw [hU]; exact I.1⟩
/-- behind a call: it went on, or it threw -/
theorem px_back {Q' : px_Q} {mc' ms' : Nat} {a : Array Value} {st0 : List Value} {p : Program} {l : Launch} {e : Env} {R : Room} {s : State} {m : MethodId} {args : Array Value} {below : List Frame} {meth : Method} {c : Code} {g : px_G} {P0 : px_R → Prop} {ad0 : px_R → Nat} (C : px_C d mc ms Γ g p l R s m args meth c)
    {ad dd : px_R → Nat} {H : Heap} {locs : List Loc} {ls : Array Slot} (I : px_I g P0 ad0 s Γ.2.2.1 lv st M ad dd H locs ls)
    (hr : vx_Run p l e R s m args below meth c H locs k n mc' ms' (F0 m pc ls st0) (st.map (px_v ad)) (px_Qc g (fun r => M r ≠ none) ad Q' a) (px_XC g (fun r => M r ≠ none) ad Q') (px_AA g))
    (kk : ∀ v M', Q' (.inl v) M' → px_W d mc ms Γ Q (pc + 3) lv (v.toList ++ st) M' (k + mc') (n + ms')) (kx : ∀ E M', Q' (.inr E) M' → px_X d mc ms Γ Q pc lv E M' (k + mc') (n + ms')) :
    W p l e R s m args below meth c H locs k n (vx_MQ below (px_Qc g P0 ad0 Q) (px_XC g P0 ad0 Q) args s mc ms (px_AA g)) (F0 m pc ls st0) := by
  have keep : ∀ {M' : px_M} {ad' dd' : px_R → Nat} {t T' : State} {L : List Loc} {st₀ : State} {stk : List px_V}, st₀.heap = H → T'.heap = t.heap → (∀ q ∈ L, px_AA g q.base) → px_Vw g ad' dd' M' t.heap → (∀ r, M r ≠ none → M' r ≠ none ∧ ad' r = ad r) → va_F (px_AA g) st₀ t →
      (∀ v ∈ stk, px_wf M' v) → px_I g P0 ad0 s Γ.2.2.1 lv stk M' ad' dd' T'.heap (locs ++ L) ls := by
    intro M' ad' dd' t T' L st₀ stk h0 e1 hL hV hext hF hs
    obtain ⟨k1, k2, k3⟩ := vx_keep (A1 := px_AA g) (A0 := px_AA g) h0 e1 I.2.2.2.2.1 (fun q _ h => h) (fun q h => h) hL hF
    refine ⟨by rw [e1]; exact hV, fun q hq => (I.2.1 q hq).mono fun r h => (hext r h).1, hs, fun r hr => ⟨(hext r (I.2.2.2.1 r hr).1).1, ((hext r (I.2.2.2.1 r hr).1).2).trans (I.2.2.2.1 r hr).2⟩, k3, ?_⟩
    have e : px_l ad' lv = px_l ad lv := List.map_congr_left fun q hq => by rw [px_v_congr (fun r h => (hext r h).2) (I.2.1 q hq)]
    rw [e]; exact I.has
  intro T hT X
  rcases hr T hT X with ⟨v, st₀, t, T', L, h0, X', hL, e1, e2, ⟨v', M', ad', dd', hv, hQ, hwf, hV, hext, hF⟩, st1⟩ | ⟨q, st₀, t, T', L, E, ce, h0, X', hL, e1, e2, ⟨M', ad', dd', hQ, hV, hext, hF⟩, hce, hcv, hcl, st1⟩
  · cases hv
    have I' := keep (stk := v'.toList ++ st) h0 e1 hL hV hext hF (fun w hw => by
      rcases List.mem_append.mp hw with h | h
      · exact hwf w (Option.mem_toList.mp h)
      · exact (I.2.2.1 w h).mono fun r h => (hext r h).1)
    obtain ⟨t2, a1, b1⟩ := (kk v' M' hQ).2 C I' T' rfl X'
    have e9 : (v'.toList ++ st).map (px_v ad') = (v'.map (px_v ad')).toList ++ st.map (px_v ad) := by
      rw [List.map_append]
      congr 1
      · cases v' <;> rfl
      · exact List.map_congr_left fun w hw => px_v_congr (fun r h => (hext r h).2) (I.2.2.1 w hw)
    rw [e9] at a1
    exact ⟨t2, st1 t2 a1, b1⟩
  · have I' := keep (stk := []) h0 e1 hL hV hext hF (fun w hw => absurd hw List.not_mem_nil)
    obtain ⟨t2, a1, b1⟩ := (kx E M' hQ).2 C I' (q := q) (ce := ce) (rest := st.map (px_v ad)) (by rw [e1]; exact hce) hcv hcl T' rfl X'
    exact ⟨t2, st1.trans a1, b1⟩
/-- what a call needs of the tables: whose code, how many arguments -/
def px_lk0 (nA : Nat) (Γ' : px_Y) : Prop := Cond.initialized Γ'.1.cls ∈ px_T ∧ px_cw Γ' ∈ px_T ∧ (Γ'.1.cls ≠ "java/lang/invoke/MethodHandle" ∧ Γ'.1.cls ≠ "java/lang/invoke/VarHandle") ∧ (parseMethodDescriptor Γ'.1.desc).map (fun d => d.parameters.length) = some nA ∧ Γ'.2.2.1 ≤ 40
def px_lkV (own : String) (idx nA : Nat) (Γ' : px_Y) : Prop := px_lk0 nA Γ' ∧ Γ'.2.2.2.2 = [] ∧ Cond.methodLink own idx Γ'.1 ∈ px_T ∧ Cond.instanceMethod Γ'.1 ∈ px_T ∧ Cond.selects Γ'.1.cls Γ'.1 Γ'.1 ∈ px_T
def px_lkS (own : String) (idx nA : Nat) (Γ' : px_Y) : Prop := px_lk0 nA Γ' ∧ Γ'.2.2.2.2 = [] ∧ Cond.methodLink own idx Γ'.1 ∈ px_T ∧ Cond.static Γ'.1 ∈ px_T
def px_lkH (own : String) (idx nA : Nat) (Γ' : px_Y) : Prop := px_lk0 nA Γ' ∧ Γ'.2.2.2.2 ≠ [] ∧ Cond.methodLink own idx Γ'.1 ∈ px_T ∧ Cond.static Γ'.1 ∈ px_T
def px_lkI (own : String) (idx nA : Nat) (Γ' : px_Y) : Prop := px_lk0 nA Γ' ∧ Γ'.2.2.2.2 = [] ∧ Γ'.1.name = "<init>" ∧ Cond.instanceMethod Γ'.1 ∈ px_T ∧ (Cond.methodLink own idx Γ'.1 ∈ px_T ∨ ∃ host, Cond.methodLinkNest own idx Γ'.1 host ∈ lw_tbl)
theorem px_goodT : ∀ w ∈ px_T, (w.onTables && w.keeps) = true ∨ ∃ ty, w = .arrayClass ty := fun w h => good_of_word (List.mem_filter.mp h).2
theorem px_hws {s : State} {args : Array Value} {Γ' : px_Y} (hts : ∀ w ∈ px_T, w.before args s = true) (hc : px_cw Γ' ∈ px_T) : ∀ w ∈ px_ws Γ', ∀ (a' : Array Value) (U : State), s.WarmedH U.vm → w.before a' U = true := by
  intro w hw a' U hW
  have h9 : w ∈ px_T := by
    rcases List.mem_cons.mp hw with h | h
    · rw [h]; exact hc
    · exact h
  exact word_at hW (px_goodT w h9) (hts w h9)
theorem px_cw0 {Γ' : px_Y} (h : Γ'.2.2.2.2 = []) : px_cw Γ' = Cond.code Γ'.1 Γ'.2.1 Γ'.2.2.1 Γ'.2.2.2.1 := by unfold px_cw; rw [h]
theorem px_cwH {Γ' : px_Y} (h : Γ'.2.2.2.2 ≠ []) : px_cw Γ' = Cond.codeWith Γ'.1 Γ'.2.1 Γ'.2.2.1 Γ'.2.2.2.1 Γ'.2.2.2.2 := by
  unfold px_cw
  cases e : Γ'.2.2.2.2 with
  | nil => exact absurd e h
  | cons a l => rfl
theorem px_CallB {g : px_G} {p : Program} {l : Launch} {R : Room} {s : State} {m : MethodId} {args : Array Value} {meth : Method} {c : Code} (C : px_C d mc ms Γ g p l R s m args meth c) {Γ' : px_Y} {d' mc' ms' nA idx : Nat} (h : px_lk0 nA Γ') (hh : Γ'.2.2.2.2 = []) (hl : Cond.methodLink Γ.1.cls idx Γ'.1 ∈ px_T) (hd : d' + 1 ≤ d) :
    CallB R s args Γ.1.cls idx Γ'.1 Γ'.2.1 Γ'.2.2.1 Γ'.2.2.2.1 (px_ws Γ') (px_rm d' mc' ms') mc' ms' nA := by
  obtain ⟨hx, hb, hml, hrt, hlk, ho, hnm, hts, htb, hfl, hSt, hR⟩ := id C
  obtain ⟨h1, h2, h3, h4, h5⟩ := h
  refine ⟨rfl, rfl, by show d' + 8 + 1 ≤ R.frames; omega, by show 8 + (Γ'.2.2.1 + 11) + (60 * d' + 200) ≤ R.locals; omega, px_hws hts h2, ?_, ?_, hts _ h1, h3, fun sig hs => ?_, hts _ hl⟩
  · rw [← px_cw0 hh]; exact List.mem_cons_self
  · rw [← px_cw0 hh]; exact hts _ h2
  · rw [hs] at h4; exact (Option.some.inj h4).symm
theorem px_cats (ad : px_R → Nat) (st : List px_V) : ((st.map (px_v ad)).map fun v => v.category).sum = (st.map px_cat).sum := by
  rw [List.map_map]
  exact congrArg List.sum (List.map_congr_left fun v _ => px_cat_v ad v)
/-- the receiver's class, by its cell -/
def px_rcv (M : px_M) (r : px_R) (C : String) : Prop := (∃ ci fs q, M r = some (.inl (ci, fs)) ∧ px_cl[ci]? = some q ∧ q.1 = C) ∨ (∃ xs, M r = some (.inr (.inr xs)) ∧ C = RJx4a65c)
theorem px_rcv.use {g : px_G} {s : State} {ad dd : px_R → Nat} {H : Heap} {r : px_R} {Cn : String} (hSt : px_St g s) (hV : px_Vw g ad dd M H) (h : px_rcv M r Cn) : ∃ cell : Cell, H[ad r]? = some cell ∧ cell.vm.isStatics = false ∧ s.vm.findClass Cn = some cell.cls := by
  rcases h with ⟨ci, fs, q, hr, hc, rfl⟩ | ⟨xs, hr, rfl⟩
  · exact va_recv (q0 := 0) (fs := fs.map (px_v ad)) hSt.1 (px_one (px_at.obj (hV.1 r _ hr))) hc rfl
  · obtain ⟨mo, h1, -⟩ := hV.1 r _ hr
    exact va_recv (ci := 6) (q := (RJx4a65c, TJx4a65c, 3)) (q0 := 0) hSt.1 (px_one h1) rfl rfl
theorem px_callV {Γ' : px_Y} {d' mc' ms' idx nA : Nat} {As stk : List px_V} {r : px_R} {Q' : px_Q} (hM : px_Met d' mc' ms' Γ' (.inr r :: As) M Q') (hd : decode Γ.2.1 pc = .ok (.invokevirtual idx, 3)) (hl : px_lkV Γ.1.cls idx nA Γ') (hr : px_rcv M r Γ'.1.cls) (hs : stk = As.reverse ++ .inr r :: st) (hA : As.length = nA) (hdd : d' + 1 ≤ d) (hk : k + mc' ≤ mc) (hn : n + ms' ≤ ms) (hst : (st.map px_cat).sum ≤ 8)
    (kk : ∀ v M', Q' (.inl v) M' → px_W d mc ms Γ Q (pc + 3) lv (v.toList ++ st) M' (k + mc') (n + ms')) (kx : ∀ E M', Q' (.inr E) M' → px_X d mc ms Γ Q pc lv E M' (k + mc') (n + ms')) : px_W d mc ms Γ Q pc lv stk M k n := by
  subst hs
  refine ⟨trivial, fun {p l e R s m args below meth c g P0 ad0} C {ad dd H locs ls} I => ?_⟩
  obtain ⟨hx, hb, hml, hrt, hlk, ho, hnm, hts, htb, hfl, hSt, hR⟩ := id C
  obtain ⟨l0, hh, l1, l2, l3⟩ := hl
  have hst' : ∀ v ∈ (As.reverse ++ .inr r :: st), px_wf M v := I.2.2.1
  have hwA : ∀ v ∈ (.inr r :: As), px_wf M v := fun v hv => hst' v (by
    rcases List.mem_cons.mp hv with h | h
    · rw [h]; simp
    · simp [h])
  have I2 : px_I g P0 ad0 s Γ.2.2.1 lv st M ad dd H locs ls := ⟨I.1, I.2.1, fun v hv => hst' v (by simp [hv]), I.2.2.2⟩
  have hM' := hM l hfl hwA g ad dd
  refine px_back C I2 (a := (.ref (ad r) :: As.map (px_v ad)).toArray) (vx_runV (nL := Γ.2.2.1) (Ts := px_T) (C := Γ'.1.cls) (b := ad r) (As := As.map (px_v ad)) ⟨hx, hb, hml, ho, hts⟩ hM' ⟨px_CallB C l0 hh l1 hdd, hts _ l2, hts _ l3⟩ ⟨px_blind, hr.use hSt I.1, fun U hU hW => px_pre hSt I2 U hU hW⟩ rfl (by rw [List.length_map]; exact hA) I.siz ?_ ?_ hd ⟨by omega, by omega⟩) kk kx
  · show (As.reverse ++ .inr r :: st).map (px_v ad) = _
    rw [List.map_append, List.map_reverse]; rfl
  · show 2 * 0 + _ ≤ 8
    rw [px_cats]; omega
theorem px_callS {Γ' : px_Y} {d' mc' ms' idx nA : Nat} {As stk : List px_V} {Q' : px_Q} (hM : px_Met d' mc' ms' Γ' As M Q') (hd : decode Γ.2.1 pc = .ok (.invokestatic idx, 3)) (hl : px_lkS Γ.1.cls idx nA Γ') (hs : stk = As.reverse ++ st) (hA : As.length = nA) (hdd : d' + 1 ≤ d) (hk : k + mc' ≤ mc) (hn : n + ms' ≤ ms) (hst : (st.map px_cat).sum ≤ 8)
    (kk : ∀ v M', Q' (.inl v) M' → px_W d mc ms Γ Q (pc + 3) lv (v.toList ++ st) M' (k + mc') (n + ms')) (kx : ∀ E M', Q' (.inr E) M' → px_X d mc ms Γ Q pc lv E M' (k + mc') (n + ms')) : px_W d mc ms Γ Q pc lv stk M k n := by
  subst hs
  refine ⟨trivial, fun {p l e R s m args below meth c g P0 ad0} C {ad dd H locs ls} I => ?_⟩
  obtain ⟨hx, hb, hml, hrt, hlk, ho, hnm, hts, htb, hfl, hSt, hR⟩ := id C
  obtain ⟨l0, hh, l1, l2⟩ := hl
  have hst' : ∀ v ∈ (As.reverse ++ st), px_wf M v := I.2.2.1
  have I2 : px_I g P0 ad0 s Γ.2.2.1 lv st M ad dd H locs ls := ⟨I.1, I.2.1, fun v hv => hst' v (by simp [hv]), I.2.2.2⟩
  have hM' := hM l hfl (fun v hv => hst' v (by simp [hv])) g ad dd
  refine px_back C I2 (a := (As.map (px_v ad)).toArray) (vx_runS (nL := Γ.2.2.1) (Ts := px_T) (As := As.map (px_v ad)) ⟨hx, hb, hml, ho, hts⟩ hM' ⟨px_CallB C l0 hh l1 hdd, hts _ l2⟩ ⟨px_blind, fun U hU hW => px_pre hSt I2 U hU hW⟩ rfl (by rw [List.length_map]; exact hA) I.siz ?_ ?_ hd ⟨by omega, by omega⟩) kk kx
  · show (As.reverse ++ st).map (px_v ad) = _
    rw [List.map_append, List.map_reverse]
  · show 2 * 0 + _ ≤ 8
    rw [px_cats]; omega
/-- a static method with a table of handlers -/
theorem px_callH {Γ' : px_Y} {d' mc' ms' idx nA : Nat} {As stk : List px_V} {Q' : px_Q} (hM : px_Met d' mc' ms' Γ' As M Q') (hd : decode Γ.2.1 pc = .ok (.invokestatic idx, 3)) (hl : px_lkH Γ.1.cls idx nA Γ') (hs : stk = As.reverse ++ st) (hA : As.length = nA) (hdd : d' + 1 ≤ d) (hk : k + mc' ≤ mc) (hn : n + ms' ≤ ms) (hst : (st.map px_cat).sum ≤ 8)
    (kk : ∀ v M', Q' (.inl v) M' → px_W d mc ms Γ Q (pc + 3) lv (v.toList ++ st) M' (k + mc') (n + ms')) (kx : ∀ E M', Q' (.inr E) M' → px_X d mc ms Γ Q pc lv E M' (k + mc') (n + ms')) : px_W d mc ms Γ Q pc lv stk M k n := by
  subst hs
  refine ⟨trivial, fun {p l e R s m args below meth c g P0 ad0} C {ad dd H locs ls} I => ?_⟩
  obtain ⟨hx, hb, hml, hrt, hlk, ho, hnm, hts, htb, hfl, hSt, hR⟩ := id C
  obtain ⟨⟨h1, h2, h3, h4, h5⟩, hh, l1, l2⟩ := hl
  have hst' : ∀ v ∈ (As.reverse ++ st), px_wf M v := I.2.2.1
  have I2 : px_I g P0 ad0 s Γ.2.2.1 lv st M ad dd H locs ls := ⟨I.1, I.2.1, fun v hv => hst' v (by simp [hv]), I.2.2.2⟩
  have hM' := hM l hfl (fun v hv => hst' v (by simp [hv])) g ad dd
  refine px_back C I2 (a := (As.map (px_v ad)).toArray) (vx_runSX (nL := Γ.2.2.1) (Ts := px_T) (As := As.map (px_v ad)) ⟨hx, hb, hml, ho, hts⟩ hM' (bytes := Γ'.2.1) (maxL := Γ'.2.2.1) (ret := Γ'.2.2.2.1) (hh := Γ'.2.2.2.2) ⟨⟨rfl, rfl, by show d' + 8 + 1 ≤ R.frames; omega, by show 8 + (Γ'.2.2.1 + 11) + (60 * d' + 200) ≤ R.locals; omega, px_hws hts h2, by rw [← px_cwH hh]; exact List.mem_cons_self⟩, by rw [← px_cwH hh]; exact hts _ h2, hts _ h1, h3, fun sig hs => ?_, hts _ l1, hts _ l2⟩ ⟨px_blind, fun U hU hW => px_pre hSt I2 U hU hW⟩ rfl (by rw [List.length_map]) I.siz ?_ ?_ hd ⟨by omega, by omega⟩) kk kx
  · rw [hs] at h4; exact hA.trans (Option.some.inj h4).symm
  · show (As.reverse ++ st).map (px_v ad) = _
    rw [List.map_append, List.map_reverse]
  · show 2 * 0 + _ ≤ 8
    rw [px_cats]; omega
/-- a constructor, of the class's own, of a nest mate, of a superclass; it doesn't throw -/
theorem px_callI {Γ' : px_Y} {d' mc' ms' idx nA : Nat} {As stk : List px_V} {r : px_R} {M1 : px_M} (hM : px_Met d' mc' ms' Γ' (.inr r :: As) M (px_rt none M1)) (hd : decode Γ.2.1 pc = .ok (.invokespecial idx, 3)) (hl : px_lkI Γ.1.cls idx nA Γ') (hret : Γ'.2.2.2.1 = none) (hs : stk = As.reverse ++ .inr r :: st) (hA : As.length = nA) (hdd : d' + 1 ≤ d) (hk : k + mc' ≤ mc) (hn : n + ms' ≤ ms) (hst : (st.map px_cat).sum ≤ 8)
    (kk : px_W d mc ms Γ Q (pc + 3) lv st M1 (k + mc') (n + ms')) : px_W d mc ms Γ Q pc lv stk M k n := by
  subst hs
  refine ⟨trivial, fun {p l e R s m args below meth c g P0 ad0} C {ad dd H locs ls} I => ?_⟩
  obtain ⟨hx, hb, hml, hrt, hlk, ho, hnm, hts, htb, hfl, hSt, hR⟩ := id C
  obtain ⟨l0, hh, hin, l1, l2⟩ := hl
  have hst' : ∀ v ∈ (As.reverse ++ .inr r :: st), px_wf M v := I.2.2.1
  have hwA : ∀ v ∈ (.inr r :: As), px_wf M v := fun v hv => hst' v (by
    rcases List.mem_cons.mp hv with h | h
    · rw [h]; simp
    · simp [h])
  have I2 : px_I g P0 ad0 s Γ.2.2.1 lv st M ad dd H locs ls := ⟨I.1, I.2.1, fun v hv => hst' v (by simp [hv]), I.2.2.2⟩
  have hM' := px_met_of (hM l hfl hwA g ad dd) (fun E s t h => by obtain ⟨_, _, _, h1, -⟩ := h; exact absurd h1.1 (fun z => by cases z))
  have hstk : (As.reverse ++ .inr r :: st).map (px_v ad) = (As.map (px_v ad)).reverse ++ .ref (ad r) :: st.map (px_v ad) := by
    rw [List.map_append, List.map_reverse]; rfl
  have hcat : 2 * 0 + ((st.map (px_v ad)).map fun v => v.category).sum ≤ 8 := by rw [px_cats]; omega
  have hpre : PreS s H (va_Pc (((.inr r : px_V) :: As).map (px_v ad)) (fun U => px_St g U ∧ px_Vw g ad dd M U.heap)) (.ref (ad r) :: As.map (px_v ad)) := ⟨px_blind, fun U hU hW => px_pre hSt I2 U hU hW⟩
  have go : va_Run p l e R s m args below meth c H locs k n mc' ms' (F0 m pc ls ((As.reverse ++ .inr r :: st).map (px_v ad))) (st.map (px_v ad)) (px_Qc g (fun r => M r ≠ none) ad (px_rt none M1) (.ref (ad r) :: As.map (px_v ad)).toArray) (px_AA g) := by
    obtain ⟨h1, h2, h3, h4, h5⟩ := id l0
    rcases l2 with l2 | ⟨host, l2⟩
    · have cb := px_CallB (d' := d') (mc' := mc') (ms' := ms') C l0 hh l2 hdd
      rw [hret] at cb
      exact va_runI (nL := Γ.2.2.1) (Ts := px_T) (As := As.map (px_v ad)) (b := ad r) ⟨hx, hb, hml, ho, hts⟩ hM' ⟨cb, hin, hts _ l1⟩ hpre rfl (by rw [List.length_map]; exact hA) I.siz hstk hcat hd ⟨by omega, by omega⟩
    · refine va_runIN (nL := Γ.2.2.1) (Ts := px_T) (As := As.map (px_v ad)) (b := ad r) (bytes := Γ'.2.1) (maxL := Γ'.2.2.1) (host := host) ⟨hx, hb, hml, ho, hts⟩ hM' ⟨⟨⟨rfl, rfl, by show d' + 8 + 1 ≤ R.frames; omega, by show 8 + (Γ'.2.2.1 + 11) + (60 * d' + 200) ≤ R.locals; omega, px_hws hts h2, ?_⟩, ?_, hts _ h1, h3, fun sig hs => ?_, va_Nw.use rfl (hSt.2.2.2.2.2.2.1 _ l2 rfl)⟩, hin, hts _ l1⟩ hpre rfl (by rw [List.length_map]) I.siz hstk hcat hd ⟨by omega, by omega⟩
      · rw [← hret, ← px_cw0 hh]; exact List.mem_cons_self
      · rw [← hret, ← px_cw0 hh]; exact hts _ h2
      · rw [hs] at h4; exact hA.trans (Option.some.inj h4).symm
  exact px_back (a := (.ref (ad r) :: As.map (px_v ad)).toArray) C I2 (fun T hT X => Or.inl (go T hT X)) (fun v M' h => by
    obtain ⟨h1, h2⟩ := h
    cases h1; subst h2; exact kk) (fun E M' h => absurd h.1 (fun z => by cases z))
/-- Object's constructor -/
theorem px_objInit {idx : Nat} {r : px_R} (hd : decode Γ.2.1 pc = .ok (.invokespecial idx, 3)) (hl : Cond.methodLink Γ.1.cls idx objectInit ∈ px_T ∧ Cond.instanceMethod objectInit ∈ px_T ∧ Cond.code objectInit ⟨#[0xb1]⟩ 1 none ∈ px_T) (hst : (st.map px_cat).sum ≤ 8)
    (kk : px_W d mc ms Γ Q (pc + 3) lv st M k n) : px_W d mc ms Γ Q pc lv (.inr r :: st) M k n := by
  refine ⟨trivial, fun {p l e R s m args below meth c g P0 ad0} C {ad dd H locs ls} I => ?_⟩
  obtain ⟨hx, hb, hml, hrt, hlk, ho, hnm, hts, htb, hfl, hSt, hR⟩ := id C
  exact W.objInit hx hb ho (hts _ hl.1) (hts _ hl.2.1) (hts _ hl.2.2) rfl (I.siz.trans hml.symm) rfl hd (by omega) (by show 2 * 0 + ((st.map (px_v ad)).map fun v => v.category).sum + 12 ≤ R.locals; rw [px_cats]; omega) (kk.2 C I.pop)
/-! a body -/
def px_args : Nat → List px_V → List (Nat × px_V)
  | _, [] => []
  | i, v :: vs => (i, v) :: px_args (if px_cat v = 2 then i + 2 else i + 1) vs
theorem px_l_args (ad : px_R → Nat) : ∀ (vs : List px_V) (i : Nat), lv_args i (vs.map (px_v ad)) = px_l ad (px_args i vs)
  | [], _ => rfl
  | v :: vs, i => by
    show (i, px_v ad v) :: lv_args (if (px_v ad v).category = 2 then i + 2 else i + 1) (vs.map (px_v ad)) = (i, px_v ad v) :: px_l ad (px_args (if px_cat v = 2 then i + 2 else i + 1) vs)
    rw [px_cat_v, px_l_args ad vs]
theorem px_args_mem : ∀ (vs : List px_V) (i : Nat) (q : Nat × px_V), q ∈ px_args i vs → q.2 ∈ vs
  | [], _, _, h => absurd h List.not_mem_nil
  | v :: vs, i, q, h => by
    rcases List.mem_cons.mp h with h | h
    · rw [h]; exact List.mem_cons_self
    · exact List.mem_cons_of_mem _ (px_args_mem vs _ q h)
theorem px_sl_len (ad : px_R → Nat) (vs : List px_V) : (lg_sl (vs.map (px_v ad))).length = (vs.map fun v => if px_cat v = 2 then 2 else 1).sum := by
  induction vs with
  | nil => rfl
  | cons v vs ih =>
    show (lg_sl (px_v ad v :: vs.map (px_v ad))).length = _
    simp only [lg_sl, List.flatMap_cons, List.length_append, List.map_cons, List.sum_cons] at ih ⊢
    rw [ih, px_cat_v]
    by_cases h : px_cat v = 2 <;> simp [h]
theorem px_ofW {As : List px_V} (hy : plainName Γ.1.cls = true) (hc : px_cw Γ ∈ px_T) (hl : (As.map fun v => if px_cat v = 2 then 2 else 1).sum ≤ Γ.2.2.1) (h : px_W d mc ms Γ Q 0 (px_args 0 As) [] M 0 0) : px_Met d mc ms Γ As M Q := by
  intro l hfl hwf g ad dd
  have body : ∀ (p : Program) (e : Env) (s : State) (m : MethodId) (args : Array Value) (below : List Frame) (meth : Method) (c : Code) (s₁ : State), BodyLoose p l Γ.1 (headSpec (px_ws Γ) (px_rm d mc ms)) Γ.2.1 Γ.2.2.1 Γ.2.2.2.1 e s m args below meth c s₁ → c.maxLocals = Γ.2.2.1 → c.exceptionTable.toList = tableOf Γ.2.2.2.2 → va_Pc (As.map (px_v ad)) (fun U => px_St g U ∧ px_Vw g ad dd M U.heap) args s →
      W p l e (headSpec (px_ws Γ) (px_rm d mc ms)).room s m args below meth c s.heap [] 0 0 (vx_MQ below (px_Qc g (fun r => M r ≠ none) ad Q) (px_XC g (fun r => M r ≠ none) ad Q) args s mc ms (px_AA g)) (entryFrame m args Γ.2.2.1) := by
    intro p e s m args below meth c s₁ B hml ht hv
    obtain ⟨rfl, hSt, hV⟩ := hv
    have hts := atoms_spec (ws := px_ws Γ) B.pre
    have hl' : (lg_sl (As.map (px_v ad))).length ≤ Γ.2.2.1 := by rw [px_sl_len]; exact hl
    have hl0 := lv_entry (As.map (px_v ad)) hl'
    rw [lg_entry_eq]
    generalize (lg_sl (As.map (px_v ad)) ++ List.replicate (Γ.2.2.1 - (lg_sl (As.map (px_v ad))).length) Slot.unset).toArray = ls at hl0 ⊢
    rw [px_l_args] at hl0
    refine h.2 (P0 := fun r => M r ≠ none) (ad0 := ad) ⟨B.exec, B.bytes, hml, B.returns, B.notSynchronized, findClass_of_methodNamed B.named, (name_of_methodNamed B.named B.method).1, fun w hw => hts w (List.mem_cons_of_mem _ hw), ht, hfl, hSt, ?_⟩ ⟨hV, fun q hq => hwf _ (px_args_mem As 0 q hq), fun v hv => absurd hv List.not_mem_nil, fun r hr => ⟨hr, rfl⟩, va_S.rf, hl0⟩
    exact ⟨Nat.le_refl _, Nat.le_refl _, Nat.le_refl _, Nat.le_refl _⟩
  by_cases hh : Γ.2.2.2.2 = []
  · refine vx_ofW (cc := Γ.2.1) (maxL := Γ.2.2.1) (ret := Γ.2.2.2.1) hy (by rw [px_ws, px_cw0 hh]) fun p e s m args below meth c s₁ B hml ht hv => body p e s m args below meth c s₁ B hml ?_ hv
    rw [hh]
    cases e9 : c.exceptionTable.toList with
    | nil => rfl
    | cons a l => exact (ht a (by rw [e9]; exact List.mem_cons_self)).elim
  · refine vx_ofWH (cc := Γ.2.1) (maxL := Γ.2.2.1) (ret := Γ.2.2.2.1) (hh := Γ.2.2.2.2) hy (by rw [px_ws, px_cwH hh]) fun p e s m args below meth c s₁ B hml hv => body p e s m args below meth c s₁ B hml ?_ hv
    have h9 := atoms_spec (ws := px_ws Γ) B.pre _ List.mem_cons_self
    rw [px_cwH hh] at h9
    exact vx_table (x := Γ.1) B h9
/-- another end's words -/
theorem px_Met.mono {As : List px_V} {Q' : px_Q} (h : px_Met d mc ms Γ As M Q) (hQ : ∀ o M', Q o M' → Q' o M') : px_Met d mc ms Γ As M Q' := by
  intro l hfl hwf g ad dd p e ha hc hk s m args below hf happ hP hK
  obtain ⟨n, o, h1, h2, h3, h4⟩ := h l hfl hwf g ad dd p e ha hc hk s m args below hf happ hP hK
  refine ⟨n, o, h1, h2, h3, ?_⟩
  rcases h4 with ⟨⟨v, M', ad', dd', a1, a2, a3⟩, h4⟩ | ⟨q, e9, E, ce, L, ⟨M', ad', dd', a1, a2⟩, h5⟩
  · exact Or.inl ⟨⟨v, M', ad', dd', a1, hQ _ _ a2, a3⟩, h4⟩
  · exact Or.inr ⟨q, e9, E, ce, L, ⟨M', ad', dd', hQ _ _ a1, a2⟩, h5⟩
end PX4
