/-! ===== fields, arrays and new cells, over px_W ===== -/
theorem px_clin : ∀ (ci : Nat) (q : vw_C), px_cl[ci]? = some q → ∀ w ∈ u_ws q.1 q.2.1 q.2.2, w ∈ px_T
  | 0, q, h => by cases h; exact fun w hw => List.mem_filter.mpr (inX0 w hw)
  | 1, q, h => by cases h; exact fun w hw => List.mem_filter.mpr (inX1 w hw)
  | 2, q, h => by cases h; exact fun w hw => List.mem_filter.mpr (inX2 w hw)
  | 3, q, h => by cases h; exact fun w hw => List.mem_filter.mpr (inX3 w hw)
  | 4, q, h => by cases h; exact fun w hw => List.mem_filter.mpr (inX4 w hw)
  | 5, q, h => by cases h; exact fun w hw => List.mem_filter.mpr (inX5 w hw)
  | 6, q, h => by cases h; exact fun w hw => List.mem_filter.mpr (inJx4a65c w hw)
  | n + 7, q, h => by simp [px_cl] at h
theorem px_clnm : ∀ (ci : Nat) (q : vw_C), px_cl[ci]? = some q → ∀ a, a < q.2.2 → ∀ b, b < q.2.2 → a ≠ b → (q.2.1 a).2.1 ≠ (q.2.1 b).2.1
  | 0, q, h => by cases h; exact nmX0
  | 1, q, h => by cases h; exact nmX1
  | 2, q, h => by cases h; exact nmX2
  | 3, q, h => by cases h; exact nmX3
  | 4, q, h => by cases h; exact nmX4
  | 5, q, h => by cases h; exact nmX5
  | 6, q, h => by cases h; exact nmJx4a65c
  | n + 7, q, h => by simp [px_cl] at h
def px_fty : Nat → Nat → FieldType
  | 0 => tyX0
  | 1 => tyX1
  | 2 => tyX2
  | 3 => tyX3
  | 4 => tyX4
  | 5 => tyX5
  | _ => tyJx4a65c
theorem px_clty : ∀ (ci : Nat) (q : vw_C), px_cl[ci]? = some q → ∀ k, k < q.2.2 → parseFieldDescriptor (q.2.1 k).2.2.1 = some (px_fty ci k)
  | 0, q, h => by cases h; exact tyX0_ok
  | 1, q, h => by cases h; exact tyX1_ok
  | 2, q, h => by cases h; exact tyX2_ok
  | 3, q, h => by cases h; exact tyX3_ok
  | 4, q, h => by cases h; exact tyX4_ok
  | 5, q, h => by cases h; exact tyX5_ok
  | 6, q, h => by cases h; exact tyJx4a65c_ok
  | n + 7, q, h => by simp [px_cl] at h
theorem px_one {D : va_G} {cl : List vw_C} {q : Nat × va_E} {H : Heap} (h : va_at D cl q H) : va_P D cl [q] H := by
  intro k q' hk
  cases k with
  | zero => cases hk; exact h
  | succ k => simp at hk
/-- the field kf of class ci, by the pool's place idx of class own: a link of its own, or of a nest mate -/
def px_fl (own : String) (idx ci kf : Nat) : Prop := ∃ q : vw_C, px_cl[ci]? = some q ∧ kf < q.2.2 ∧ ∃ ref : String, (ref = (q.2.1 kf).1 ∨ Cond.sameField ref (q.2.1 kf).1 (q.2.1 kf).2.1 (q.2.1 kf).2.2.1 ∈ px_T) ∧
  (Cond.fieldLink own idx ref (q.2.1 kf).2.1 (q.2.1 kf).2.2.1 ∈ px_T ∨ ∃ host, Cond.fieldLinkNest own idx ref (q.2.1 kf).2.1 (q.2.1 kf).2.2.1 host ∈ lw_tbl)
def px_nf (ci kf : Nat) : Prop := ∀ q : vw_C, px_cl[ci]? = some q → (q.2.1 kf).2.2.2 = false
section PX2
variable {p : Program} {l : Launch} {e : Env} {R : Room} {s : State} {m : MethodId} {args : Array Value} {below : List Frame} {meth : Method} {c : Code} {H : Heap} {locs : List Loc} {cells slots : Nat} {Z : State → Prop} {cc : ByteArray} {pc : Nat} {ls : Array Slot} {rest : List Value} {D : va_G} {tys : List (ClassId × FieldType)} {a : Nat}
/-- putfield at one cell; all other cells stay -/
theorem px_put0 (hexec : p.tables.exec = Jvm.exec) (hb : c.code = cc) {own ref : String} {q : vw_C} {ci index k : Nat} {vs : List Value} {v : Value} (hts : ∀ w ∈ px_T, w.before args s = true) (hown : s.vm.findClass own = some m.cls) (hK : va_K D px_cl tys s)
    (he : va_at D px_cl (a, .inr (ci, vs)) H) (hc : px_cl[ci]? = some q) (hk : k < q.2.2)
    (hlink : (Cond.fieldLink own index ref (q.2.1 k).2.1 (q.2.1 k).2.2.1).before args s = true ∨ ∃ host, (Cond.fieldLinkNest own index ref (q.2.1 k).2.1 (q.2.1 k).2.2.1 host).before args s = true)
    (hsame : ∀ x, s.fieldFound? (q.2.1 k).1 (q.2.1 k).2.1 (q.2.1 k).2.2.1 = some x → s.fieldFound? ref (q.2.1 k).2.1 (q.2.1 k).2.2.1 = some x) (hfin : (q.2.1 k).2.2.2 = false) (hn : narrow (px_fty ci k) v = v) (hfit : fits (px_fty ci k) v = true) (hl : k < vs.length)
    (hdg : decode cc pc = .ok (.putfield index, 3)) (kk : ∀ (H1 : Heap) (i : Nat), va_at D px_cl (a, .inr (ci, vs.set k v)) H1 → H1.size = H.size → (∀ x : Nat, x ≠ a → H1[x]? = H[x]?) → W p l e R s m args below meth c H1 (locs ++ [⟨a, i⟩]) cells slots Z (F0 m (pc + 3) ls rest)) : W p l e R s m args below meth c H locs cells slots Z (F0 m pc ls (v :: .ref a :: rest)) := by
  obtain ⟨C, T, N⟩ := q
  have hin := px_clin ci _ hc
  have hap := va_apart (own := own) hts hin (px_fty ci) (px_clty ci _ hc) (px_clnm ci _ hc) hK hc
  obtain ⟨r, h1, cell, q1, q2, q3, q4⟩ := he
  have hr : r = (C, T, N) := Option.some.inj (h1.symm.trans hc)
  subst hr
  obtain ⟨hS, hfc, kC, hkC, hkind⟩ := hK.1 ci _ hc
  obtain ⟨cf, kf, fi, f, hi, hsl⟩ := hS k hk
  have hlay := hts _ (hin _ (u_in_lay hk))
  unfold u_lay at hlay
  rw [if_neg (by rw [hfin]; decide)] at hlay
  have hst := (u_facts hfc hkC (u_lays hts hin hk) hi).1
  have h6 := u_store hfc hkC hkind hlay hi (px_clty ci _ hc k hk) hn hfit
  have fin : ∀ H' : Heap, H'[a]? = some (cell.setSlot f.slot v) → H'.size = H.size → (∀ q, q ≠ a → H'[q]? = H[q]?) → W p l e R s m args below meth c H' (locs ++ [⟨a, f.slot⟩]) cells slots Z (F0 m (pc + 3) ls rest) := by
    intro H' e1 e2 e3
    rw [hsl] at e1
    exact kk H' _ ⟨_, hc, t_OB.to (V := updV (vp_V vs) k v) ⟨_, e1, q2, q3, t_set q4 hap hk v⟩ (fun j _ => vp_updV_set hl v j)⟩ e2 e3
  rcases hlink with hlink | ⟨host, hlink⟩
  · exact W.putK hexec hb (f := f) ⟨hown, hlink, ⟨_, _, _, hsame _ hi⟩, hst⟩ (by rw [q2]; exact h6) q1 q3 (by rw [hsl]; exact k2_hasslot (q4 k hk)) rfl rfl hdg fin
  · exact va_WputK hexec hb (f := f) hown hlink (hsame _ hi) hst (by rw [q2]; exact h6) q1 q3 (by rw [hsl]; exact k2_hasslot (q4 k hk)) rfl rfl hdg fin
/-- the same at a final field, in its class's constructor -/
theorem px_putF0 (hexec : p.tables.exec = Jvm.exec) (hb : c.code = cc) {own : String} {q : vw_C} {ci index k : Nat} {vs : List Value} {v : Value} (hts : ∀ w ∈ px_T, w.before args s = true) (hown : s.vm.findClass own = some m.cls) (hK : va_K D px_cl tys s)
    (he : va_at D px_cl (a, .inr (ci, vs)) H) (hc : px_cl[ci]? = some q) (hk : k < q.2.2) (hlink : (Cond.fieldLink own index (q.2.1 k).1 (q.2.1 k).2.1 (q.2.1 k).2.2.1).before args s = true)
    (hfin : (q.2.1 k).2.2.2 = true) (hin2 : meth.name = "<init>") (hdecl : (q.2.1 k).1 = own) (hn : narrow (px_fty ci k) v = v) (hfit : fits (px_fty ci k) v = true) (hl : k < vs.length)
    (hdg : decode cc pc = .ok (.putfield index, 3)) (kk : ∀ (H1 : Heap) (i : Nat), va_at D px_cl (a, .inr (ci, vs.set k v)) H1 → H1.size = H.size → (∀ x : Nat, x ≠ a → H1[x]? = H[x]?) → W p l e R s m args below meth c H1 (locs ++ [⟨a, i⟩]) cells slots Z (F0 m (pc + 3) ls rest)) : W p l e R s m args below meth c H locs cells slots Z (F0 m pc ls (v :: .ref a :: rest)) := by
  obtain ⟨C, T, N⟩ := q
  have hin := px_clin ci _ hc
  have hap := va_apart (own := own) hts hin (px_fty ci) (px_clty ci _ hc) (px_clnm ci _ hc) hK hc
  obtain ⟨r, h1, cell, q1, q2, q3, q4⟩ := he
  have hr : r = (C, T, N) := Option.some.inj (h1.symm.trans hc)
  subst hr
  obtain ⟨hS, hfc, kC, hkC, hkind⟩ := hK.1 ci _ hc
  obtain ⟨cf, kf, fi, f, hi, hsl⟩ := hS k hk
  have hlay := hts _ (hin _ (u_in_lay hk))
  unfold u_lay at hlay
  rw [if_pos hfin] at hlay
  have hst := (u_facts hfc hkC (u_lays hts hin hk) hi).1
  have hcf : m.cls = cf := by
    obtain ⟨_, _, c', _, _, _, -, -, hf', -, -, -, hown2, -⟩ := Cond.laysFinal_spec hlay
    have e1 : c' = cf := by have := hi.symm.trans hf'; simp at this; exact this.1.symm
    rw [hdecl] at hown2
    rw [← e1]; exact Option.some.inj (hown.symm.trans hown2)
  have h6 := u_fits hfc hkC hkind (Or.inr hlay) hi (px_clty ci _ hc k hk) hn hfit
  refine W.putFinK hexec hb hown hlink hi hst hcf hin2 (by rw [q2]; exact h6) q1 q3 (by rw [hsl]; exact k2_hasslot (q4 k hk)) rfl rfl hdg fun H' e1 e2 e3 => ?_
  rw [hsl] at e1 ⊢
  exact kk H' _ ⟨_, hc, t_OB.to (V := updV (vp_V vs) k v) ⟨_, e1, q2, q3, t_set q4 hap hk v⟩ (fun j _ => vp_updV_set hl v j)⟩ e2 e3
end PX2
section PX3
variable {d mc ms : Nat} {Γ : px_Y} {Q : px_Q} {pc : Nat} {lv : List (Nat × px_V)} {st : List px_V} {M : px_M} {k n : Nat}
theorem px_getf {index ci kf : Nat} {r : px_R} {fs : List px_V} {v : px_V} (hd : decode Γ.2.1 pc = .ok (.getfield index, 3)) (hf : px_fl Γ.1.cls index ci kf) (hr : M r = some (.inl (ci, fs))) (hv : fs[kf]? = some v)
    (kk : px_W d mc ms Γ Q (pc + 3) lv (v :: st) M k n) : px_W d mc ms Γ Q pc lv (.inr r :: st) M k n := by
  refine ⟨trivial, fun {p l e R s m args below meth c g P0 ad0} C {ad dd H locs ls} I => ?_⟩
  obtain ⟨⟨Cn, T, N⟩, hc, hk, ref, hsame, hlink⟩ := hf
  obtain ⟨hx, hb, hml, hrt, hlk, hown, hnm, hts, htb, hfl, hSt, hR⟩ := id C
  have hP := px_one (px_at.obj (I.1.1 r _ hr))
  have hv' : (fs.map (px_v ad))[kf]? = some (px_v ad v) := by rw [List.getElem?_map, hv]; rfl
  have hwf : px_wf M v := (I.1.2.1 r _ hr) v (List.mem_of_getElem? hv)
  have hsm : ∀ x, s.fieldFound? (T kf).1 (T kf).2.1 (T kf).2.2.1 = some x → s.fieldFound? ref (T kf).2.1 (T kf).2.2.1 = some x := by
    rcases hsame with h | h
    · intro x hx; rw [h]; exact hx
    · exact u_same (hts _ h)
  rcases hlink with hlink | ⟨host, hlink⟩
  · exact va_get hx hb hts (px_clin ci _ hc) hown hSt.1 hP 0 rfl hc kf hk (hts _ hlink) hsm hv' hd (kk.2 C (I.pop.psh hwf))
  · exact va_getN hx hb hts (px_clin ci _ hc) hown hSt.1 hP 0 rfl hc kf hk (va_Nw.use rfl (hSt.2.2.2.2.2.2.1 _ hlink rfl)) hsm hv' hd (kk.2 C (I.pop.psh hwf))
theorem px_putf {index ci kf : Nat} {r : px_R} {fs : List px_V} {v : px_V} (hd : decode Γ.2.1 pc = .ok (.putfield index, 3)) (hf : px_fl Γ.1.cls index ci kf) (hnf : px_nf ci kf) (hr : M r = some (.inl (ci, fs))) (hl : kf < fs.length)
    (hn : ∀ ad, narrow (px_fty ci kf) (px_v ad v) = px_v ad v ∧ fits (px_fty ci kf) (px_v ad v) = true)
    (kk : px_W d mc ms Γ Q (pc + 3) lv st (px_up M r (.inl (ci, fs.set kf v))) k n) : px_W d mc ms Γ Q pc lv (v :: .inr r :: st) M k n := by
  refine ⟨trivial, fun {p l e R s m args below meth c g P0 ad0} C {ad dd H locs ls} I => ?_⟩
  obtain ⟨q, hc, hk, ref, hsame, hlink⟩ := hf
  obtain ⟨hx, hb, hml, hrt, hlk, hown, hnm, hts, htb, hfl, hSt, hR⟩ := id C
  have hsm : ∀ x, s.fieldFound? (q.2.1 kf).1 (q.2.1 kf).2.1 (q.2.1 kf).2.2.1 = some x → s.fieldFound? ref (q.2.1 kf).2.1 (q.2.1 kf).2.2.1 = some x := by
    rcases hsame with h | h
    · intro x hx; rw [h]; exact hx
    · exact u_same (hts _ h)
  have hrn : M r ≠ none := by rw [hr]; exact fun z => by cases z
  refine px_put0 hx hb hts hown hSt.1 (px_at.obj (I.1.1 r _ hr)) hc hk ?_ hsm (hnf q hc) (hn ad).1 (hn ad).2 (by rw [List.length_map]; exact hl) hd fun H1 i e1 e2 e3 => ?_
  · rcases hlink with h | ⟨host, h⟩
    · exact Or.inl (hts _ h)
    · exact Or.inr ⟨host, va_Nw.use rfl (hSt.2.2.2.2.2.2.1 _ h rfl)⟩
  · refine kk.2 C ⟨I.1.set hr (fun xs z => by cases z) (fun xs z => by cases z) ?_ ?_ e3, fun q hq => (I.2.1 q hq).mono fun _ => px_up_nn, fun w hw => (I.pop.pop.2.2.1 w hw).mono fun _ => px_up_nn, fun x hx => ⟨px_up_nn (I.2.2.2.1 x hx).1, (I.2.2.2.1 x hx).2⟩, I.2.2.2.2.1.put e2 e3 (I.1.ge hrn), I.has⟩
    · show va_at (px_gD g) px_cl (ad r, .inr (ci, (fs.set kf v).map (px_v ad))) H1
      rw [List.map_set]; exact e1
    · intro w hw
      rcases List.mem_or_eq_of_mem_set hw with h | h
      · exact (I.1.2.1 r _ hr) w h
      · rw [h]; exact I.top
theorem px_putF {index ci kf : Nat} {r : px_R} {fs : List px_V} {v : px_V} (hd : decode Γ.2.1 pc = .ok (.putfield index, 3)) (hf : ∃ q : vw_C, px_cl[ci]? = some q ∧ kf < q.2.2 ∧ (q.2.1 kf).2.2.2 = true ∧ (q.2.1 kf).1 = Γ.1.cls ∧ Cond.fieldLink Γ.1.cls index (q.2.1 kf).1 (q.2.1 kf).2.1 (q.2.1 kf).2.2.1 ∈ px_T) (hni : Γ.1.name = "<init>") (hr : M r = some (.inl (ci, fs))) (hl : kf < fs.length)
    (hn : ∀ ad, narrow (px_fty ci kf) (px_v ad v) = px_v ad v ∧ fits (px_fty ci kf) (px_v ad v) = true)
    (kk : px_W d mc ms Γ Q (pc + 3) lv st (px_up M r (.inl (ci, fs.set kf v))) k n) : px_W d mc ms Γ Q pc lv (v :: .inr r :: st) M k n := by
  refine ⟨trivial, fun {p l e R s m args below meth c g P0 ad0} C {ad dd H locs ls} I => ?_⟩
  obtain ⟨q, hc, hk, hfin, hdecl, hlink⟩ := hf
  obtain ⟨hx, hb, hml, hrt, hlk, hown, hnm, hts, htb, hfl, hSt, hR⟩ := id C
  have hrn : M r ≠ none := by rw [hr]; exact fun z => by cases z
  refine px_putF0 hx hb hts hown hSt.1 (px_at.obj (I.1.1 r _ hr)) hc hk (hts _ hlink) hfin (hnm.trans hni) hdecl (hn ad).1 (hn ad).2 (by rw [List.length_map]; exact hl) hd fun H1 i e1 e2 e3 => ?_
  refine kk.2 C ⟨I.1.set hr (fun xs z => by cases z) (fun xs z => by cases z) ?_ ?_ e3, fun q hq => (I.2.1 q hq).mono fun _ => px_up_nn, fun w hw => (I.pop.pop.2.2.1 w hw).mono fun _ => px_up_nn, fun x hx => ⟨px_up_nn (I.2.2.2.1 x hx).1, (I.2.2.2.1 x hx).2⟩, I.2.2.2.2.1.put e2 e3 (I.1.ge hrn), I.has⟩
  · show va_at (px_gD g) px_cl (ad r, .inr (ci, (fs.set kf v).map (px_v ad))) H1
    rw [List.map_set]; exact e1
  · intro w hw
    rcases List.mem_or_eq_of_mem_set hw with h | h
    · exact (I.1.2.1 r _ hr) w h
    · rw [h]; exact I.top
/-! arrays -/
theorem px_ai {g : px_G} {ad dd : px_R → Nat} {r : px_R} {H : Heap} {t len : Nat} {f : Nat → Int32} (h : px_at g ad dd r H (.inr (.inl (t, len, .inl f)))) : H[ad r]? = some (arrV (px_gA g t) len (fun j => .int (f j))) := h
theorem px_al {g : px_G} {ad dd : px_R → Nat} {r : px_R} {H : Heap} {t len : Nat} {f : Nat → Int64} (h : px_at g ad dd r H (.inr (.inl (t, len, .inr (.inl f))))) : H[ad r]? = some (arrV (px_gA g t) len (fun j => .long (f j))) := h
theorem px_ad {g : px_G} {ad dd : px_R → Nat} {r : px_R} {H : Heap} {t len : Nat} {f : Nat → UInt64} (h : px_at g ad dd r H (.inr (.inl (t, len, .inr (.inr (.inl f)))))) : H[ad r]? = some (arrV (px_gA g t) len (fun j => .double (f j))) := h
theorem px_aq {g : px_G} {ad dd : px_R → Nat} {r : px_R} {H : Heap} {t len : Nat} {f : Nat → Option px_R} (h : px_at g ad dd r H (.inr (.inl (t, len, .inr (.inr (.inr f)))))) : H[ad r]? = some (arrV (px_gA g t) len (fun j => va_rf ((f j).map ad))) := h
theorem px_ald_i {r : px_R} {len : Nat} {f : Nat → Int32} {i : Int32} {j : Nat} (hd : decode Γ.2.1 pc = .ok (.iaload, 1)) (hr : M r = some (.inr (.inl (0, len, .inl f)))) (hi : i = nI j) (hj : j < len) (hn : len ≤ 65536)
    (kk : px_W d mc ms Γ Q (pc + 1) lv (.inl (.int (f j)) :: st) M k n) : px_W d mc ms Γ Q pc lv (.inl (.int i) :: .inr r :: st) M k n := by
  subst hi
  refine ⟨trivial, fun {p l e R s m args below meth c g P0 ad0} C {ad dd H locs ls} I => ?_⟩
  have k1 := kk.2 (e := e) (below := below) C (I.pop.pop.psh trivial)
  rw [← nI_clamp (n := j) (by omega)] at k1
  exact va_iald C.1 C.2.1 C.2.2.2.2.2.2.2.2.2.2.1.1 (px_one (px_at.arr (I.1.1 r _ hr))) 0 0 rfl rfl (vp_in_nI (n := j) (N := len) hj (by omega)) hd k1
theorem px_ald_z {r : px_R} {len : Nat} {f : Nat → Int32} {i : Int32} {j : Nat} (hd : decode Γ.2.1 pc = .ok (.baload, 1)) (hr : M r = some (.inr (.inl (2, len, .inl f)))) (hi : i = nI j) (hj : j < len) (hn : len ≤ 65536)
    (kk : px_W d mc ms Γ Q (pc + 1) lv (.inl (.int (f j)) :: st) M k n) : px_W d mc ms Γ Q pc lv (.inl (.int i) :: .inr r :: st) M k n := by
  subst hi
  refine ⟨trivial, fun {p l e R s m args below meth c g P0 ad0} C {ad dd H locs ls} I => ?_⟩
  have k1 := kk.2 (e := e) (below := below) C (I.pop.pop.psh trivial)
  rw [← nI_clamp (n := j) (by omega)] at k1
  exact va_zald C.1 C.2.1 C.2.2.2.2.2.2.2.2.2.2.1.1 (px_one (px_at.arr (I.1.1 r _ hr))) 0 2 rfl rfl (vp_in_nI (n := j) (N := len) hj (by omega)) hd k1
theorem px_ald_d {r : px_R} {len : Nat} {f : Nat → UInt64} {i : Int32} {j : Nat} (hd : decode Γ.2.1 pc = .ok (.daload, 1)) (hr : M r = some (.inr (.inl (1, len, .inr (.inr (.inl f)))))) (hi : i = nI j) (hj : j < len) (hn : len ≤ 65536)
    (kk : px_W d mc ms Γ Q (pc + 1) lv (.inl (.double (f j)) :: st) M k n) : px_W d mc ms Γ Q pc lv (.inl (.int i) :: .inr r :: st) M k n := by
  subst hi
  refine ⟨trivial, fun {p l e R s m args below meth c g P0 ad0} C {ad dd H locs ls} I => ?_⟩
  have k1 := kk.2 (e := e) (below := below) C (I.pop.pop.psh trivial)
  rw [← nI_clamp (n := j) (by omega)] at k1
  exact va_dald C.1 C.2.1 C.2.2.2.2.2.2.2.2.2.2.1.1 (px_one (px_at.arr (I.1.1 r _ hr))) 0 1 rfl rfl (vp_in_nI (n := j) (N := len) hj (by omega)) hd k1
theorem px_ald_l {r : px_R} {len : Nat} {f : Nat → Int64} {i : Int32} {j : Nat} (hd : decode Γ.2.1 pc = .ok (.laload, 1)) (hr : M r = some (.inr (.inl (3, len, .inr (.inl f))))) (hi : i = nI j) (hj : j < len) (hn : len ≤ 65536)
    (kk : px_W d mc ms Γ Q (pc + 1) lv (.inl (.long (f j)) :: st) M k n) : px_W d mc ms Γ Q pc lv (.inl (.int i) :: .inr r :: st) M k n := by
  subst hi
  refine ⟨trivial, fun {p l e R s m args below meth c g P0 ad0} C {ad dd H locs ls} I => ?_⟩
  have k1 := kk.2 (e := e) (below := below) C (I.pop.pop.psh trivial)
  rw [← nI_clamp (n := j) (by omega)] at k1
  exact va_lald C.1 C.2.1 C.2.2.2.2.2.2.2.2.2.2.1.1 (px_one (px_at.arr (I.1.1 r _ hr))) 0 3 rfl rfl (vp_in_nI (n := j) (N := len) hj (by omega)) hd k1
theorem px_ald_q4 {r : px_R} {len : Nat} {f : Nat → Option px_R} {i : Int32} {j : Nat} (hd : decode Γ.2.1 pc = .ok (.aaload, 1)) (hr : M r = some (.inr (.inl (4, len, .inr (.inr (.inr f)))))) (hi : i = nI j) (hj : j < len) (hn : len ≤ 65536)
    (kk : px_W d mc ms Γ Q (pc + 1) lv (px_rf (f j) :: st) M k n) : px_W d mc ms Γ Q pc lv (.inl (.int i) :: .inr r :: st) M k n := by
  subst hi
  refine ⟨trivial, fun {p l e R s m args below meth c g P0 ad0} C {ad dd H locs ls} I => ?_⟩
  have k1 := kk.2 (e := e) (below := below) C (I.pop.pop.psh (v := px_rf (f j)) (by
    cases e9 : f j with
    | none => trivial
    | some x => exact (I.1.2.1 r _ hr) j x e9))
  rw [List.map_cons, px_v_rf, ← nI_clamp (n := j) (by omega)] at k1
  exact va_aldq C.1 C.2.1 C.2.2.2.2.2.2.2.2.2.2.1.1 (px_one (px_at.arr (I.1.1 r _ hr))) 0 4 rfl rfl (vp_in_nI (n := j) (N := len) hj (by omega)) hd k1
theorem px_ald_q5 {r : px_R} {len : Nat} {f : Nat → Option px_R} {i : Int32} {j : Nat} (hd : decode Γ.2.1 pc = .ok (.aaload, 1)) (hr : M r = some (.inr (.inl (5, len, .inr (.inr (.inr f)))))) (hi : i = nI j) (hj : j < len) (hn : len ≤ 65536)
    (kk : px_W d mc ms Γ Q (pc + 1) lv (px_rf (f j) :: st) M k n) : px_W d mc ms Γ Q pc lv (.inl (.int i) :: .inr r :: st) M k n := by
  subst hi
  refine ⟨trivial, fun {p l e R s m args below meth c g P0 ad0} C {ad dd H locs ls} I => ?_⟩
  have k1 := kk.2 (e := e) (below := below) C (I.pop.pop.psh (v := px_rf (f j)) (by
    cases e9 : f j with
    | none => trivial
    | some x => exact (I.1.2.1 r _ hr) j x e9))
  rw [List.map_cons, px_v_rf, ← nI_clamp (n := j) (by omega)] at k1
  exact va_aldq C.1 C.2.1 C.2.2.2.2.2.2.2.2.2.2.1.1 (px_one (px_at.arr (I.1.1 r _ hr))) 0 5 rfl rfl (vp_in_nI (n := j) (N := len) hj (by omega)) hd k1
theorem px_alen {r : px_R} {t len : Nat} {a : px_A} (hd : decode Γ.2.1 pc = .ok (.arraylength, 1)) (hr : M r = some (.inr (.inl (t, len, a)))) (ht : t < 6)
    (kk : px_W d mc ms Γ Q (pc + 1) lv (.inl (.int (nI len)) :: st) M k n) : px_W d mc ms Γ Q pc lv (.inr r :: st) M k n := by
  refine ⟨trivial, fun {p l e R s m args below meth c g P0 ad0} C {ad dd H locs ls} I => ?_⟩
  refine va_alen C.1 C.2.1 C.2.2.2.2.2.2.2.2.2.2.1.1 (px_one (px_at.arr (I.1.1 r _ hr))) 0 t rfl (ty := px_ty t) ?_ rfl hd (kk.2 C (I.pop.psh trivial))
  rcases (show t = 0 ∨ t = 1 ∨ t = 2 ∨ t = 3 ∨ t = 4 ∨ t = 5 by omega) with rfl | rfl | rfl | rfl | rfl | rfl <;> rfl
/-- one array cell has another content: what is left to do -/
theorem px_I.arr {g : px_G} {P0 : px_R → Prop} {ad0 : px_R → Nat} {s : State} {nL : Nat} {ad dd : px_R → Nat} {H H1 : Heap} {locs : List Loc} {ls : Array Slot} (I : px_I g P0 ad0 s nL lv st M ad dd H locs ls) {r : px_R} {t len : Nat} {a a' : px_A} (hr : M r = some (.inr (.inl (t, len, a)))) {i : Nat}
    (e1 : H1[ad r]? = some (vp_cell (px_gA g t) (len, px_a ad a'))) (hc : px_cf M (.inr (.inl (t, len, a')))) (e2 : H1.size = H.size) (e3 : ∀ q : Nat, q ≠ ad r → H1[q]? = H[q]?) : px_I g P0 ad0 s nL lv st (px_up M r (.inr (.inl (t, len, a')))) ad dd H1 (locs ++ [⟨ad r, i⟩]) ls := by
  have hrn : M r ≠ none := by rw [hr]; exact fun z => by cases z
  exact ⟨I.1.set hr (fun xs z => by cases z) (fun xs z => by cases z) e1 hc e3, fun q hq => (I.2.1 q hq).mono fun _ => px_up_nn, fun w hw => (I.2.2.1 w hw).mono fun _ => px_up_nn, fun x hx => ⟨px_up_nn (I.2.2.2.1 x hx).1, (I.2.2.2.1 x hx).2⟩, I.2.2.2.2.1.put e2 e3 (I.1.ge hrn), I.has⟩
theorem px_in0 {j len : Nat} {cA : ClassId} {f : Nat → Value} (hj : j < len) (hn : len ≤ 65536) : ¬ (nI j < 0 ∨ (arrV cA len f).slots.size ≤ (nI j).toNatClampNeg) := by rw [arrV_size]; exact vp_in_nI hj (by omega)
theorem px_ast_i {r : px_R} {len : Nat} {f : Nat → Int32} {i x : Int32} {j : Nat} (hd : decode Γ.2.1 pc = .ok (.iastore, 1)) (hr : M r = some (.inr (.inl (0, len, .inl f)))) (hi : i = nI j) (hj : j < len) (hn : len ≤ 65536)
    (kk : px_W d mc ms Γ Q (pc + 1) lv st (px_up M r (.inr (.inl (0, len, .inl (upd f j x))))) k n) : px_W d mc ms Γ Q pc lv (.inl (.int x) :: .inl (.int i) :: .inr r :: st) M k n := by
  subst hi
  refine ⟨trivial, fun {p l e R s m args below meth c g P0 ad0} C {ad dd H locs ls} I => ?_⟩
  refine W.iast C.1 C.2.1 (px_ai (I.1.1 r _ hr)) ((C.2.2.2.2.2.2.2.2.2.2.1.1.2 0 _ rfl).1 len (fun j => .int (f j))) (fun q => by cases q) (px_in0 hj hn) rfl rfl hd fun H1 e1 e2 e3 => kk.2 C (I.pop.pop.pop.arr hr ?_ trivial e2 e3)
  rw [e1, nI_clamp (by omega)]
  show some ((arrV _ _ (fun q => Value.int (f q))).setSlot _ _) = some (arrV _ _ (fun q => Value.int (upd f j x q)))
  rw [arrV_store]
  congr 2
  funext q
  by_cases hq : q = j <;> simp [updV, upd, hq]
theorem px_ast_z {r : px_R} {len : Nat} {f : Nat → Int32} {i x : Int32} {j : Nat} (hd : decode Γ.2.1 pc = .ok (.bastore, 1)) (hr : M r = some (.inr (.inl (2, len, .inl f)))) (hi : i = nI j) (hj : j < len) (hn : len ≤ 65536) (hx : narrow .boolean (.int x) = .int x)
    (kk : px_W d mc ms Γ Q (pc + 1) lv st (px_up M r (.inr (.inl (2, len, .inl (upd f j x))))) k n) : px_W d mc ms Γ Q pc lv (.inl (.int x) :: .inl (.int i) :: .inr r :: st) M k n := by
  subst hi
  refine ⟨trivial, fun {p l e R s m args below meth c g P0 ad0} C {ad dd H locs ls} I => ?_⟩
  refine W.zast C.1 C.2.1 (px_ai (I.1.1 r _ hr)) ((C.2.2.2.2.2.2.2.2.2.2.1.1.2 2 _ rfl).1 len (fun j => .int (f j))) (fun q => by cases q) (px_in0 hj hn) rfl rfl hd fun H1 e1 e2 e3 => kk.2 C (I.pop.pop.pop.arr hr ?_ trivial e2 e3)
  rw [e1, hx, nI_clamp (by omega)]
  show some ((arrV _ _ (fun q => Value.int (f q))).setSlot _ _) = some (arrV _ _ (fun q => Value.int (upd f j x q)))
  rw [arrV_store]
  congr 2
  funext q
  by_cases hq : q = j <;> simp [updV, upd, hq]
theorem px_ast_d {r : px_R} {len : Nat} {f : Nat → UInt64} {i : Int32} {x : UInt64} {j : Nat} (hd : decode Γ.2.1 pc = .ok (.dastore, 1)) (hr : M r = some (.inr (.inl (1, len, .inr (.inr (.inl f)))))) (hi : i = nI j) (hj : j < len) (hn : len ≤ 65536)
    (kk : px_W d mc ms Γ Q (pc + 1) lv st (px_up M r (.inr (.inl (1, len, .inr (.inr (.inl (vf_upd f j x))))))) k n) : px_W d mc ms Γ Q pc lv (.inl (.double x) :: .inl (.int i) :: .inr r :: st) M k n := by
  subst hi
  refine ⟨trivial, fun {p l e R s m args below meth c g P0 ad0} C {ad dd H locs ls} I => ?_⟩
  refine W.dast C.1 C.2.1 (px_ad (I.1.1 r _ hr)) ((C.2.2.2.2.2.2.2.2.2.2.1.1.2 1 _ rfl).1 len (fun j => .double (f j))) (fun q => by cases q) (px_in0 hj hn) rfl rfl hd fun H1 e1 e2 e3 => kk.2 C (I.pop.pop.pop.arr hr ?_ trivial e2 e3)
  rw [e1, nI_clamp (by omega)]
  show some ((arrV _ _ (fun q => Value.double (f q))).setSlot _ _) = some (arrV _ _ (fun q => Value.double (vf_upd f j x q)))
  rw [arrV_store]
  congr 2
  funext q
  by_cases hq : q = j <;> simp [updV, vf_upd, hq]
theorem px_ast_l {r : px_R} {len : Nat} {f : Nat → Int64} {i : Int32} {x : Int64} {j : Nat} (hd : decode Γ.2.1 pc = .ok (.lastore, 1)) (hr : M r = some (.inr (.inl (3, len, .inr (.inl f))))) (hi : i = nI j) (hj : j < len) (hn : len ≤ 65536)
    (kk : px_W d mc ms Γ Q (pc + 1) lv st (px_up M r (.inr (.inl (3, len, .inr (.inl (vf_upd f j x)))))) k n) : px_W d mc ms Γ Q pc lv (.inl (.long x) :: .inl (.int i) :: .inr r :: st) M k n := by
  subst hi
  refine ⟨trivial, fun {p l e R s m args below meth c g P0 ad0} C {ad dd H locs ls} I => ?_⟩
  refine W.last C.1 C.2.1 (px_al (I.1.1 r _ hr)) ((C.2.2.2.2.2.2.2.2.2.2.1.1.2 3 _ rfl).1 len (fun j => .long (f j))) (fun q => by cases q) (px_in0 hj hn) rfl rfl hd fun H1 e1 e2 e3 => kk.2 C (I.pop.pop.pop.arr hr ?_ trivial e2 e3)
  rw [e1, nI_clamp (by omega)]
  show some ((arrV _ _ (fun q => Value.long (f q))).setSlot _ _) = some (arrV _ _ (fun q => Value.long (vf_upd f j x q)))
  rw [arrV_store]
  congr 2
  funext q
  by_cases hq : q = j <;> simp [updV, vf_upd, hq]
theorem px_cfq {r x : px_R} {t len : Nat} {f : Nat → Option px_R} {j : Nat} {o : Option px_R} (h : px_cf M (.inr (.inl (t, len, .inr (.inr (.inr f)))))) (ho : ∀ x, o = some x → M x ≠ none) : px_cf M (.inr (.inl (t, len, .inr (.inr (.inr (va_up f j o)))))) := by
  intro i x hx
  by_cases e : i = j
  · rw [e] at hx
    simp only [va_up, if_pos] at hx
    exact ho x hx
  · simp only [va_up, if_neg e] at hx
    exact h i x hx
/-- a Step into a row of Steps -/
theorem px_ast_q4 {r x : px_R} {len : Nat} {f : Nat → Option px_R} {i : Int32} {j : Nat} {fs : List px_V} (hd : decode Γ.2.1 pc = .ok (.aastore, 1)) (hr : M r = some (.inr (.inl (4, len, .inr (.inr (.inr f)))))) (hx : M x = some (.inl (2, fs))) (hi : i = nI j) (hj : j < len) (hn : len ≤ 65536)
    (kk : px_W d mc ms Γ Q (pc + 1) lv st (px_up M r (.inr (.inl (4, len, .inr (.inr (.inr (va_up f j (some x)))))))) k n) : px_W d mc ms Γ Q pc lv (.inr x :: .inl (.int i) :: .inr r :: st) M k n := by
  subst hi
  refine ⟨trivial, fun {p l e R s m args below meth c g P0 ad0} C {ad dd H locs ls} I => ?_⟩
  have hK := C.2.2.2.2.2.2.2.2.2.2.1.1
  obtain ⟨r', hr', cellV, g1, g2, g3, -⟩ := px_at.obj (I.1.1 x _ hx)
  have hcls := (hK.1 2 _ rfl).2
  obtain ⟨kA, comp, k1, k2, k3, -⟩ := (hK.2 4 _ rfl).2
  have hcomp : comp = (px_gD g).1 2 := Option.some.inj (k3.symm.trans hcls.1)
  subst hcomp
  obtain ⟨kC, hkC, -⟩ := hcls.2
  refine W.aast C.1 C.2.1 (px_aq (I.1.1 r _ hr)) (fun q h => by cases h) (fun h => by cases h) k1 k2 rfl hkC ?_ g1 (fun q h => by rw [g3] at h; cases h) (by rw [g2]; exact hkC) (by rw [g2]; exact va_assign hcls) rfl rfl hd fun H1 e1 e2 e3 => kk.2 C (I.pop.pop.pop.arr hr ?_ (px_cfq (r := r) (x := x) (I.1.2.1 r _ hr) (fun y hy => by rw [← Option.some.inj hy, hx]; exact fun z => by cases z)) e2 e3)
  · have h0 := px_in0 (cA := px_gA g 4) (f := fun j => va_rf ((f j).map ad)) hj hn
    exact ⟨fun z => h0 (Or.inl z), Nat.not_le.mp fun z => h0 (Or.inr z)⟩
  · rw [e1, nI_clamp (by omega)]
    show some ((arrV _ _ (fun q => va_rf ((f q).map ad))).setSlot _ _) = some (arrV _ _ (fun q => va_rf ((va_up f j (some x) q).map ad)))
    rw [arrV_store]
    congr 2
    funext q
    by_cases hq : q = j <;> simp [updV, va_up, hq, va_rf]
/-- an object of a class ci into a row of Objects -/
theorem px_ast_q5 {r x : px_R} {len ci : Nat} {q : vw_C} {f : Nat → Option px_R} {i : Int32} {j : Nat} {fs : List px_V} (hd : decode Γ.2.1 pc = .ok (.aastore, 1)) (hr : M r = some (.inr (.inl (5, len, .inr (.inr (.inr f)))))) (hx : M x = some (.inl (ci, fs))) (hc : px_cl[ci]? = some q) (hcast : Cond.castable q.1 "java/lang/Object" ∈ lw_tbl) (hi : i = nI j) (hj : j < len) (hn : len ≤ 65536)
    (kk : px_W d mc ms Γ Q (pc + 1) lv st (px_up M r (.inr (.inl (5, len, .inr (.inr (.inr (va_up f j (some x)))))))) k n) : px_W d mc ms Γ Q pc lv (.inr x :: .inl (.int i) :: .inr r :: st) M k n := by
  subst hi
  refine ⟨trivial, fun {p l e R s m args below meth c g P0 ad0} C {ad dd H locs ls} I => ?_⟩
  have hSt := C.2.2.2.2.2.2.2.2.2.2.1
  have hK := hSt.1
  obtain ⟨r', hr', cellV, g1, g2, g3, -⟩ := px_at.obj (I.1.1 x _ hx)
  have hcls := (hK.1 ci _ hc).2
  obtain ⟨kA, comp, k1, k2, k3, -⟩ := (hK.2 5 _ rfl).2
  obtain ⟨kC, hkC, -⟩ := hcls.2
  obtain ⟨kE, hkE, -⟩ := Vm.findClass_spec k3
  obtain ⟨c3, c4, hc3, hc4, hasg⟩ := Cond.castable_spec (va_Nw.use (A := args) rfl (hSt.2.2.2.2.2.2.1 _ hcast rfl))
  have e4 : c4 = comp := Option.some.inj (hc4.symm.trans k3)
  have e3' : c3 = (px_gD g).1 ci := Option.some.inj (hc3.symm.trans hcls.1)
  subst e4 e3'
  refine W.aast C.1 C.2.1 (px_aq (I.1.1 r _ hr)) (fun q h => by cases h) (fun h => by cases h) k1 k2 rfl hkE ?_ g1 (fun q h => by rw [g3] at h; cases h) (by rw [g2]; exact hkC) (by rw [g2]; exact hasg) rfl rfl hd fun H1 e1 e2 e3 => kk.2 C (I.pop.pop.pop.arr hr ?_ (px_cfq (r := r) (x := x) (I.1.2.1 r _ hr) (fun y hy => by rw [← Option.some.inj hy, hx]; exact fun z => by cases z)) e2 e3)
  · have h0 := px_in0 (cA := px_gA g 5) (f := fun j => va_rf ((f j).map ad)) hj hn
    exact ⟨fun z => h0 (Or.inl z), Nat.not_le.mp fun z => h0 (Or.inr z)⟩
  · rw [e1, nI_clamp (by omega)]
    show some ((arrV _ _ (fun q => va_rf ((f q).map ad))).setSlot _ _) = some (arrV _ _ (fun q => va_rf ((va_up f j (some x) q).map ad)))
    rw [arrV_store]
    congr 2
    funext q
    by_cases hq : q = j <;> simp [updV, va_up, hq, va_rf]
theorem px_ast_n5 {r : px_R} {len : Nat} {f : Nat → Option px_R} {i : Int32} {j : Nat} (hd : decode Γ.2.1 pc = .ok (.aastore, 1)) (hr : M r = some (.inr (.inl (5, len, .inr (.inr (.inr f)))))) (hi : i = nI j) (hj : j < len) (hn : len ≤ 65536)
    (kk : px_W d mc ms Γ Q (pc + 1) lv st (px_up M r (.inr (.inl (5, len, .inr (.inr (.inr (va_up f j none))))))) k n) : px_W d mc ms Γ Q pc lv (.inl .null :: .inl (.int i) :: .inr r :: st) M k n := by
  subst hi
  refine ⟨trivial, fun {p l e R s m args below meth c g P0 ad0} C {ad dd H locs ls} I => ?_⟩
  have hK := C.2.2.2.2.2.2.2.2.2.2.1.1
  refine va_WaastN (C := "java/lang/Object") C.1 C.2.1 (px_aq (I.1.1 r _ hr)) ((hK.2 5 _ rfl).1 len (fun j => va_rf ((f j).map ad))) (fun h => by cases h) (px_in0 hj hn) rfl rfl hd fun H1 e1 e2 e3 => kk.2 C (I.pop.pop.pop.arr hr ?_ (px_cfq (r := r) (x := r) (I.1.2.1 r _ hr) (fun y hy => by cases hy)) e2 e3)
  rw [e1, nI_clamp (by omega)]
  show some ((arrV _ _ (fun q => va_rf ((f q).map ad))).setSlot _ _) = some (arrV _ _ (fun q => va_rf ((va_up f j none q).map ad)))
  rw [arrV_store]
  congr 2
  funext q
  by_cases hq : q = j <;> simp [updV, va_up, hq, va_rf]
/-! new cells -/
def px_ua (ad : px_R → Nat) (r : px_R) (a : Nat) : px_R → Nat := fun x => if x = r then a else ad x
theorem px_I.new {g : px_G} {P0 : px_R → Prop} {ad0 : px_R → Nat} {s : State} {nL : Nat} {ad dd : px_R → Nat} {H H1 : Heap} {locs : List Loc} {ls : Array Slot} (hSt : px_St g s) (I : px_I g P0 ad0 s nL lv st M ad dd H locs ls) {r : px_R} {o : px_O} (hr : M r = none) (ho : ∀ xs, o ≠ .inr (.inr xs))
    (h' : px_at g (px_ua ad r H.size) dd r H1 o) (hc : px_cf M o) (hz : H1.size = H.size + 1) (hq : ∀ q : Nat, q < H.size → H1[q]? = H[q]?) : px_I g P0 ad0 s nL lv (.inr r :: st) (px_up M r o) (px_ua ad r H.size) dd H1 locs ls := by
  have hn0 : px_gn g ≤ H.size := Nat.le_trans hSt.2.2.2.2.2.2.2.2.2 I.2.2.2.2.1.1
  have hk : ∀ x, M x ≠ none → px_ua ad r H.size x = ad x := fun x hx => if_neg (fun (e : x = r) => hx (by rw [e]; exact hr))
  refine ⟨I.1.push hr ho (if_pos rfl) (fun x hx => if_neg hx) h' hc hn0 hq, fun q hq => (I.2.1 q hq).mono fun _ => px_up_nn, fun w hw => ?_, fun x hx => ⟨px_up_nn (I.2.2.2.1 x hx).1, (hk x (I.2.2.2.1 x hx).1).trans (I.2.2.2.1 x hx).2⟩, ?_, ?_⟩
  · rcases List.mem_cons.mp hw with rfl | hw
    · show px_up M r o r ≠ none
      rw [px_up_s]; exact fun z => by cases z
    · exact (I.2.2.1 w hw).mono fun _ => px_up_nn
  · obtain ⟨h1, h2, h3⟩ := I.2.2.2.2.1
    exact ⟨by omega, fun q h4 h5 => (hq q (by omega)).trans (h2 q h4 h5), h3⟩
  · have e : px_l (px_ua ad r H.size) lv = px_l ad lv := List.map_congr_left fun q hq => by rw [px_v_congr hk (I.2.1 q hq)]
    rw [e]; exact I.has
theorem px_stk {g : px_G} {P0 : px_R → Prop} {ad0 : px_R → Nat} {s : State} {nL : Nat} {ad dd : px_R → Nat} {H : Heap} {locs : List Loc} {ls : Array Slot} (I : px_I g P0 ad0 s nL lv st M ad dd H locs ls) {r : px_R} (hr : M r = none) (a : Nat) : st.map (px_v (px_ua ad r a)) = st.map (px_v ad) :=
  List.map_congr_left fun v hv => px_v_congr (M := M) (fun x hx => if_neg (fun (e : x = r) => hx (by rw [e]; exact hr))) (I.2.2.1 v hv)
def px_dv : FieldType → px_V := fun t => .inl (defaultValue t)
/-- an object of class ci; its role r is free till then -/
theorem px_new {index ci : Nat} {q : vw_C} {fs : List px_V} (r : px_R) (hd : decode Γ.2.1 pc = .ok (.new index, 3)) (hc : px_cl[ci]? = some q) (h1 : Cond.classLink Γ.1.cls index q.1 ∈ px_T) (h2 : Cond.instantiable q.1 q.2.2 ∈ px_T) (h3 : Cond.initialized q.1 ∈ px_T) (hr : M r = none)
    (hfs : fs = (List.range q.2.2).map fun j => px_dv (px_fty ci j)) (hk : k + 1 ≤ mc) (hn : n + q.2.2 ≤ ms)
    (kk : px_W d mc ms Γ Q (pc + 3) lv (.inr r :: st) (px_up M r (.inl (ci, fs))) (k + 1) (n + q.2.2)) : px_W d mc ms Γ Q pc lv st M k n := by
  refine ⟨trivial, fun {p l e R s m args below meth c g P0 ad0} C {ad dd H locs ls} I => ?_⟩
  obtain ⟨hx, hb, hml, hrt, hlk, hown, hnm, hts, htb, hfl, hSt, hR⟩ := id C
  obtain ⟨Cn, T, N⟩ := q
  have hKn := hSt.1.1 ci _ hc
  refine W.newcK hx hb hown (hts _ h1) (hts _ h2) (hts _ h3) rfl hd (by omega) (by omega) hKn.2.1 rfl fun H1 kC hkC e1 z1 o1 => ?_
  have hfl : fs.length = N := by rw [hfs]; simp
  have I' := I.new hSt (H1 := H1) (o := .inl (ci, fs)) hr (fun xs z => by cases z) ?_ ?_ z1 o1
  · have k1 := kk.2 (e := e) (below := below) C I'
    rw [List.map_cons, px_stk I hr] at k1
    have e9 : px_v (px_ua ad r H.size) (.inr r) = .ref H.size := congrArg Value.ref (if_pos rfl)
    rw [e9] at k1
    exact k1
  · show va_at (px_gD g) px_cl (px_ua ad r H.size r, .inr (ci, fs.map _)) H1
    rw [show px_ua ad r H.size r = H.size from if_pos rfl]
    refine ⟨_, hc, (u_born (px_fty ci) hts (px_clin ci _ hc) hKn hkC e1 (px_clty ci _ hc)).to fun j hj => ?_⟩
    rw [hfs]
    show _ = (((List.range N).map _).map _).getD j Value.null
    simp [List.getD_eq_getElem?_getD, hj, px_dv, px_v]
  · intro v hv
    rw [hfs] at hv
    obtain ⟨j, -, rfl⟩ := List.mem_map.mp hv
    trivial
theorem px_cA {g : px_G} {s : State} (hSt : px_St g s) {t : Nat} (ht : t < 4) {cA : ClassId} (h : s.vm.findClass ("[" ++ (px_ty t).toString) = some cA) : cA = px_gA g t := by
  have h9 : va_RA s (px_gA g t) (px_ty t) := by
    rcases (show t = 0 ∨ t = 1 ∨ t = 2 ∨ t = 3 by omega) with rfl | rfl | rfl | rfl
    · exact (hSt.1.2 0 _ rfl).2
    · exact (hSt.1.2 1 _ rfl).2
    · exact (hSt.1.2 2 _ rfl).2
    · exact (hSt.1.2 3 _ rfl).2
  rcases (show t = 0 ∨ t = 1 ∨ t = 2 ∨ t = 3 by omega) with rfl | rfl | rfl | rfl <;> exact Option.some.inj (h.symm.trans h9)
/-- a row of numbers: t its kind, a0 its zeros -/
theorem px_newa {atype : ArrayType} {t N : Nat} {x : Int32} {a0 : px_A} (r : px_R) (hd : decode Γ.2.1 pc = .ok (.newarray atype, 2)) (ht : newarray.typeOf atype = px_ty t) (ht4 : t < 4) (hw : Cond.arrayClass (px_ty t) ∈ px_T) (hr : M r = none) (hx : x = nI N) (hN : N ≤ 65536)
    (ha : ∀ (ad : px_R → Nat) (cA : ClassId), vp_cell cA (N, px_a ad a0) = arrV cA N (fun _ => defaultValue (px_ty t))) (hcf : px_cf M (.inr (.inl (t, N, a0)))) (hk : k + 1 ≤ mc) (hn : n + N ≤ ms)
    (kk : px_W d mc ms Γ Q (pc + 2) lv (.inr r :: st) (px_up M r (.inr (.inl (t, N, a0)))) (k + 1) (n + N)) : px_W d mc ms Γ Q pc lv (.inl (.int x) :: st) M k n := by
  subst hx
  refine ⟨trivial, fun {p l e R s m args below meth c g P0 ad0} C {ad dd H locs ls} I => ?_⟩
  obtain ⟨hx, hb, hml, hrt, hlk, hown, hnm, hts, htb, hfl, hSt, hR⟩ := id C
  have hby : N * componentBytes (newarray.typeOf atype) ≤ 536870912 := by
    rw [ht]
    rcases (show t = 0 ∨ t = 1 ∨ t = 2 ∨ t = 3 by omega) with rfl | rfl | rfl | rfl <;> simp [px_ty, componentBytes] <;> omega
  refine va_newaK hx hb (by rw [ht]; exact hts _ hw) rfl hd rfl (nI_pos (by omega)) (nI_clamp (by omega)) hby (by omega) (by omega) rfl fun H1 cA e1 z1 o1 hAr hNm => ?_
  rw [ht] at e1 hNm
  have ecA := px_cA hSt ht4 hNm
  subst ecA
  have I' := I.pop.new hSt (H1 := H1) (o := .inr (.inl (t, N, a0))) hr (fun xs z => by cases z) ?_ hcf z1 o1
  · have k1 := kk.2 (e := e) (below := below) C I'
    rw [List.map_cons, px_stk I.pop hr] at k1
    have e9 : px_v (px_ua ad r H.size) (.inr r) = .ref H.size := congrArg Value.ref (if_pos rfl)
    rw [e9] at k1
    exact k1
  · show va_at (px_gD g) px_cl (px_ua ad r H.size r, .inl (px_gA g t, N, px_a _ a0)) H1
    rw [show px_ua ad r H.size r = H.size from if_pos rfl]
    show H1[H.size]? = some (vp_cell _ _)
    rw [ha]; exact e1
/-- a row of references, of Steps (4) or Objects (5) -/
theorem px_newq {index t N : Nat} {nm : String} {x : Int32} (r : px_R) (hd : decode Γ.2.1 pc = .ok (.anewarray index, 3)) (ht : (t = 4 ∧ nm = "PathLists$Step") ∨ (t = 5 ∧ nm = "java/lang/Object")) (hw : Cond.classLink Γ.1.cls index nm ∈ px_T) (hr : M r = none) (hx : x = nI N) (hN : N ≤ 65536) (hk : k + 1 ≤ mc) (hn : n + N ≤ ms)
    (kk : px_W d mc ms Γ Q (pc + 3) lv (.inr r :: st) (px_up M r (.inr (.inl (t, N, .inr (.inr (.inr fun _ => none)))))) (k + 1) (n + N)) : px_W d mc ms Γ Q pc lv (.inl (.int x) :: st) M k n := by
  subst hx
  refine ⟨trivial, fun {p l e R s m args below meth c g P0 ad0} C {ad dd H locs ls} I => ?_⟩
  obtain ⟨hx, hb, hml, hrt, hlk, hown, hnm, hts, htb, hfl, hSt, hR⟩ := id C
  have ho : va_AO nm s ∧ ∃ kA comp, s.vm.classes[px_gA g t]? = some kA ∧ kA.kind = .array comp (.object nm) ∧ s.vm.findClass nm = some comp ∧ s.vm.findClass ("[" ++ (FieldType.object nm).toString) = some (px_gA g t) := by
    rcases ht with ⟨rfl, rfl⟩ | ⟨rfl, rfl⟩
    · exact ⟨hSt.2.2.2.2.2.2.2.1.1, (hSt.1.2 4 _ rfl).2⟩
    · exact ⟨hSt.2.2.2.2.2.2.2.1.2, (hSt.1.2 5 _ rfl).2⟩
  obtain ⟨ho, kA, comp, f2, f3, f4, f1⟩ := ho
  have ec : (nI N).toNatClampNeg = N := nI_clamp (by omega)
  refine W.anew hx hb hown (hts _ hw) (va_AO.use ho) rfl hd rfl (nI_pos (by omega)) (by omega) (by omega) (by omega) fun cA kA comp g1 g2 g3 g4 => ?_
  have ecA : cA = px_gA g t := Option.some.inj (g1.symm.trans f1)
  subst ecA
  rw [ec]
  generalize hH1 : H.push ({ cls := px_gA g t, slots := Array.replicate N .null, vm := .none } : Cell) = H1
  have z1 : H1.size = H.size + 1 := by rw [← hH1, Array.size_push]
  have e1 : H1[H.size]? = some (arrV (px_gA g t) N (fun _ => .null)) := by rw [← hH1, Array.getElem?_push_size, ← arrV_new]
  have o1 : ∀ q : Nat, q < H.size → H1[q]? = H[q]? := fun q hq => by rw [← hH1, Array.getElem?_push, if_neg (Nat.ne_of_lt hq)]
  have I' := I.pop.new hSt (H1 := H1) (o := .inr (.inl (t, N, .inr (.inr (.inr fun _ => none))))) hr (fun xs z => by cases z) ?_ (fun i x h => by cases h) z1 o1
  · have k1 := kk.2 (e := e) (below := below) C I'
    rw [List.map_cons, px_stk I.pop hr] at k1
    have e9 : px_v (px_ua ad r H.size) (.inr r) = .ref H.size := congrArg Value.ref (if_pos rfl)
    rw [e9] at k1
    exact k1
  · show va_at (px_gD g) px_cl (px_ua ad r H.size r, .inl (px_gA g t, N, px_a _ _)) H1
    rw [show px_ua ad r H.size r = H.size from if_pos rfl]
    exact e1
/-- a cast of an object to its own class -/
theorem px_cast {index ci : Nat} {q : vw_C} {r : px_R} {fs : List px_V} (hd : decode Γ.2.1 pc = .ok (.checkcast index, 3)) (hr : M r = some (.inl (ci, fs))) (hc : px_cl[ci]? = some q) (hw : Cond.classLink Γ.1.cls index q.1 ∈ px_T)
    (kk : px_W d mc ms Γ Q (pc + 3) lv (.inr r :: st) M k n) : px_W d mc ms Γ Q pc lv (.inr r :: st) M k n := by
  refine ⟨trivial, fun {p l e R s m args below meth c g P0 ad0} C {ad dd H locs ls} I => ?_⟩
  obtain ⟨hx, hb, hml, hrt, hlk, hown, hnm, hts, htb, hfl, hSt, hR⟩ := id C
  exact va_castS hx hb hown (hts _ hw) (hSt.1.1 ci _ hc).2 (va_recv (q0 := 0) (fs := fs.map (px_v ad)) hSt.1 (px_one (px_at.obj (I.1.1 r _ hr))) hc rfl) hd (kk.2 C I)
/-- the empty row of all lists -/
theorem px_getsE {index : Nat} (hd : decode Γ.2.1 pc = .ok (.getstatic index, 3)) (hw : Cond.fieldLink Γ.1.cls index RJx4a65c "DEFAULTCAPACITY_EMPTY_ELEMENTDATA" "[Ljava/lang/Object;" ∈ px_T)
    (kk : ∀ E : Nat, px_W d mc ms Γ Q (pc + 3) lv (.inl (.ref E) :: st) M k n) : px_W d mc ms Γ Q pc lv st M k n := by
  refine ⟨trivial, fun {p l e R s m args below meth c g P0 ad0} C {ad dd H locs ls} I => ?_⟩
  obtain ⟨hx, hb, hml, hrt, hlk, hown, hnm, hts, htb, hfl, hSt, hR⟩ := id C
  exact va_gets hx hb hSt.2.2.2.1 I.2.2.2.2.1 hown (hts _ hw) (fun _ h => h) hd ((kk _).2 C (I.psh trivial))
end PX3
