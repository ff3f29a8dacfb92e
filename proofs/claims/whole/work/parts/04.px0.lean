/-! ===== a world by roles: a cell's name is a role (kind, number); where the cells lie, only the rows know ===== -/
abbrev px_R : Type := Nat × Nat
abbrev px_V : Type := Value ⊕ px_R
abbrev px_A : Type := (Nat → Int32) ⊕ (Nat → Int64) ⊕ (Nat → UInt64) ⊕ (Nat → Option px_R)
/-- an object (class, fields), an array (kind, length, contents), or an ArrayList -/
abbrev px_O : Type := (Nat × List px_V) ⊕ (Nat × Nat × px_A) ⊕ List px_R
abbrev px_M : Type := px_R → Option px_O
def px_v (ad : px_R → Nat) : px_V → Value
  | .inl v => v
  | .inr r => .ref (ad r)
def px_a (ad : px_R → Nat) : px_A → (Nat → Int32) ⊕ (Nat → Int64) ⊕ (Nat → UInt32) ⊕ (Nat → UInt64) ⊕ (Nat → Option Nat)
  | .inl f => .inl f
  | .inr (.inl f) => .inr (.inl f)
  | .inr (.inr (.inl f)) => .inr (.inr (.inr (.inl f)))
  | .inr (.inr (.inr f)) => .inr (.inr (.inr (.inr fun i => (f i).map ad)))
abbrev px_cl : List vw_C := [(RX0, TX0, 2), (RX1, TX1, 7), (RX2, TX2, 6), (RX3, TX3, 5), (RX4, TX4, 11), (RX5, TX5, 31), (RJx4a65c, TJx4a65c, 3)]
def px_ty : Nat → FieldType
  | 0 => .int
  | 1 => .double
  | 2 => .boolean
  | 3 => .long
  | 4 => .object "PathLists$Step"
  | _ => .object "java/lang/Object"
/-- what a run knows of the machine: classes and slots; array classes; the empty row of all lists; where the law's heap begins; the script -/
abbrev px_G : Type := va_G × (Nat → ClassId) × Nat × Nat × Nat × Nat × (Nat → Int32)
abbrev px_gD (g : px_G) : va_G := g.1
abbrev px_gA (g : px_G) : Nat → ClassId := g.2.1
abbrev px_gE (g : px_G) : Nat := g.2.2.1
abbrev px_gn (g : px_G) : Nat := g.2.2.2.1
abbrev px_gb (g : px_G) : Nat := g.2.2.2.2.1
abbrev px_gL (g : px_G) : Nat := g.2.2.2.2.2.1
abbrev px_gx (g : px_G) : Nat → Int32 := g.2.2.2.2.2.2
abbrev px_AA (g : px_G) : Nat → Prop := fun q => px_gn g ≤ q
def px_tys (g : px_G) : List (ClassId × FieldType) := [(px_gA g 0, .int), (px_gA g 1, .double), (px_gA g 2, .boolean), (px_gA g 3, .long), (px_gA g 4, .object "PathLists$Step"), (px_gA g 5, .object "java/lang/Object")]
def px_at (g : px_G) (ad dd : px_R → Nat) (r : px_R) (H : Heap) : px_O → Prop
  | .inl o => va_at (px_gD g) px_cl (ad r, .inr (o.1, o.2.map (px_v ad))) H
  | .inr (.inl a) => va_at (px_gD g) px_cl (ad r, .inl (px_gA g a.1, a.2.1, px_a ad a.2.2)) H
  | .inr (.inr xs) => ∃ mo : Int32, va_at (px_gD g) px_cl (ad r, .inr (6, [.int mo, .ref (dd r), .int (nI xs.length)])) H ∧
      ((dd r = px_gE g ∧ xs = []) ∨ (dd r ≠ px_gE g ∧ ∃ n : Nat, xs.length ≤ n ∧ n ≤ 65536 ∧
        va_at (px_gD g) px_cl (dd r, .inl (px_gA g 5, n, .inr (.inr (.inr (.inr fun i => (xs[i]?).map ad))))) H))
/-- the roles that a cell names are there -/
def px_wf (M : px_M) : px_V → Prop
  | .inl _ => True
  | .inr r => M r ≠ none
def px_cf (M : px_M) : px_O → Prop
  | .inl o => ∀ v ∈ o.2, px_wf M v
  | .inr (.inl a) => match a.2.2 with
    | .inr (.inr (.inr f)) => ∀ i r, f i = some r → M r ≠ none
    | _ => True
  | .inr (.inr xs) => ∀ r ∈ xs, M r ≠ none
def px_own (g : px_G) (ad dd : px_R → Nat) (M : px_M) (r : px_R) (q : Nat) : Prop := q = ad r ∨ (q = dd r ∧ dd r ≠ px_gE g ∧ ∃ xs, M r = some (.inr (.inr xs)))
def px_Vw (g : px_G) (ad dd : px_R → Nat) (M : px_M) (H : Heap) : Prop :=
  (∀ r o, M r = some o → px_at g ad dd r H o) ∧ (∀ r o, M r = some o → px_cf M o) ∧ (∀ r q, M r ≠ none → px_own g ad dd M r q → px_gn g ≤ q) ∧
  (∀ r r' q, M r ≠ none → M r' ≠ none → px_own g ad dd M r q → px_own g ad dd M r' q → r = r') ∧ (∀ r xs, M r = some (.inr (.inr xs)) → ad r ≠ dd r)
def px_up (M : px_M) (r : px_R) (o : px_O) : px_M := fun r' => if r' = r then some o else M r'
theorem px_up_s (M : px_M) (r : px_R) (o : px_O) : px_up M r o r = some o := if_pos rfl
theorem px_up_n (M : px_M) {r r' : px_R} (o : px_O) (h : r' ≠ r) : px_up M r o r' = M r' := if_neg h
theorem px_up_nn {M : px_M} {r r' : px_R} {o : px_O} (h : M r' ≠ none) : px_up M r o r' ≠ none := by
  by_cases e : r' = r
  · rw [e, px_up_s]; exact fun z => by cases z
  · rw [px_up_n M o e]; exact h
theorem px_wf.mono {M M' : px_M} (h : ∀ r, M r ≠ none → M' r ≠ none) {v : px_V} (hv : px_wf M v) : px_wf M' v := by
  cases v with
  | inl v => trivial
  | inr r => exact h r hv
theorem px_cf.mono {M M' : px_M} (h : ∀ r, M r ≠ none → M' r ≠ none) {o : px_O} (ho : px_cf M o) : px_cf M' o := by
  rcases o with o | a | xs
  · exact fun v hv => (ho v hv).mono h
  · obtain ⟨t, n, a⟩ := a
    rcases a with f | f | f | f
    · trivial
    · trivial
    · trivial
    · exact fun i r e => h r (ho i r e)
  · exact fun r hr => h r (ho r hr)
theorem px_v_congr {M : px_M} {ad ad' : px_R → Nat} (h : ∀ r, M r ≠ none → ad' r = ad r) {v : px_V} (hv : px_wf M v) : px_v ad' v = px_v ad v := by
  cases v with
  | inl v => rfl
  | inr r => exact congrArg Value.ref (h r hv)
theorem px_at.obj {g : px_G} {ad dd : px_R → Nat} {r : px_R} {H : Heap} {o : Nat × List px_V} (h : px_at g ad dd r H (.inl o)) : va_at (px_gD g) px_cl (ad r, .inr (o.1, o.2.map (px_v ad))) H := h
theorem px_at.arr {g : px_G} {ad dd : px_R → Nat} {r : px_R} {H : Heap} {a : Nat × Nat × px_A} (h : px_at g ad dd r H (.inr (.inl a))) : va_at (px_gD g) px_cl (ad r, .inl (px_gA g a.1, a.2.1, px_a ad a.2.2)) H := h
/-- a cell stays where its own places stay, and the roles that it names -/
theorem px_at.kept {g : px_G} {ad dd ad' dd' : px_R → Nat} {M : px_M} {H H1 : Heap} {r : px_R} {o : px_O} (hr : M r = some o) (h : px_at g ad dd r H o) (hc : px_cf M o)
    (ha : ∀ r, M r ≠ none → ad' r = ad r ∧ dd' r = dd r) (hq : ∀ q, px_own g ad dd M r q → H1[q]? = H[q]?) : px_at g ad' dd' r H1 o := by
  have hn : M r ≠ none := by rw [hr]; exact fun z => by cases z
  have h1 : H1[ad r]? = H[ad r]? := hq _ (Or.inl rfl)
  rcases o with o | a | xs
  · have e : o.2.map (px_v ad') = o.2.map (px_v ad) := List.map_congr_left fun v hv => px_v_congr (fun r hr => (ha r hr).1) (hc v hv)
    show va_at (px_gD g) px_cl (ad' r, .inr (o.1, o.2.map (px_v ad'))) H1
    rw [e, (ha r hn).1]
    exact va_at.kept (px_at.obj h) h1
  · obtain ⟨t, n, a⟩ := a
    have e : px_a ad' a = px_a ad a := by
      rcases a with f | f | f | f
      · rfl
      · rfl
      · rfl
      · show (Sum.inr (Sum.inr (Sum.inr (Sum.inr _))) : (Nat → Int32) ⊕ (Nat → Int64) ⊕ (Nat → UInt32) ⊕ (Nat → UInt64) ⊕ (Nat → Option Nat)) = _
        congr 4
        funext i
        cases e : f i with
        | none => rfl
        | some x => exact congrArg some (ha x (hc i x e)).1
    show va_at (px_gD g) px_cl (ad' r, .inl (px_gA g t, n, px_a ad' a)) H1
    rw [e, (ha r hn).1]
    exact va_at.kept (px_at.arr h) h1
  · obtain ⟨mo, g1, g2⟩ := h
    refine ⟨mo, ?_, ?_⟩
    · rw [(ha r hn).1, (ha r hn).2]
      exact va_at.kept g1 h1
    · rw [(ha r hn).2]
      rcases g2 with g2 | ⟨g2, n, k1, k2, k4⟩
      · exact Or.inl g2
      · refine Or.inr ⟨g2, n, k1, k2, ?_⟩
        have e : (fun i : Nat => (xs[i]?).map ad') = fun i : Nat => (xs[i]?).map ad := by
          funext i
          cases e : xs[i]? with
          | none => rfl
          | some x => exact congrArg some (ha x (hc x (List.mem_of_getElem? e))).1
        rw [e]
        exact va_at.kept k4 (hq _ (Or.inr ⟨rfl, g2, xs, hr⟩))
theorem px_at.lt {g : px_G} {ad dd : px_R → Nat} {M : px_M} {H : Heap} {r : px_R} {o : px_O} (hr : M r = some o) (h : px_at g ad dd r H o) {q : Nat} (hq : px_own g ad dd M r q) : q < H.size := by
  rcases hq with rfl | ⟨rfl, h2, xs, h3⟩
  · rcases o with o | a | xs
    · exact va_at.lt (px_at.obj h)
    · exact va_at.lt (px_at.arr h)
    · obtain ⟨mo, g1, -⟩ := h
      exact va_at.lt g1
  · cases hr.symm.trans h3
    obtain ⟨mo, g1, g2⟩ := h
    rcases g2 with g2 | ⟨-, n, -, -, g5⟩
    · exact absurd g2.1 h2
    · exact va_at.lt g5
theorem px_Vw.lt {g : px_G} {ad dd : px_R → Nat} {M : px_M} {H : Heap} (h : px_Vw g ad dd M H) {r : px_R} (hr : M r ≠ none) : ad r < H.size := by
  cases e : M r with
  | none => exact absurd e hr
  | some o => exact px_at.lt e (h.1 r o e) (Or.inl rfl)
theorem px_Vw.ge {g : px_G} {ad dd : px_R → Nat} {M : px_M} {H : Heap} (h : px_Vw g ad dd M H) {r : px_R} (hr : M r ≠ none) : px_gn g ≤ ad r := h.2.2.1 r _ hr (Or.inl rfl)
theorem px_Vw.inj {g : px_G} {ad dd : px_R → Nat} {M : px_M} {H : Heap} (h : px_Vw g ad dd M H) {r r' : px_R} (hr : M r ≠ none) (hr' : M r' ≠ none) (e : ad r = ad r') : r = r' := h.2.2.2.1 r r' (ad r) hr hr' (Or.inl rfl) (Or.inl e)
/-- a plain cell has another content -/
theorem px_Vw.set {g : px_G} {ad dd : px_R → Nat} {M : px_M} {H H1 : Heap} (h : px_Vw g ad dd M H) {r : px_R} {o o' : px_O} (hr : M r = some o) (ho : ∀ xs, o ≠ .inr (.inr xs)) (ho' : ∀ xs, o' ≠ .inr (.inr xs))
    (h' : px_at g ad dd r H1 o') (hc : px_cf M o') (hq : ∀ q : Nat, q ≠ ad r → H1[q]? = H[q]?) : px_Vw g ad dd (px_up M r o') H1 := by
  have hn : M r ≠ none := by rw [hr]; exact fun z => by cases z
  have hd : ∀ r', px_up M r o' r' ≠ none → M r' ≠ none := fun r' h9 => by
    by_cases e : r' = r
    · rw [e]; exact hn
    · rw [px_up_n M o' e] at h9; exact h9
  have hw : ∀ r' q, px_own g ad dd (px_up M r o') r' q → px_own g ad dd M r' q := by
    intro r' q h9
    rcases h9 with h9 | ⟨h9, h8, xs, h7⟩
    · exact Or.inl h9
    · refine Or.inr ⟨h9, h8, xs, ?_⟩
      by_cases e : r' = r
      · rw [e, px_up_s] at h7; exact absurd (Option.some.inj h7) (ho' xs)
      · rw [px_up_n M o' e] at h7; exact h7
  refine ⟨fun r' x hx => ?_, fun r' x hx => ?_, fun r' q h9 h8 => h.2.2.1 r' q (hd r' h9) (hw r' q h8), fun r1 r2 q h1 h2 h3 h4 => h.2.2.2.1 r1 r2 q (hd r1 h1) (hd r2 h2) (hw r1 q h3) (hw r2 q h4), fun r' xs hx => ?_⟩
  · by_cases e : r' = r
    · subst e
      rw [px_up_s] at hx
      rw [← Option.some.inj hx]; exact h'
    · rw [px_up_n M o' e] at hx
      refine px_at.kept hx (h.1 r' x hx) (h.2.1 r' x hx) (fun _ _ => ⟨rfl, rfl⟩) (fun q h9 => hq q fun z => e ?_)
      exact h.2.2.2.1 r' r q (by rw [hx]; exact fun z => by cases z) hn h9 (Or.inl z)
  · by_cases e : r' = r
    · subst e
      rw [px_up_s] at hx
      rw [← Option.some.inj hx]; exact hc.mono fun _ => px_up_nn
    · rw [px_up_n M o' e] at hx
      exact (h.2.1 r' x hx).mono fun _ => px_up_nn
  · by_cases e : r' = r
    · rw [e, px_up_s] at hx; exact absurd (Option.some.inj hx) (ho' xs)
    · rw [px_up_n M o' e] at hx; exact h.2.2.2.2 r' xs hx
/-- a plain cell more -/
theorem px_Vw.push {g : px_G} {ad dd ad' : px_R → Nat} {M : px_M} {H H1 : Heap} (h : px_Vw g ad dd M H) {r : px_R} {o : px_O} (hr : M r = none) (ho : ∀ xs, o ≠ .inr (.inr xs)) (ha : ad' r = H.size) (han : ∀ r', r' ≠ r → ad' r' = ad r')
    (h' : px_at g ad' dd r H1 o) (hc : px_cf M o) (hn0 : px_gn g ≤ H.size) (hq : ∀ q : Nat, q < H.size → H1[q]? = H[q]?) : px_Vw g ad' dd (px_up M r o) H1 := by
  have hk : ∀ r', M r' ≠ none → ad' r' = ad r' ∧ dd r' = dd r' := fun r' h9 => ⟨han r' fun e => h9 (e ▸ hr), rfl⟩
  have hw : ∀ r' q, px_own g ad' dd (px_up M r o) r' q → (r' = r ∧ q = H.size) ∨ (r' ≠ r ∧ px_own g ad dd M r' q) := by
    intro r' q h9
    by_cases e : r' = r
    · subst e
      rcases h9 with h9 | ⟨-, -, xs, h7⟩
      · exact Or.inl ⟨rfl, h9.trans ha⟩
      · rw [px_up_s] at h7; exact absurd (Option.some.inj h7) (ho xs)
    · rcases h9 with h9 | ⟨h9, h8, xs, h7⟩
      · exact Or.inr ⟨e, Or.inl (h9.trans (han r' e))⟩
      · rw [px_up_n M o e] at h7
        exact Or.inr ⟨e, Or.inr ⟨h9, h8, xs, h7⟩⟩
  have hlt : ∀ r' q, r' ≠ r → px_up M r o r' ≠ none → px_own g ad dd M r' q → q < H.size := by
    intro r' q e h9 h8
    rw [px_up_n M o e] at h9
    cases e9 : M r' with
    | none => exact absurd e9 h9
    | some x => exact px_at.lt e9 (h.1 r' x e9) h8
  refine ⟨fun r' x hx => ?_, fun r' x hx => ?_, fun r' q h9 h8 => ?_, fun r1 r2 q h1 h2 h3 h4 => ?_, fun r' xs hx => ?_⟩
  · by_cases e : r' = r
    · subst e
      rw [px_up_s] at hx
      rw [← Option.some.inj hx]; exact h'
    · have hx' := hx
      rw [px_up_n M o e] at hx'
      exact px_at.kept hx' (h.1 r' x hx') (h.2.1 r' x hx') hk (fun q h9 => hq q (px_at.lt hx' (h.1 r' x hx') h9))
  · by_cases e : r' = r
    · subst e
      rw [px_up_s] at hx
      rw [← Option.some.inj hx]; exact hc.mono fun _ => px_up_nn
    · rw [px_up_n M o e] at hx
      exact (h.2.1 r' x hx).mono fun _ => px_up_nn
  · rcases hw r' q h8 with ⟨-, e⟩ | ⟨e, h7⟩
    · rw [e]; exact hn0
    · rw [px_up_n M o e] at h9; exact h.2.2.1 r' q h9 h7
  · rcases hw r1 q h3 with ⟨e1, q1⟩ | ⟨e1, q1⟩ <;> rcases hw r2 q h4 with ⟨e2, q2⟩ | ⟨e2, q2⟩
    · rw [e1, e2]
    · have := hlt r2 q e2 h2 q2; omega
    · have := hlt r1 q e1 h1 q1; omega
    · rw [px_up_n M o e1] at h1; rw [px_up_n M o e2] at h2
      exact h.2.2.2.1 r1 r2 q h1 h2 q1 q2
  · by_cases e : r' = r
    · rw [e, px_up_s] at hx; exact absurd (Option.some.inj hx) (ho xs)
    · rw [px_up_n M o e] at hx
      rw [han r' e]; exact h.2.2.2.2 r' xs hx
/-- the heap grows, or changes where nobody looks -/
theorem px_Vw.heap {g : px_G} {ad dd : px_R → Nat} {M : px_M} {H H1 : Heap} (h : px_Vw g ad dd M H) (hq : ∀ q : Nat, q < H.size → H1[q]? = H[q]?) : px_Vw g ad dd M H1 :=
  ⟨fun r o hr => px_at.kept hr (h.1 r o hr) (h.2.1 r o hr) (fun _ _ => ⟨rfl, rfl⟩) (fun q h9 => hq q (px_at.lt hr (h.1 r o hr) h9)), h.2⟩
/-! what the machine has ready, and keeps: classes, statics, texts, links between nest mates -/
def px_isN : Cond → Bool
  | .fieldLinkNest .. => true
  | .methodLinkNest .. => true
  | .castable .. => true
  | .declares .. => true
  | _ => false
def px_strs : List (Nat × String) := [(75, "no more pins"), (217, "there is none of this number"), (87, "no more arcs"), (95, "no delay"), (110, "a circle"), (129, "no more ends"), (222, "no time"), (141, "no more starts"), (143, "no such order"), (145, "k is not 1 .. 40"), (224, "no paths are listed"), (167, "no such place"), (170, "no such group"), (197, "no more can be taken back")]
def px_ncs : List (String × String) := [("java/lang/IllegalStateException", "java/lang/IndexOutOfBoundsException"), ("java/lang/IllegalArgumentException", "java/lang/IndexOutOfBoundsException"), ("java/lang/IllegalArgumentException", "java/lang/IllegalStateException"), ("java/lang/IndexOutOfBoundsException", "java/lang/IllegalStateException")]
def px_St (g : px_G) (U : State) : Prop :=
  va_K (px_gD g) px_cl (px_tys g) U ∧ vx_Zq Bundle.tN "UNASSIGNED_STACK" Bundle.steD (px_AA g) U U.heap ∧ vx_Zq Bundle.tN "SUPPRESSED_SENTINEL" Bundle.listD (px_AA g) U U.heap ∧
  va_Z RJx4a65c "DEFAULTCAPACITY_EMPTY_ELEMENTDATA" "[Ljava/lang/Object;" (.ref (px_gE g)) (px_AA g) U U.heap ∧
  (px_gE g < px_gn g ∧ ∃ cell : Cell, U.heap[px_gE g]? = some cell ∧ U.isArrayOf cell (.object "java/lang/Object") ∧ cell.slots.size = 0) ∧
  (∀ q ∈ px_strs, ∃ sa, vk_R RX4 q.1 q.2 sa U) ∧ (∀ w ∈ lw_tbl, px_isN w = true → va_Nw w U) ∧ (va_AO "PathLists$Step" U ∧ va_AO "java/lang/Object" U) ∧
  (va_X (px_gb g) (px_gL g) (px_gx g) U U.heap ∧ px_gb g < px_gn g ∧ (∃ mi, va_Mi "[Ljava/lang/Object;" mi U) ∧ ∀ q ∈ px_ncs, va_Nc q.1 q.2 U) ∧ px_gn g ≤ U.heap.size
theorem px_St.move {g : px_G} {s U : State} (h : px_St g s) (hW : s.WarmedH U.vm) (hz : s.heap.size ≤ U.heap.size) (hq : ∀ q : Nat, q < s.heap.size → ¬ px_AA g q → U.heap[q]? = s.heap[q]?) : px_St g U := by
  obtain ⟨h1, h2, h3, h4, ⟨h5, h5'⟩, h6, h7, ⟨h8, h8'⟩, ⟨h9, h9', ⟨mi, h11⟩, h12⟩, h10⟩ := h
  have hlt : ∀ q, q < px_gn g → U.heap[q]? = s.heap[q]? := fun q h => hq q (Nat.lt_of_lt_of_le h h10) (Nat.not_le.mpr h)
  refine ⟨h1.moved hW.alike, (h2.kept hq).moved hW.alike, (h3.kept hq).moved hW.alike, (h4.kept hq).moved hW.alike, ⟨h5, by obtain ⟨cell, e1, e2, e3⟩ := h5'; exact ⟨cell, by rw [hlt _ h5]; exact e1, State.isArrayOf_alike hW.alike e2, e3⟩⟩, fun q hq' => ?_, fun w hw hn => ?_, ⟨h8.moved hW.alike, h8'.moved hW.alike⟩, ⟨(h9.kept (hlt _ h9')).moved hW.alike, h9', ⟨mi, h11.moved hW.alike⟩, fun q hq' => (h12 q hq').moved hW.alike⟩, Nat.le_trans h10 hz⟩
  · obtain ⟨sa, k⟩ := h6 q hq'
    exact ⟨sa, k.warm hW⟩
  · have k := h7 w hw hn
    cases w <;> first | exact k.warmF hW | exact k.warmM hW | exact k.warmC hW | exact k.warmD hW | (simp [px_isN] at hn)
theorem px_St.same {g : px_G} {s U : State} (h : px_St g s) (hv : U.vm = s.vm) (hh : U.heap = s.heap) : px_St g U := by
  refine h.move ?_ (Nat.le_of_eq (by rw [hh])) (fun q _ _ => by rw [hh])
  rw [hv]; exact State.WarmedH.refl s
