/-! ===== a list opened and closed: contracts of the list's methods over worlds that hold lists ===== -/
theorem je_pn {M0 M' : px_M} {r : px_R} {k : Nat} (hf : ∀ x, x ≠ r → x.1 ≠ 99 → M' x = M0 x) {xs : List px_R} {x : px_R} (hx : x ≠ r) (h9 : x.1 ≠ 99) : px_up M0 r (.inr (.inr xs)) x = M' x := (px_up_n _ _ hx).trans (hf x hx h9).symm
/-- the opened list's cells make a list again -/
theorem je_close {E : Nat × Nat} {g : px_G} {ad dd : px_R → Nat} {M0 M' : px_M} {r : px_R} {xs : List px_R} {H : Heap} (hg : px_gE g = E.1) (hE : px_gE g < px_gn g) (h9 : r.1 ≠ 99) (hM9 : ∀ k, M0 (99, k) = none) (hcf : ∀ x o, M0 x = some o → px_cf M0 o) (hr0 : M0 r ≠ none) (hs : je_s E M0 r xs M') (hel : ∀ x ∈ xs, M0 x ≠ none) (hV : px_Vw g ad dd M' H) : ∃ dd' : px_R → Nat, px_Vw g ad dd' (px_up M0 r (.inr (.inr xs))) H := by
  obtain ⟨v1, v2, v3, v4, v5⟩ := id hV
  have n9 : ∀ x, M0 x ≠ none → x.1 ≠ 99 := fun x hx e => by
    obtain ⟨a, b⟩ := x
    have e' : a = 99 := e
    rw [e'] at hx
    exact hx (hM9 b)
  have hup : ∀ x, px_up M0 r (.inr (.inr xs)) x ≠ none → x = r ∨ (x ≠ r ∧ M0 x ≠ none) := fun x hx => by
    by_cases e : x = r
    · exact Or.inl e
    · rw [px_up_n _ _ e] at hx; exact Or.inr ⟨e, hx⟩
  have main : ∀ (R : Nat) (hf : ∀ x, x ≠ r → x.1 ≠ 99 → M' x = M0 x) (hr : M' r ≠ none)
      (hat : ∃ mo : Int32, va_at (px_gD g) px_cl (ad r, .inr (6, [.int mo, .ref R, .int (nI xs.length)])) H ∧ ((R = px_gE g ∧ xs = []) ∨ (R ≠ px_gE g ∧ ∃ n : Nat, xs.length ≤ n ∧ n ≤ 65536 ∧ va_at (px_gD g) px_cl (R, .inl (px_gA g 5, n, .inr (.inr (.inr (.inr fun i => (xs[i]?).map ad))))) H)))
      (hR : R = px_gE g ∨ ∃ k, M' (99, k) ≠ none ∧ ad (99, k) = R), px_Vw g ad (fun x => if x = r then R else dd x) (px_up M0 r (.inr (.inr xs))) H := by
    intro R hf hr hat hR
    have hown : ∀ x q, px_up M0 r (.inr (.inr xs)) x ≠ none → px_own g ad (fun x => if x = r then R else dd x) (px_up M0 r (.inr (.inr xs))) x q → (∃ y, M' y ≠ none ∧ px_own g ad dd M' y q ∧ (x = r → y = r ∨ y.1 = 99) ∧ (x ≠ r → y = x ∧ y.1 ≠ 99)) := by
      intro x q hx ho
      rcases hup x hx with rfl | ⟨hx1, hx2⟩
      · rcases ho with ho | ⟨h1, h2, -⟩
        · exact ⟨x, hr, Or.inl ho, fun _ => Or.inl rfl, fun e => absurd rfl e⟩
        · simp only [if_true] at h1 h2
          rcases hR with hR | ⟨k, k1, k2⟩
          · exact absurd hR h2
          · exact ⟨(99, k), k1, Or.inl (h1.trans k2.symm), fun _ => Or.inr rfl, fun e => absurd rfl e⟩
      · have e9 := n9 x hx2
        have eM := hf x hx1 e9
        refine ⟨x, by rw [eM]; exact hx2, ?_, fun e => absurd e hx1, fun _ => ⟨rfl, e9⟩⟩
        rcases ho with ho | ⟨h1, h2, ys, h3⟩
        · exact Or.inl ho
        · simp only [if_neg hx1] at h1 h2
          rw [px_up_n _ _ hx1] at h3
          exact Or.inr ⟨h1, h2, ys, by rw [eM]; exact h3⟩
    refine ⟨fun x o hx => ?_, fun x o hx => ?_, fun x q hx ho => ?_, fun x y q hx hy h1 h2 => ?_, fun x ys hx => ?_⟩
    · by_cases e : x = r
      · subst e
        rw [px_up_s] at hx
        rw [← Option.some.inj hx]
        obtain ⟨mo, g1, g2⟩ := hat
        refine ⟨mo, ?_, ?_⟩
        · simp only [if_true]; exact g1
        · simp only [if_true]; exact g2
      · rw [px_up_n _ _ e] at hx
        have e9 := n9 x (by rw [hx]; exact fun z => by cases z)
        have k1 := v1 x o ((hf x e e9).trans hx)
        rcases o with o | a | ys
        · exact k1
        · exact k1
        · obtain ⟨mo, g1, g2⟩ := k1
          exact ⟨mo, by simp only [if_neg e]; exact g1, by simp only [if_neg e]; exact g2⟩
    · by_cases e : x = r
      · subst e
        rw [px_up_s] at hx
        rw [← Option.some.inj hx]
        exact fun y hy => px_up_nn (hel y hy)
      · rw [px_up_n _ _ e] at hx
        exact (hcf x o hx).mono fun _ => px_up_nn
    · obtain ⟨y, y1, y2, -⟩ := hown x q hx ho
      exact v3 y q y1 y2
    · obtain ⟨x', a1, a2, a3, a4⟩ := hown x q hx h1
      obtain ⟨y', b1, b2, b3, b4⟩ := hown y q hy h2
      have e := v4 x' y' q a1 b1 a2 b2
      by_cases ex : x = r <;> by_cases ey : y = r
      · rw [ex, ey]
      · obtain ⟨e1, e2⟩ := b4 ey
        rcases a3 ex with e3 | e3
        · exact absurd (e1.symm.trans (e.symm.trans e3)) ey
        · rw [e] at e3; exact absurd e3 e2
      · obtain ⟨e1, e2⟩ := a4 ex
        rcases b3 ey with e3 | e3
        · exact absurd (e1.symm.trans (e.trans e3)) ex
        · rw [← e] at e3; exact absurd e3 e2
      · exact (a4 ex).1.symm.trans (e.trans (b4 ey).1)
    · by_cases e : x = r
      · subst e
        simp only [if_true]
        rcases hR with hR | ⟨k, k1, k2⟩
        · rw [hR]
          have := v3 x _ hr (Or.inl rfl)
          omega
        · intro z
          rw [← k2] at z
          exact je_r9 h9 (hV.inj hr k1 z)
      · rw [px_up_n _ _ e] at hx
        have e9 := n9 x (by rw [hx]; exact fun z => by cases z)
        simp only [if_neg e]
        exact v5 x ys ((hf x e e9).trans hx)
  rcases hs with ⟨rfl, mo, h1, h2, h3⟩ | ⟨mo, k, n, h1, h2, h3, h4, h5, h6⟩
  · refine ⟨_, main E.1 h2 (by rw [h1]; exact fun z => by cases z) ⟨mo, px_at.obj (v1 r _ h1), Or.inl ⟨hg.symm, rfl⟩⟩ (Or.inl hg.symm)⟩
  · have k1 : M' (99, k) ≠ none := by rw [h2]; exact fun z => by cases z
    have hne : ad (99, k) ≠ px_gE g := by
      have := v3 (99, k) _ k1 (Or.inl rfl)
      omega
    exact ⟨_, main (ad (99, k)) h5 (by rw [h1]; exact fun z => by cases z) ⟨mo, px_at.obj (v1 r _ h1), Or.inr ⟨hne, n, h3, h4, px_at.arr (v1 (99, k) _ h2)⟩⟩ (Or.inr ⟨k, k1, rfl⟩)⟩
/-- what an opened run must end with -/
def je_Q (E : Nat × Nat) (M : px_M) (r : px_R) (Q : px_Q) : px_Q := fun o M' => ∃ xs, je_s E M r xs M' ∧ (∀ x ∈ xs, M x ≠ none) ∧ (∀ w, o = .inl (some w) → px_wf M w) ∧ Q o (px_up M r (.inr (.inr xs)))
theorem je_post {E : Nat × Nat} {g : px_G} {ad ad1 : px_R → Nat} {M M1 : px_M} {r : px_R} {Q : px_Q} {s t : State} {o : Outcome} {a : Array Value} (hg : px_gE g = E.1) (hE : px_gE g < px_gn g) (h9 : r.1 ≠ 99) (hM9 : ∀ k, M (99, k) = none) (hcf : ∀ x o, M x = some o → px_cf M o) (hr0 : M r ≠ none) (hag : ∀ x, M x ≠ none → M1 x ≠ none ∧ ad1 x = ad x)
    (h : px_Qc g (fun x => M1 x ≠ none) ad1 (je_Q E M r Q) a s o t) : px_Qc g (fun x => M x ≠ none) ad Q a s o t := by
  obtain ⟨v, M', ad', dd', e1, ⟨xs, q1, q2, q3, q4⟩, e3, e4, e5, e6⟩ := h
  obtain ⟨dd'', hV⟩ := je_close hg hE h9 hM9 hcf hr0 q1 q2 e4
  refine ⟨v, _, ad', dd'', e1, q4, fun w hw => (q3 w (by rw [hw])).mono fun _ => px_up_nn, hV, fun x hx => ⟨px_up_nn hx, ((e5 x (hag x hx).1).2).trans (hag x hx).2⟩, e6⟩
theorem je_postX {E : Nat × Nat} {g : px_G} {ad ad1 : px_R → Nat} {M M1 : px_M} {r : px_R} {Q : px_Q} {s t : State} {X : String} (hg : px_gE g = E.1) (hE : px_gE g < px_gn g) (h9 : r.1 ≠ 99) (hM9 : ∀ k, M (99, k) = none) (hcf : ∀ x o, M x = some o → px_cf M o) (hr0 : M r ≠ none) (hag : ∀ x, M x ≠ none → M1 x ≠ none ∧ ad1 x = ad x)
    (h : px_XC g (fun x => M1 x ≠ none) ad1 (je_Q E M r Q) X s t) : px_XC g (fun x => M x ≠ none) ad Q X s t := by
  obtain ⟨M', ad', dd', ⟨xs, q1, q2, q3, q4⟩, e4, e5, e6⟩ := h
  obtain ⟨dd'', hV⟩ := je_close hg hE h9 hM9 hcf hr0 q1 q2 e4
  exact ⟨_, ad', dd'', q4, hV, fun x hx => ⟨px_up_nn hx, ((e5 x (hag x hx).1).2).trans (hag x hx).2⟩, e6⟩
/-- a new list's constructor -/
theorem je_openI {Γ : px_Y} {As : List px_V} {M : px_M} {r : px_R} {d mc ms : Nat} {Q : px_Q} (h9 : r.1 ≠ 99) (hM9 : ∀ k, M (99, k) = none) (hr0 : M r ≠ none) (h : ∀ E, pe_Met E d mc ms Γ As M (je_Q E M r Q)) : px_Met d mc ms Γ As M Q := by
  intro l hfl hwf g ad dd p e ha hc hk s m args below hf happ hP hK
  obtain ⟨e0, hSt, hV⟩ := id hP
  obtain ⟨mi, hMi⟩ := hSt.2.2.2.2.2.2.2.2.1.2.2.1
  obtain ⟨n, o, h1, h2, h3, h4⟩ := h (px_gE g, mi) l hfl hwf g ad dd rfl p e ha hc hk s m args below hf happ ⟨e0, hSt, hV, hMi⟩ hK
  refine ⟨n, o, h1, h2, h3, ?_⟩
  rcases h4 with ⟨h4, h5⟩ | ⟨q, e9, E, ce, L, h4, h5⟩
  · exact Or.inl ⟨je_post rfl hSt.2.2.2.2.1.1 h9 hM9 hV.2.1 hr0 (fun x hx => ⟨hx, rfl⟩) h4, h5⟩
  · exact Or.inr ⟨q, e9, E, ce, L, je_postX rfl hSt.2.2.2.2.1.1 h9 hM9 hV.2.1 hr0 (fun x hx => ⟨hx, rfl⟩) h4, h5⟩
theorem je_M1n {M : px_M} {r : px_R} {xs : List px_R} {mo : Int32} {n : Nat} (h9 : r.1 ≠ 99) (hM9 : ∀ k, M (99, k) = none) (h1 : xs.length ≤ n) (h2 : n ≤ 65536) : je_n M r xs mo 0 n (px_up (px_up M (99, 0) (je_ar n fun i => xs[i]?)) r (je_ob mo (.inr (99, 0)) xs.length)) :=
  ⟨px_up_s _ _ _, (px_up_n _ _ (je_r9 h9).symm).trans (px_up_s _ _ _), h1, h2, fun x hx hx9 => by rw [px_up_n _ _ hx, px_up_n _ _ (je_r9 hx9)], fun j hj => by rw [px_up_n _ _ (je_r9 h9).symm, px_up_n _ _ (je_k9 (by omega)), hM9]⟩
theorem je_M1z {E : Nat × Nat} {M : px_M} {r : px_R} {mo : Int32} (h9 : r.1 ≠ 99) (hM9 : ∀ k, M (99, k) = none) : je_z E M r mo (px_up M r (je_ob mo (.inl (.ref E.1)) 0)) :=
  ⟨px_up_s _ _ _, fun x hx hx9 => px_up_n _ _ hx, fun j => (px_up_n _ _ (je_r9 h9).symm).trans (hM9 j)⟩
theorem je_open {Γ : px_Y} {As : List px_V} {M : px_M} {r : px_R} {xs : List px_R} {d mc ms : Nat} {Q : px_Q} (hr : M r = some (.inr (.inr xs))) (h9 : r.1 ≠ 99) (hM9 : ∀ k, M (99, k) = none) (h : ∀ E M1, je_s E M r xs M1 → (∀ x ∈ xs, M x ≠ none) → pe_Met E d mc ms Γ As M1 (je_Q E M r Q)) : px_Met d mc ms Γ As M Q := by
  intro l hfl hwf g ad dd p e ha hc hk s m args below hf happ hP hK
  obtain ⟨e0, hSt, hV⟩ := id hP
  obtain ⟨mi, hMi⟩ := hSt.2.2.2.2.2.2.2.2.1.2.2.1
  have hEn := hSt.2.2.2.2.1.1
  have hr0 : M r ≠ none := by rw [hr]; exact fun z => by cases z
  have n9 : ∀ x, M x ≠ none → x.1 ≠ 99 := fun x hx e => by
    obtain ⟨a, b⟩ := x
    have e' : a = 99 := e
    rw [e'] at hx
    exact hx (hM9 b)
  obtain ⟨v1, v2, v3, v4, v5⟩ := id hV
  refine Classical.byContradiction fun hno => ?_
  have go : ∀ (M1 : px_M) (ad1 : px_R → Nat), je_s (px_gE g, mi) M r xs M1 → px_Vw g ad1 dd M1 s.heap → (∀ x, M x ≠ none → M1 x ≠ none ∧ ad1 x = ad x) → False := fun M1 ad1 hs hV1 hag => by
    obtain ⟨n, o, h1, h2, h3, h4⟩ := h (px_gE g, mi) M1 hs (v2 r _ hr) l hfl (fun v hv => (hwf v hv).mono fun x hx => (hag x hx).1) g ad1 dd rfl p e ha hc hk s m args below hf happ ⟨by rw [e0]; exact congrArg List.toArray (List.map_congr_left fun v hv => (px_v_congr (fun x hx => (hag x hx).2) (hwf v hv)).symm), hSt, hV1, hMi⟩ hK
    refine hno ⟨n, o, h1, h2, h3, ?_⟩
    rcases h4 with ⟨h4, h5⟩ | ⟨q, e9, E, ce, L, h4, h5⟩
    · exact Or.inl ⟨je_post rfl hEn h9 hM9 hV.2.1 hr0 hag h4, h5⟩
    · exact Or.inr ⟨q, e9, E, ce, L, je_postX rfl hEn h9 hM9 hV.2.1 hr0 hag h4, h5⟩
  obtain ⟨mo, g1, g2⟩ := v1 r _ hr
  rcases g2 with ⟨g2, rfl⟩ | ⟨g2, n, k1, k2, k3⟩
  · refine go (px_up M r (je_ob mo (.inl (.ref (px_gE g))) 0)) ad (Or.inl ⟨rfl, mo, je_M1z (E := (px_gE g, mi)) h9 hM9⟩) ?_ (fun x hx => ⟨px_up_nn hx, rfl⟩)
    have hw : ∀ x q, px_up M r (je_ob mo (.inl (.ref (px_gE g))) 0) x ≠ none → px_own g ad dd (px_up M r (je_ob mo (.inl (.ref (px_gE g))) 0)) x q → M x ≠ none ∧ px_own g ad dd M x q := by
      intro x q hx ho
      by_cases ex : x = r
      · subst ex
        refine ⟨hr0, ?_⟩
        rcases ho with ho | ⟨-, -, ys, h3⟩
        · exact Or.inl ho
        · rw [px_up_s] at h3; cases h3
      · rw [px_up_n _ _ ex] at hx
        refine ⟨hx, ?_⟩
        rcases ho with ho | ⟨h1, h2, ys, h3⟩
        · exact Or.inl ho
        · rw [px_up_n _ _ ex] at h3; exact Or.inr ⟨h1, h2, ys, h3⟩
    refine ⟨fun x o hx => ?_, fun x o hx => ?_, fun x q hx ho => v3 x q (hw x q hx ho).1 (hw x q hx ho).2, fun x y q hx hy h1 h2 => v4 x y q (hw x q hx h1).1 (hw y q hy h2).1 (hw x q hx h1).2 (hw y q hy h2).2, fun x ys hx => ?_⟩
    · by_cases ex : x = r
      · subst ex
        rw [px_up_s] at hx
        rw [← Option.some.inj hx]
        rw [g2] at g1
        exact g1
      · rw [px_up_n _ _ ex] at hx; exact v1 x o hx
    · by_cases ex : x = r
      · subst ex
        rw [px_up_s] at hx
        rw [← Option.some.inj hx]
        intro v hv
        simp only [List.mem_cons, List.not_mem_nil, or_false] at hv
        rcases hv with rfl | rfl | rfl <;> trivial
      · rw [px_up_n _ _ ex] at hx; exact (v2 x o hx).mono fun _ => px_up_nn
    · by_cases ex : x = r
      · subst ex; rw [px_up_s] at hx; cases hx
      · rw [px_up_n _ _ ex] at hx; exact v5 x ys hx
  · have hag : ∀ x, M x ≠ none → px_ua ad (99, 0) (dd r) x = ad x := fun x hx => if_neg (fun (e : x = (99, 0)) => n9 x hx (congrArg Prod.fst e))
    have ha9 : px_ua ad (99, 0) (dd r) (99, 0) = dd r := if_pos rfl
    refine go (px_up (px_up M (99, 0) (je_ar n fun i => xs[i]?)) r (je_ob mo (.inr (99, 0)) xs.length)) (px_ua ad (99, 0) (dd r)) (Or.inr ⟨mo, 0, n, je_M1n h9 hM9 k1 k2⟩) ?_ (fun x hx => ⟨px_up_nn (px_up_nn hx), hag x hx⟩)
    have hM1 : ∀ x, x ≠ r → x ≠ (99, 0) → px_up (px_up M (99, 0) (je_ar n fun i => xs[i]?)) r (je_ob mo (.inr (99, 0)) xs.length) x = M x := fun x h1 h2 => by rw [px_up_n _ _ h1, px_up_n _ _ h2]
    have hM1r : px_up (px_up M (99, 0) (je_ar n fun i => xs[i]?)) r (je_ob mo (.inr (99, 0)) xs.length) r = some (je_ob mo (.inr (99, 0)) xs.length) := px_up_s _ _ _
    have hM19 : px_up (px_up M (99, 0) (je_ar n fun i => xs[i]?)) r (je_ob mo (.inr (99, 0)) xs.length) (99, 0) = some (je_ar n fun i => xs[i]?) := (px_up_n _ _ (je_r9 h9).symm).trans (px_up_s _ _ _)
    generalize px_up (px_up M (99, 0) (je_ar n fun i => xs[i]?)) r (je_ob mo (.inr (99, 0)) xs.length) = M1 at hM1 hM1r hM19
    have hnn : ∀ x, M x ≠ none → M1 x ≠ none := fun x hx => by
      by_cases e1 : x = r
      · rw [e1, hM1r]; exact fun z => by cases z
      · by_cases e2 : x = (99, 0)
        · rw [e2, hM19]; exact fun z => by cases z
        · rw [hM1 x e1 e2]; exact hx
    have hw : ∀ x q, M1 x ≠ none → px_own g (px_ua ad (99, 0) (dd r)) dd M1 x q → (x = (99, 0) ∧ q = dd r) ∨ (x = r ∧ q = ad r) ∨ (x ≠ r ∧ x ≠ (99, 0) ∧ M x ≠ none ∧ px_own g ad dd M x q) := by
      intro x q hx ho
      by_cases e1 : x = r
      · subst e1
        rcases ho with ho | ⟨-, -, ys, h3⟩
        · exact Or.inr (Or.inl ⟨rfl, ho.trans (hag x hr0)⟩)
        · rw [hM1r] at h3; cases h3
      · by_cases e2 : x = (99, 0)
        · subst e2
          rcases ho with ho | ⟨-, -, ys, h3⟩
          · exact Or.inl ⟨rfl, ho.trans ha9⟩
          · rw [hM19] at h3; cases h3
        · rw [hM1 x e1 e2] at hx
          refine Or.inr (Or.inr ⟨e1, e2, hx, ?_⟩)
          rcases ho with ho | ⟨h1, h2, ys, h3⟩
          · exact Or.inl (ho.trans (hag x hx))
          · rw [hM1 x e1 e2] at h3; exact Or.inr ⟨h1, h2, ys, h3⟩
    have ownr : px_own g ad dd M r (dd r) := Or.inr ⟨rfl, g2, xs, hr⟩
    refine ⟨fun x o hx => ?_, fun x o hx => ?_, fun x q hx ho => ?_, fun x y q hx hy h1 h2 => ?_, fun x ys hx => ?_⟩
    · by_cases e1 : x = r
      · subst e1
        rw [hM1r] at hx
        rw [← Option.some.inj hx]
        show va_at (px_gD g) px_cl (px_ua ad (99, 0) (dd x) x, .inr (6, [.int mo, .ref (px_ua ad (99, 0) (dd x) (99, 0)), .int (nI xs.length)])) s.heap
        rw [hag x hr0, ha9]
        exact g1
      · by_cases e2 : x = (99, 0)
        · subst e2
          rw [hM19] at hx
          rw [← Option.some.inj hx]
          show va_at (px_gD g) px_cl (px_ua ad (99, 0) (dd r) (99, 0), .inl (px_gA g 5, n, .inr (.inr (.inr (.inr fun i => (xs[i]?).map (px_ua ad (99, 0) (dd r))))))) s.heap
          rw [ha9]
          have e : (fun i : Nat => (xs[i]?).map (px_ua ad (99, 0) (dd r))) = fun i : Nat => (xs[i]?).map ad := by
            funext i
            cases e : xs[i]? with
            | none => rfl
            | some y => exact congrArg some (hag y (v2 r _ hr y (List.mem_of_getElem? e)))
          rw [e]
          exact k3
        · rw [hM1 x e1 e2] at hx
          exact px_at.kept hx (v1 x o hx) (v2 x o hx) (fun y hy => ⟨hag y hy, rfl⟩) (fun _ _ => rfl)
    · by_cases e1 : x = r
      · subst e1
        rw [hM1r] at hx
        rw [← Option.some.inj hx]
        intro v hv
        simp only [List.mem_cons, List.not_mem_nil, or_false] at hv
        rcases hv with rfl | rfl | rfl
        · trivial
        · show M1 (99, 0) ≠ none
          rw [hM19]; exact fun z => by cases z
        · trivial
      · by_cases e2 : x = (99, 0)
        · subst e2
          rw [hM19] at hx
          rw [← Option.some.inj hx]
          exact fun i y hy => hnn y (v2 r _ hr y (List.mem_of_getElem? hy))
        · rw [hM1 x e1 e2] at hx
          exact (v2 x o hx).mono hnn
    · rcases hw x q hx ho with ⟨-, rfl⟩ | ⟨-, rfl⟩ | ⟨-, -, h3, h4⟩
      · exact v3 r _ hr0 ownr
      · exact v3 r _ hr0 (Or.inl rfl)
      · exact v3 x q h3 h4
    · have hne := v5 r xs hr
      rcases hw x q hx h1 with ⟨rfl, a2⟩ | ⟨rfl, a2⟩ | ⟨a1, a2, a3, a4⟩ <;> rcases hw y q hy h2 with ⟨rfl, b2⟩ | ⟨rfl, b2⟩ | ⟨b1, b2, b3, b4⟩
      · rfl
      · exact absurd (b2.symm.trans a2) hne
      · rw [a2] at b4; exact absurd (v4 y r _ b3 hr0 b4 ownr) b1
      · exact absurd (a2.symm.trans b2) hne
      · rfl
      · rw [a2] at b4; exact absurd (v4 y x _ b3 hr0 b4 (Or.inl rfl)) b1
      · rw [b2] at a4; exact absurd (v4 x r _ a3 hr0 a4 ownr) a1
      · rw [b2] at a4; exact absurd (v4 x y _ a3 hr0 a4 (Or.inl rfl)) a1
      · exact v4 x y q a3 b3 a4 b4
    · by_cases e1 : x = r
      · subst e1; rw [hM1r] at hx; cases hx
      · by_cases e2 : x = (99, 0)
        · subst e2; rw [hM19] at hx; cases hx
        · rw [hM1 x e1 e2] at hx
          rw [hag x (by rw [hx]; exact fun z => by cases z)]
          exact v5 x ys hx
