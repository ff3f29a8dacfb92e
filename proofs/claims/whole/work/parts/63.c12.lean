/-! ===== end, start ===== -/
def cF5 (a b c : Nat) : Nat → Nat := fun j => if j = 0 then a else if j = 1 then b else if j = 2 then c else 0
theorem cF5_0 (a b c : Nat) : cF5 a b c 0 = a := rfl
theorem cF5_1 (a b c : Nat) : cF5 a b c 1 = b := rfl
theorem cF5_2 (a b c : Nat) : cF5 a b c 2 = c := rfl
theorem cF5_3 (a b c : Nat) : cF5 a b c 3 = 0 := rfl
theorem px_flt {f f' : Nat → Nat} {n p q : Nat} (h : ∀ e, e < n → f' e = f e) (hn : f' n = q) : (List.range (n + 1)).filter (fun e => f' e == p) = (List.range n).filter (fun e => f e == p) ++ (if q = p then [n] else []) := by
  rw [List.range_succ, List.filter_append]
  congr 1
  · refine List.filter_congr fun e he => ?_
    rw [h e (List.mem_range.mp he)]
  · by_cases e : q = p
    · rw [if_pos e]; simp [hn, e]
    · rw [if_neg e]; simp [hn, e]
theorem c3_app (L : List Nat) (n : Nat) : c3 (L ++ [n]) = c3 L ++ [(3, n)] := List.map_append
def nx1_end (s : mm_S) (p : Nat) (d : Int) : mm_S := mm_I (mm_A (mm_D (mm_A s 10 (s.1 13) p) 11 (s.1 13) d) 12 (s.1 13) 0) 13 (s.1 13 + 1)
def cu_end (s : mm_S) (u : cc_U) (p : Nat) (d : Int) : cc_U := cL (cN (cL (cNew u 3 (300 + s.1 13) (cF5 (s.1 13) p 61) (fun _ => 0 - d)) 13 p (c3 (cEn s p ++ [300 + s.1 13] ++ cAr s p))) 2 p 1 ((cEn s p).length + 1)) 14 4 (cl u 14 4 ++ [(3, 300 + s.1 13)])
theorem cRl.end_ {s : mm_S} {u : cc_U} {O : List Nat} (hR : cRl s u O) (ok : mm_ok s) {p : Nat} {d : Int} (hp : p < s.1 1) : cRl (nx1_end s p d) (cu_end s u p d) O := by
  obtain ⟨hA, hB, hC, hD, hE, hF, hG, hH⟩ := id hR
  have hbd := ok.h1
  have q1 : ∀ k, k ≠ 13 → (nx1_end s p d).1 k = s.1 k := fun k hk => if_neg hk
  have q13 : (nx1_end s p d).1 13 = s.1 13 + 1 := mr_Ie
  have q2 : ∀ k i, k ≠ 10 → k ≠ 12 → (nx1_end s p d).2.1 k i = s.2.1 k i := fun k i h1 h2 => by
    show (mm_A (mm_D (mm_A s 10 (s.1 13) p) 11 (s.1 13) d) 12 (s.1 13) 0).2.1 k i = _
    rw [mr_An h2]; show (mm_A s 10 (s.1 13) p).2.1 k i = _; rw [mr_An h1]
  have q10 : ∀ i, (nx1_end s p d).2.1 10 i = if i = s.1 13 then p else s.2.1 10 i := fun i => by
    show (mm_A (mm_D (mm_A s 10 (s.1 13) p) 11 (s.1 13) d) 12 (s.1 13) 0).2.1 10 i = _
    rw [mr_An (by decide)]; exact congrFun (mr_A0 s 10 (s.1 13) p) i
  have q12 : ∀ i, (nx1_end s p d).2.1 12 i = if i = s.1 13 then 0 else s.2.1 12 i := fun i => by
    refine (congrFun (mr_A0 (mm_D (mm_A s 10 (s.1 13) p) 11 (s.1 13) d) 12 (s.1 13) 0) i).trans ?_
    unfold px_upN
    split
    · rfl
    · show (mm_A s 10 (s.1 13) p).2.1 12 i = _; rw [mr_An (by decide)]
  have q3 : ∀ k i, k ≠ 11 → (nx1_end s p d).2.2 k i = s.2.2 k i := fun k i h1 => congrFun (if_neg h1) i
  have q11 : ∀ i, (nx1_end s p d).2.2 11 i = if i = s.1 13 then d else s.2.2 11 i := fun i => congrFun (mr_D0 (mm_A s 10 (s.1 13) p) 11 (s.1 13) d) i
  generalize nx1_end s p d = s1 at q1 q13 q2 q10 q12 q3 q11
  have x : ∀ k i, cx (cu_end s u p d) k i ↔ (k = 3 ∧ i = 300 + s.1 13) ∨ cx u k i := fun k i => by unfold cu_end; rw [cxL, cxN, cxL, cxW]
  have r : ∀ k i j, ¬ (k = 3 ∧ i = 300 + s.1 13) → ¬ (k = 2 ∧ i = p ∧ j = 1) → cn (cu_end s u p d) k i j = cn u k i j := fun k i j h1 h2 => by unfold cu_end; rw [cnL, cnN, if_neg h2, cnL, cnW, if_neg h1]
  have r0 : ∀ j, cn (cu_end s u p d) 3 (300 + s.1 13) j = cF5 (s.1 13) p 61 j := fun j => by unfold cu_end; rw [cnL, cnN, if_neg (by omega), cnL, cnW, if_pos ⟨rfl, rfl⟩]
  have r1 : cn (cu_end s u p d) 2 p 1 = (cEn s p).length + 1 := by unfold cu_end; rw [cnL, cnN, if_pos ⟨rfl, rfl, rfl⟩]
  have z : ∀ k i j, ¬ (k = 3 ∧ i = 300 + s.1 13) → cz (cu_end s u p d) k i j = cz u k i j := fun k i j h1 => by unfold cu_end; rw [czL, czN, czL, czW, if_neg h1]
  have z0 : ∀ j, cz (cu_end s u p d) 3 (300 + s.1 13) j = 0 - d := fun j => by unfold cu_end; rw [czL, czN, czL, czW, if_pos ⟨rfl, rfl⟩]
  have y : ∀ k i j, k ≠ 3 → cs (cu_end s u p d) k i j = cs u k i j := fun k i j h1 => by unfold cu_end; rw [csL, csN, csL, csW _ _ _ _ _ _ _ _ h1]
  have l : ∀ k i, k ≠ 3 → ¬ (k = 13 ∧ i = p) → ¬ (k = 14 ∧ i = 4) → cl (cu_end s u p d) k i = cl u k i := fun k i h1 h2 h3 => by unfold cu_end; rw [clL, if_neg h3, clN, clL, if_neg h2, clW _ _ _ _ _ _ _ h1]
  have l13 : cl (cu_end s u p d) 13 p = c3 (cEn s p ++ [300 + s.1 13] ++ cAr s p) := by unfold cu_end; rw [clL, if_neg (by omega), clN, clL, if_pos ⟨rfl, rfl⟩]
  have l4 : cl (cu_end s u p d) 14 4 = cl u 14 4 ++ [(3, 300 + s.1 13)] := by unfold cu_end; rw [clL, if_pos ⟨rfl, rfl⟩]
  generalize cu_end s u p d = W at x r r0 r1 z z0 y l l13 l4
  have r3 : ∀ i j, i ≠ 300 + s.1 13 → cn W 3 i j = cn u 3 i j := fun i j h1 => r 3 i j (by omega) (by omega)
  have r2 : ∀ i j, j ≠ 1 → cn W 2 i j = cn u 2 i j := fun i j h1 => r 2 i j (by omega) (by omega)
  have hst : cSt s1 = cSt s := by unfold cSt; rw [q1 9 (by decide)]
  have har : ∀ q, cAr s1 q = cAr s q := fun q => by unfold cAr; simp only [q1 6 (by decide), q2 3 _ (by decide) (by decide)]
  have hen : ∀ q, cEn s1 q = cEn s q ++ (if p = q then [300 + s.1 13] else []) := fun q => by
    unfold cEn
    rw [q13, px_flt (f := s.2.1 10) (q := p) (fun e he => by rw [q10, if_neg (by omega)]) (by rw [q10, if_pos rfl]), List.map_append]
    congr 1
    split <;> rfl
  have hStp : ∀ n, cStp s1 n ↔ n = 300 + s.1 13 ∨ cStp s n := fun n => by
    unfold cStp; rw [q1 6 (by decide), q1 9 (by decide), q13]; omega
  refine ⟨?_, ?_, ?_, ?_, ?_, ?_, ?_, ?_⟩
  · obtain ⟨a1, a2, a3, a4, a5, a6⟩ := hA
    refine ⟨fun i hi => (x 14 i).mpr (Or.inr (a1 i hi)), ?_, ?_, ?_, ?_, ?_⟩
    · rw [l 14 1 (by decide) (by omega) (by omega), q1 1 (by decide)]; exact a2
    · rw [l 14 2 (by decide) (by omega) (by omega), q1 6 (by decide)]; exact a3
    · rw [l 14 3 (by decide) (by omega) (by omega), hst]; exact a4
    · rw [l4, q13, a5, List.range_succ, List.map_append]; exact (c3_app _ _).symm
    · rw [l 14 6 (by decide) (by omega) (by omega)]; exact a6
  · unfold cRB; simp only [r2 _ 0 (by decide), q1 1 (by decide), q1 6 (by decide), q2 3 _ (by decide) (by decide), q2 4 _ (by decide) (by decide)]; exact hB
  · refine ⟨fun q hq => ?_, fun q hq k hk => ?_, fun q hq => ?_, ?_⟩
    · have hq' : cPx s q := by unfold cPx at hq ⊢; rw [q1 1 (by decide)] at hq; exact hq
      obtain ⟨a1, a2, a3, a4, a5, a6, a7, a8, a9⟩ := hC.1 q hq'
      exact ⟨(x _ _).mpr (Or.inr a1), (x _ _).mpr (Or.inr a2), (x _ _).mpr (Or.inr a3), (x _ _).mpr (Or.inr a4), (x _ _).mpr (Or.inr a5), (x _ _).mpr (Or.inr a6), (x _ _).mpr (Or.inr a7), (x _ _).mpr (Or.inr a8), by rw [r 7 q 0 (by omega) (by omega)]; exact a9⟩
    · have hq' : ¬ cPx s q := by unfold cPx at hq ⊢; rw [q1 1 (by decide)] at hq; exact hq
      rw [x]
      rintro (h9 | h9)
      · omega
      · exact hC.2.1 q hq' k hk h9
    · rw [r2 q 2 (by decide), q2 2 q (by decide) (by decide)]; exact hC.2.2.1 q (by rw [q1 1 (by decide)] at hq; exact hq)
    · simp only [r2 _ 2 (by decide), r2 _ 0 (by decide)]; exact hC.2.2.2
  · refine ⟨fun n => ?_, fun a ha => ?_, fun i hi => ?_, fun e he => ?_⟩
    · rw [x, hStp, hD.1 n]
      constructor
      · rintro (h9 | h9)
        · exact Or.inl h9.2
        · exact Or.inr h9
      · rintro (h9 | h9)
        · exact Or.inl ⟨rfl, h9⟩
        · exact Or.inr h9
    · rw [q1 6 (by decide)] at ha
      simp only [r3 a _ (by omega), z 3 a _ (by omega), q2 3 _ (by decide) (by decide), q2 4 _ (by decide) (by decide), q3 5 _ (by decide)]
      exact hD.2.1 a ha
    · rw [q1 9 (by decide)] at hi
      simp only [r3 (200 + i) _ (by omega), z 3 (200 + i) _ (by omega), q2 7 _ (by decide) (by decide), q3 8 _ (by decide)]
      exact hD.2.2.1 i hi
    · rw [q13] at he
      rw [q10, q11, q12]
      by_cases e9 : e = s.1 13
      · subst e9
        simp only [r0, z0, if_true]
        exact ⟨rfl, rfl, rfl, trivial, rfl⟩
      · simp only [r3 (300 + e) _ (by omega), z 3 (300 + e) _ (by omega), if_neg e9]
        exact hD.2.2.2 e (by omega)
  · refine ⟨fun q hq => ?_, ?_, fun q hq => ?_⟩
    · rw [q1 1 (by decide)] at hq
      obtain ⟨e1, e2⟩ := hE.1 q hq
      unfold cOL at e1 ⊢
      rw [if_neg (by omega)] at e1 ⊢
      rw [har, hen]
      by_cases e9 : p = q
      · subst e9
        rw [if_pos rfl, l13, r1]
        exact ⟨rfl, by rw [List.length_append]; rfl⟩
      · rw [if_neg e9, List.append_nil, l 13 q (by decide) (by omega) (by omega), r 2 q 1 (by omega) (by omega)]
        exact ⟨e1, e2⟩
    · rw [hst, l 13 60 (by decide) (by omega) (by omega)]; exact hE.2.1
    · rw [q1 1 (by decide)] at hq
      obtain ⟨L, e1, e2, e3⟩ := hE.2.2 q hq
      refine ⟨L, by rw [l 12 q (by decide) (by omega) (by omega)]; exact e1, e2, fun n => ?_⟩
      rw [e3]
      unfold cInn
      rw [q1 6 (by decide), q1 9 (by decide), q2 4 _ (by decide) (by decide), q2 7 _ (by decide) (by decide)]
  · refine ⟨fun j hj => ?_, ?_⟩
    · rw [r 14 7 j (by omega) (by omega), q2 14 j (by decide) (by decide)]; exact hF.1 j hj
    · rw [r 14 0 0 (by omega) (by omega), q1 25 (by decide)]; exact hF.2
  · obtain ⟨C, c1, c2, c3, K, c4⟩ := hG
    refine ⟨C, by rw [l 14 5 (by decide) (by omega) (by omega)]; exact c1, by rw [q1 17 (by decide)]; exact c2, fun i n hn => ?_, K, fun n hn => ?_⟩
    · rw [x, r 6 n 0 (by omega) (by omega), z 6 n 0 (by omega), q2 15 i (by decide) (by decide), q3 16 i (by decide)]
      obtain ⟨d1, d2, d3⟩ := c3 i n hn
      exact ⟨Or.inr d1, d2, d3⟩
    · rw [x]
      rintro (h9 | h9)
      · omega
      · exact c4 n hn h9
  · obtain ⟨a1, a2, a3, a4, a5⟩ := hH
    refine ⟨fun q => by rw [z 2 q 0 (by omega)]; exact a1 q, fun q j r9 h9 => ?_, fun q j => by rw [r 10 q j (by omega) (by omega)]; exact a3 q j, by rw [r 7 61 0 (by omega) (by omega)]; exact a4, by rw [z 8 61 0 (by omega)]; exact a5.1, by rw [y 9 61 0 (by omega)]; exact a5.2⟩
    rw [y 9 q j (by decide)] at h9
    obtain ⟨n, g1, g2⟩ := a2 q j r9 h9
    exact ⟨n, g1, (hStp n).mpr (Or.inr g2)⟩
def nx1_start (s : mm_S) (p : Nat) (d : Int) : mm_S := mm_I (mm_D (mm_A s 7 (s.1 9) p) 8 (s.1 9) d) 9 (s.1 9 + 1)
def cu_start (s : mm_S) (u : cc_U) (p : Nat) (d : Int) : cc_U := cL (cL (cL (cNew u 3 (200 + s.1 9) (cF5 (s.1 9) 60 p) (fun _ => d)) 13 60 (cl u 13 60 ++ [(3, 200 + s.1 9)])) 12 p (cl u 12 p ++ [(3, 200 + s.1 9)])) 14 3 (cl u 14 3 ++ [(3, 200 + s.1 9)])
theorem cRl.start_ {s : mm_S} {u : cc_U} {O : List Nat} (hR : cRl s u O) (ok : mm_ok s) {p : Nat} {d : Int} (hp : p < s.1 1) (hn : s.1 9 < 30) : cRl (nx1_start s p d) (cu_start s u p d) O := by
  obtain ⟨hA, hB, hC, hD, hE, hF, hG, hH⟩ := id hR
  have hbd := ok.h1
  have q1 : ∀ k, k ≠ 9 → (nx1_start s p d).1 k = s.1 k := fun k hk => if_neg hk
  have q9 : (nx1_start s p d).1 9 = s.1 9 + 1 := mr_Ie
  have q2 : ∀ k i, k ≠ 7 → (nx1_start s p d).2.1 k i = s.2.1 k i := fun k i h1 => congrFun (if_neg h1) i
  have q7 : ∀ i, (nx1_start s p d).2.1 7 i = if i = s.1 9 then p else s.2.1 7 i := fun i => congrFun (mr_A0 s 7 (s.1 9) p) i
  have q3 : ∀ k i, k ≠ 8 → (nx1_start s p d).2.2 k i = s.2.2 k i := fun k i h1 => congrFun (if_neg h1) i
  have q8 : ∀ i, (nx1_start s p d).2.2 8 i = if i = s.1 9 then d else s.2.2 8 i := fun i => congrFun (mr_D0 (mm_A s 7 (s.1 9) p) 8 (s.1 9) d) i
  generalize nx1_start s p d = s1 at q1 q9 q2 q7 q3 q8
  have x : ∀ k i, cx (cu_start s u p d) k i ↔ (k = 3 ∧ i = 200 + s.1 9) ∨ cx u k i := fun k i => by unfold cu_start; rw [cxL, cxL, cxL, cxW]
  have r : ∀ k i j, ¬ (k = 3 ∧ i = 200 + s.1 9) → cn (cu_start s u p d) k i j = cn u k i j := fun k i j h1 => by unfold cu_start; rw [cnL, cnL, cnL, cnW, if_neg h1]
  have r0 : ∀ j, cn (cu_start s u p d) 3 (200 + s.1 9) j = cF5 (s.1 9) 60 p j := fun j => by unfold cu_start; rw [cnL, cnL, cnL, cnW, if_pos ⟨rfl, rfl⟩]
  have z : ∀ k i j, ¬ (k = 3 ∧ i = 200 + s.1 9) → cz (cu_start s u p d) k i j = cz u k i j := fun k i j h1 => by unfold cu_start; rw [czL, czL, czL, czW, if_neg h1]
  have z0 : ∀ j, cz (cu_start s u p d) 3 (200 + s.1 9) j = d := fun j => by unfold cu_start; rw [czL, czL, czL, czW, if_pos ⟨rfl, rfl⟩]
  have y : ∀ k i j, k ≠ 3 → cs (cu_start s u p d) k i j = cs u k i j := fun k i j h1 => by unfold cu_start; rw [csL, csL, csL, csW _ _ _ _ _ _ _ _ h1]
  have l : ∀ k i, k ≠ 3 → ¬ (k = 13 ∧ i = 60) → ¬ (k = 12 ∧ i = p) → ¬ (k = 14 ∧ i = 3) → cl (cu_start s u p d) k i = cl u k i := fun k i h1 h2 h3 h4 => by unfold cu_start; rw [clL, if_neg h4, clL, if_neg h3, clL, if_neg h2, clW _ _ _ _ _ _ _ h1]
  have l13 : cl (cu_start s u p d) 13 60 = cl u 13 60 ++ [(3, 200 + s.1 9)] := by unfold cu_start; rw [clL, if_neg (by omega), clL, if_neg (by omega), clL, if_pos ⟨rfl, rfl⟩]
  have l12 : cl (cu_start s u p d) 12 p = cl u 12 p ++ [(3, 200 + s.1 9)] := by unfold cu_start; rw [clL, if_neg (by omega), clL, if_pos ⟨rfl, rfl⟩]
  have l3 : cl (cu_start s u p d) 14 3 = cl u 14 3 ++ [(3, 200 + s.1 9)] := by unfold cu_start; rw [clL, if_pos ⟨rfl, rfl⟩]
  generalize cu_start s u p d = W at x r r0 z z0 y l l13 l12 l3
  have hst : cSt s1 = cSt s ++ [200 + s.1 9] := by unfold cSt; rw [q9, List.range_succ, List.map_append]; rfl
  have har : ∀ q, cAr s1 q = cAr s q := fun q => by unfold cAr; simp only [q1 6 (by decide), q2 3 _ (by decide)]
  have hen : ∀ q, cEn s1 q = cEn s q := fun q => by unfold cEn; simp only [q1 13 (by decide), q2 10 _ (by decide)]
  have hStp : ∀ n, cStp s1 n ↔ n = 200 + s.1 9 ∨ cStp s n := fun n => by
    unfold cStp; rw [q1 6 (by decide), q9, q1 13 (by decide)]; omega
  refine ⟨?_, ?_, ?_, ?_, ?_, ?_, ?_, ?_⟩
  · obtain ⟨a1, a2, a3, a4, a5, a6⟩ := hA
    refine ⟨fun i hi => (x 14 i).mpr (Or.inr (a1 i hi)), ?_, ?_, ?_, ?_, ?_⟩
    · rw [l 14 1 (by decide) (by omega) (by omega) (by omega), q1 1 (by decide)]; exact a2
    · rw [l 14 2 (by decide) (by omega) (by omega) (by omega), q1 6 (by decide)]; exact a3
    · rw [l3, hst, a4, c3_app]
    · rw [l 14 4 (by decide) (by omega) (by omega) (by omega), q1 13 (by decide)]; exact a5
    · rw [l 14 6 (by decide) (by omega) (by omega) (by omega)]; exact a6
  · unfold cRB; simp only [fun i j => r 2 i j (by omega), q1 1 (by decide), q1 6 (by decide), q2 3 _ (by decide), q2 4 _ (by decide)]; exact hB
  · refine ⟨fun q hq => ?_, fun q hq k hk => ?_, fun q hq => ?_, ?_⟩
    · have hq' : cPx s q := by unfold cPx at hq ⊢; rw [q1 1 (by decide)] at hq; exact hq
      obtain ⟨a1, a2, a3, a4, a5, a6, a7, a8, a9⟩ := hC.1 q hq'
      exact ⟨(x _ _).mpr (Or.inr a1), (x _ _).mpr (Or.inr a2), (x _ _).mpr (Or.inr a3), (x _ _).mpr (Or.inr a4), (x _ _).mpr (Or.inr a5), (x _ _).mpr (Or.inr a6), (x _ _).mpr (Or.inr a7), (x _ _).mpr (Or.inr a8), by rw [r 7 q 0 (by omega)]; exact a9⟩
    · have hq' : ¬ cPx s q := by unfold cPx at hq ⊢; rw [q1 1 (by decide)] at hq; exact hq
      rw [x]
      rintro (h9 | h9)
      · omega
      · exact hC.2.1 q hq' k hk h9
    · rw [r 2 q 2 (by omega), q2 2 q (by decide)]; exact hC.2.2.1 q (by rw [q1 1 (by decide)] at hq; exact hq)
    · simp only [r 2 60 _ (by omega), r 2 61 _ (by omega)]; exact hC.2.2.2
  · refine ⟨fun n => ?_, fun a ha => ?_, fun i hi => ?_, fun e he => ?_⟩
    · rw [x, hStp, hD.1 n]
      constructor
      · rintro (h9 | h9)
        · exact Or.inl h9.2
        · exact Or.inr h9
      · rintro (h9 | h9)
        · exact Or.inl ⟨rfl, h9⟩
        · exact Or.inr h9
    · rw [q1 6 (by decide)] at ha
      simp only [r 3 a _ (by omega), z 3 a _ (by omega), q2 3 _ (by decide), q2 4 _ (by decide), q3 5 _ (by decide)]
      exact hD.2.1 a ha
    · rw [q9] at hi
      rw [q7, q8]
      by_cases e9 : i = s.1 9
      · subst e9
        simp only [r0, z0, if_true]
        exact ⟨rfl, rfl, rfl, trivial⟩
      · simp only [r 3 (200 + i) _ (by omega), z 3 (200 + i) _ (by omega), if_neg e9]
        exact hD.2.2.1 i (by omega)
    · rw [q1 13 (by decide)] at he
      simp only [r 3 (300 + e) _ (by omega), z 3 (300 + e) _ (by omega), q2 10 _ (by decide), q2 12 _ (by decide), q3 11 _ (by decide)]
      exact hD.2.2.2 e he
  · refine ⟨fun q hq => ?_, ?_, fun q hq => ?_⟩
    · rw [q1 1 (by decide)] at hq
      obtain ⟨e1, e2⟩ := hE.1 q hq
      unfold cOL at e1 ⊢
      rw [if_neg (by omega)] at e1 ⊢
      rw [har, hen, l 13 q (by decide) (by omega) (by omega) (by omega), r 2 q 1 (by omega)]
      exact ⟨e1, e2⟩
    · rw [hst, l13, hE.2.1, c3_app]
    · rw [q1 1 (by decide)] at hq
      obtain ⟨L, e1, e2, e3⟩ := hE.2.2 q hq
      have hnn : 200 + s.1 9 ∉ L := fun h9 => by
        have := (e3 _).mp h9
        unfold cInn at this; omega
      by_cases e9 : q = p
      · subst e9
        refine ⟨L ++ [200 + s.1 9], by rw [l12, e1, c3_app], ?_, fun n => ?_⟩
        · exact List.nodup_append.mpr ⟨e2, by simp, fun a ha b hb e => hnn (by rw [List.mem_singleton.mp hb] at e; rw [← e]; exact ha)⟩
        · rw [List.mem_append, e3, List.mem_singleton]
          unfold cInn
          rw [q1 6 (by decide), q9, q2 4 _ (by decide), q7]
          by_cases e8 : n = 200 + s.1 9
          · rw [if_pos (by omega)]; omega
          · by_cases e7 : n - 200 = s.1 9
            · omega
            · rw [if_neg e7]; omega
      · refine ⟨L, by rw [l 12 q (by decide) (by omega) (by omega) (by omega)]; exact e1, e2, fun n => ?_⟩
        rw [e3]
        unfold cInn
        rw [q1 6 (by decide), q9, q2 4 _ (by decide), q7]
        by_cases e7 : n - 200 = s.1 9
        · rw [if_pos e7]; omega
        · rw [if_neg e7]; omega
  · refine ⟨fun j hj => ?_, ?_⟩
    · rw [r 14 7 j (by omega), q2 14 j (by decide)]; exact hF.1 j hj
    · rw [r 14 0 0 (by omega), q1 25 (by decide)]; exact hF.2
  · obtain ⟨C, c1, c2, c3, K, c4⟩ := hG
    refine ⟨C, by rw [l 14 5 (by decide) (by omega) (by omega) (by omega)]; exact c1, by rw [q1 17 (by decide)]; exact c2, fun i n hn => ?_, K, fun n hn => ?_⟩
    · rw [x, r 6 n 0 (by omega), z 6 n 0 (by omega), q2 15 i (by decide), q3 16 i (by decide)]
      obtain ⟨d1, d2, d3⟩ := c3 i n hn
      exact ⟨Or.inr d1, d2, d3⟩
    · rw [x]
      rintro (h9 | h9)
      · omega
      · exact c4 n hn h9
  · obtain ⟨a1, a2, a3, a4, a5⟩ := hH
    refine ⟨fun q => by rw [z 2 q 0 (by omega)]; exact a1 q, fun q j r9 h9 => ?_, fun q j => by rw [r 10 q j (by omega)]; exact a3 q j, by rw [r 7 61 0 (by omega)]; exact a4, by rw [z 8 61 0 (by omega)]; exact a5.1, by rw [y 9 61 0 (by omega)]; exact a5.2⟩
    rw [y 9 q j (by decide)] at h9
    obtain ⟨n, g1, g2⟩ := a2 q j r9 h9
    exact ⟨n, g1, (hStp n).mpr (Or.inr g2)⟩
