/-! ===== whatIf, back ===== -/
theorem cRl.unl {s : mm_S} {u : cc_U} {O : List Nat} (hR : cRl s u O) : cRl (mm_I s 25 0) (cN u 14 0 0 0) O := by
  obtain ⟨hA, hB, hC, hD, hE, hF, hG, hH⟩ := id hR
  have q1 : ∀ k, k ≠ 25 → (mm_I s 25 0).1 k = s.1 k := fun k hk => if_neg hk
  have q2 : ∀ k i, (mm_I s 25 0).2.1 k i = s.2.1 k i := fun k i => rfl
  have q3 : ∀ k i, (mm_I s 25 0).2.2 k i = s.2.2 k i := fun k i => rfl
  have r : ∀ k i j', k ≠ 14 → cn (cN u 14 0 0 0) k i j' = cn u k i j' := fun k i j' h2 => by rw [cnN, if_neg (fun z => h2 z.1)]
  refine ⟨?_, ?_, ?_, ?_, ?_, ?_, ?_, ?_⟩
  · unfold cRA cSt; simp only [cxN, clN, q1 _ (show 1 ≠ 25 by decide), q1 _ (show 6 ≠ 25 by decide), q1 _ (show 9 ≠ 25 by decide), q1 _ (show 13 ≠ 25 by decide)]; exact hA
  · unfold cRB; simp only [r 2 _ _ (by decide), q1 _ (show 1 ≠ 25 by decide), q1 _ (show 6 ≠ 25 by decide), q2]; exact hB
  · unfold cRC cPn cPx; simp only [r 2 _ _ (by decide), r 7 _ _ (by decide), cxN, q1 _ (show 1 ≠ 25 by decide), q2]; exact hC
  · unfold cRD cStp; simp only [r 3 _ _ (by decide), cxN, czN, q1 _ (show 6 ≠ 25 by decide), q1 _ (show 9 ≠ 25 by decide), q1 _ (show 13 ≠ 25 by decide), q2, q3]; exact hD
  · unfold cRE cOL cSt cEn cAr cInn; simp only [r 2 _ _ (by decide), clN, q1 _ (show 1 ≠ 25 by decide), q1 _ (show 6 ≠ 25 by decide), q1 _ (show 9 ≠ 25 by decide), q1 _ (show 13 ≠ 25 by decide), q2]; exact hE
  · refine ⟨fun i hi => ?_, ?_⟩
    · rw [cnN, if_neg (by omega)]; exact hF.1 i hi
    · rw [cnN, if_pos ⟨rfl, rfl, rfl⟩]; rfl
  · unfold cRG; simp only [r 6 _ _ (by decide), clN, cxN, czN, q1 _ (show 17 ≠ 25 by decide), q2, q3]; exact hG
  · unfold cRH cStp; simp only [r 7 _ _ (by decide), r 10 _ _ (by decide), csN, czN, q1 _ (show 6 ≠ 25 by decide), q1 _ (show 9 ≠ 25 by decide), q1 _ (show 13 ≠ 25 by decide)]; exact hH
theorem cRl.cost {s : mm_S} {u : cc_U} {O : List Nat} (hR : cRl s u O) {a : Nat} (ha : a < s.1 6) (h150 : s.1 6 ≤ 150) (d : Int) : cRl (mm_D s 5 a d) (cZ u 3 a 0 d) O := by
  obtain ⟨hA, hB, hC, hD, hE, hF, hG, hH⟩ := id hR
  have q3 : ∀ k i, k ≠ 5 → (mm_D s 5 a d).2.2 k i = s.2.2 k i := fun k i hk => congrFun (if_neg hk) i
  have r : ∀ k i j', k ≠ 3 → cz (cZ u 3 a 0 d) k i j' = cz u k i j' := fun k i j' h2 => by rw [czZ, if_neg (fun z => h2 z.1)]
  refine ⟨?_, ?_, ?_, ?_, ?_, ?_, ?_, ?_⟩
  · unfold cRA cSt; simp only [cxZ, clZ, mr_D1]; exact hA
  · unfold cRB; simp only [cnZ, mr_D1, mr_D2]; exact hB
  · unfold cRC cPn cPx; simp only [cnZ, cxZ, mr_D1, mr_D2]; exact hC
  · refine ⟨?_, fun i hi => ?_, fun i hi => ?_, fun i hi => ?_⟩
    · unfold cStp; simp only [cxZ, mr_D1]; exact hD.1
    · obtain ⟨d1, d2, d3, d4⟩ := hD.2.1 i hi
      simp only [cnZ, mr_D2]
      refine ⟨d1, d2, d3, ?_⟩
      rw [czZ]
      by_cases e9 : i = a
      · subst e9; rw [if_pos ⟨rfl, rfl, rfl⟩, mr_De]
      · rw [if_neg (by omega), mr_Dj e9]; exact d4
    · obtain ⟨d1, d2, d3, d4⟩ := hD.2.2.1 i hi
      simp only [cnZ, mr_D2]
      refine ⟨d1, d2, d3, ?_⟩
      rw [czZ, if_neg (by omega), q3 8 i (by decide)]; exact d4
    · obtain ⟨d1, d2, d3, d4, d5⟩ := hD.2.2.2 i hi
      simp only [cnZ, mr_D2]
      refine ⟨d1, d2, d3, ?_, d5⟩
      rw [czZ, if_neg (by omega), q3 11 i (by decide)]; exact d4
  · unfold cRE cOL cSt cEn cAr cInn; simp only [cnZ, clZ, mr_D1, mr_D2]; exact hE
  · unfold cRF; simp only [cnZ, mr_D1, mr_D2]; exact hF
  · unfold cRG; simp only [cnZ, r 6 _ _ (by decide), clZ, cxZ, mr_D1, mr_D2, q3 16 _ (by decide)]; exact hG
  · unfold cRH cStp; simp only [cnZ, r 2 _ _ (by decide), r 8 _ _ (by decide), csZ, mr_D1]; exact hH
/-- the class's world with an object more -/
def cNew (u : cc_U) (k0 i0 : Nat) (f : Nat → Nat) (z : Nat → Int) : cc_U := cc_set u k0 i0 (f, z, (fun _ => none), [], 1)
section CNW
variable (u : cc_U) (k0 i0 : Nat) (f : Nat → Nat) (z : Nat → Int) (k i j : Nat)
theorem cnW : cn (cNew u k0 i0 f z) k i j = if k = k0 ∧ i = i0 then f j else cn u k i j := by
  unfold cn cNew cc_set
  split <;> rfl
theorem czW : cz (cNew u k0 i0 f z) k i j = if k = k0 ∧ i = i0 then z j else cz u k i j := by
  unfold cz cNew cc_set
  split <;> rfl
theorem csW (h : k ≠ k0) : cs (cNew u k0 i0 f z) k i j = cs u k i j := by
  unfold cs cNew cc_set
  rw [if_neg (fun z => h z.1)]
theorem clW (h : k ≠ k0) : cl (cNew u k0 i0 f z) k i = cl u k i := by
  unfold cl cNew cc_set
  rw [if_neg (fun z => h z.1)]
theorem cxW : cx (cNew u k0 i0 f z) k i ↔ (k = k0 ∧ i = i0) ∨ cx u k i := by
  unfold cx cNew cc_set
  split
  · rename_i h; exact ⟨fun _ => Or.inl h, fun _ => Nat.one_ne_zero⟩
  · rename_i h; exact ⟨Or.inr, fun y => y.resolve_left h⟩
end CNW
theorem cRl.chg {s : mm_S} {u : cc_U} {O : List Nat} (hR : cRl s u O) {K a : Nat} {z : Int} (hK : ∀ n, K ≤ n → ¬ cx u 6 n) : cRl (mm_I (mm_D (mm_A s 15 (s.1 17) a) 16 (s.1 17) z) 17 (s.1 17 + 1)) (cL (cNew u 6 K (fun _ => a) (fun _ => z)) 14 5 (cl u 14 5 ++ [(6, K)])) O := by
  obtain ⟨hA, hB, hC, hD, hE, hF, hG, hH⟩ := id hR
  have q1 : ∀ k, k ≠ 17 → (mm_I (mm_D (mm_A s 15 (s.1 17) a) 16 (s.1 17) z) 17 (s.1 17 + 1)).1 k = s.1 k := fun k hk => if_neg hk
  have q2 : ∀ k i, k ≠ 15 → (mm_I (mm_D (mm_A s 15 (s.1 17) a) 16 (s.1 17) z) 17 (s.1 17 + 1)).2.1 k i = s.2.1 k i := fun k i hk => congrFun (if_neg hk) i
  have q3 : ∀ k i, k ≠ 16 → (mm_I (mm_D (mm_A s 15 (s.1 17) a) 16 (s.1 17) z) 17 (s.1 17 + 1)).2.2 k i = s.2.2 k i := fun k i hk => congrFun (if_neg hk) i
  generalize hW : cL (cNew u 6 K (fun _ => a) (fun _ => z)) 14 5 (cl u 14 5 ++ [(6, K)]) = W
  have x1 : ∀ k i, k ≠ 6 → (cx W k i ↔ cx u k i) := fun k i hk => by rw [← hW, cxL, cxW]; exact ⟨fun y => y.resolve_left (fun y => hk y.1), Or.inr⟩
  have l1 : ∀ k i, k ≠ 6 → ¬ (k = 14 ∧ i = 5) → cl W k i = cl u k i := fun k i hk hi => by rw [← hW, clL, if_neg hi, clW _ _ _ _ _ _ _ hk]
  have l13 : ∀ i, cl W 13 i = cl u 13 i := fun i => l1 13 i (by decide) (by omega)
  have l12 : ∀ i, cl W 12 i = cl u 12 i := fun i => l1 12 i (by decide) (by omega)
  have r : ∀ k i j', k ≠ 6 → cn W k i j' = cn u k i j' := fun k i j' hk => by rw [← hW, cnL, cnW, if_neg (fun y => hk y.1)]
  have rz : ∀ k i j', k ≠ 6 → cz W k i j' = cz u k i j' := fun k i j' hk => by rw [← hW, czL, czW, if_neg (fun y => hk y.1)]
  have rs : ∀ k i j', k ≠ 6 → cs W k i j' = cs u k i j' := fun k i j' hk => by rw [← hW, csL, csW _ _ _ _ _ _ _ _ hk]
  refine ⟨?_, ?_, ?_, ?_, ?_, ?_, ?_, ?_⟩
  · unfold cRA cSt; simp only [x1 14 _ (by decide), l1 14 1 (by decide) (by decide), l1 14 2 (by decide) (by decide), l1 14 3 (by decide) (by decide), l1 14 4 (by decide) (by decide), l1 14 6 (by decide) (by decide), q1 _ (show 1 ≠ 17 by decide), q1 _ (show 6 ≠ 17 by decide), q1 _ (show 9 ≠ 17 by decide), q1 _ (show 13 ≠ 17 by decide)]; exact hA
  · unfold cRB; simp only [r 2 _ _ (by decide), q1 _ (show 1 ≠ 17 by decide), q1 _ (show 6 ≠ 17 by decide), q2 _ _ (show 3 ≠ 15 by decide), q2 _ _ (show 4 ≠ 15 by decide)]; exact hB
  · refine ⟨fun p hp => ?_, fun p hp k hk => ?_, ?_⟩
    · unfold cPn; simp only [r 7 _ _ (by decide), x1 2 _ (by decide), x1 7 _ (by decide), x1 8 _ (by decide), x1 9 _ (by decide), x1 10 _ (by decide), x1 11 _ (by decide), x1 12 _ (by decide), x1 13 _ (by decide)]; exact hC.1 p hp
    · rw [x1 k p (by omega)]; exact hC.2.1 p hp k hk
    · simp only [r 2 _ _ (by decide), q1 _ (show 1 ≠ 17 by decide), q2 _ _ (show 2 ≠ 15 by decide)]; exact hC.2.2
  · unfold cRD cStp; simp only [r 3 _ _ (by decide), x1 3 _ (by decide), rz 3 _ _ (by decide), q1 _ (show 6 ≠ 17 by decide), q1 _ (show 9 ≠ 17 by decide), q1 _ (show 13 ≠ 17 by decide), q2 _ _ (show 3 ≠ 15 by decide), q2 _ _ (show 4 ≠ 15 by decide), q2 _ _ (show 7 ≠ 15 by decide), q2 _ _ (show 10 ≠ 15 by decide), q2 _ _ (show 12 ≠ 15 by decide), q3 _ _ (show 5 ≠ 16 by decide), q3 _ _ (show 8 ≠ 16 by decide), q3 _ _ (show 11 ≠ 16 by decide)]; exact hD
  · unfold cRE cOL cSt cEn cAr cInn; simp only [r 2 _ _ (by decide), l13, l12, q1 _ (show 1 ≠ 17 by decide), q1 _ (show 6 ≠ 17 by decide), q1 _ (show 9 ≠ 17 by decide), q1 _ (show 13 ≠ 17 by decide), q2 _ _ (show 3 ≠ 15 by decide), q2 _ _ (show 4 ≠ 15 by decide), q2 _ _ (show 7 ≠ 15 by decide), q2 _ _ (show 10 ≠ 15 by decide)]; exact hE
  · unfold cRF; simp only [r 14 _ _ (by decide), q1 _ (show 25 ≠ 17 by decide), q2 _ _ (show 14 ≠ 15 by decide)]; exact hF
  · obtain ⟨C, c1, c2, c3, K', c4⟩ := hG
    refine ⟨C ++ [K], ?_, ?_, fun i n hn => ?_, max (K + 1) K', fun n hn => ?_⟩
    · rw [← hW, clL, if_pos ⟨rfl, rfl⟩, c1, List.map_append]; rfl
    · rw [List.length_append, c2]; exact mr_Ie.symm
    · have e15 : (mm_I (mm_D (mm_A s 15 (s.1 17) a) 16 (s.1 17) z) 17 (s.1 17 + 1)).2.1 15 i = px_upN (s.2.1 15) (s.1 17) a i := congrFun (mr_A0 s 15 (s.1 17) a) i
      have e16 : (mm_I (mm_D (mm_A s 15 (s.1 17) a) 16 (s.1 17) z) 17 (s.1 17 + 1)).2.2 16 i = px_upN (s.2.2 16) (s.1 17) z i := congrFun (mr_D0 (mm_A s 15 (s.1 17) a) 16 (s.1 17) z) i
      rw [e15, e16]
      rcases Nat.lt_or_ge i C.length with h1 | h1
      · rw [List.getElem?_append_left h1] at hn
        obtain ⟨d1, d2, d3⟩ := c3 i n hn
        have hne : n ≠ K := fun e => hK n (by omega) d1
        rw [← hW, cxL, cxW, cnL, cnW, czL, czW, if_neg (fun y => hne y.2), if_neg (fun y => hne y.2)]
        unfold px_upN
        rw [if_neg (by omega), if_neg (by omega)]
        exact ⟨Or.inr d1, d2, d3⟩
      · have h2 : i < C.length + 1 := by have := (List.getElem?_eq_some_iff.mp hn).1; simp at this; omega
        obtain rfl : i = C.length := by omega
        rw [List.getElem?_append_right (Nat.le_refl _), Nat.sub_self] at hn
        obtain rfl : n = K := (Option.some.inj hn).symm
        rw [← hW, cxL, cxW, cnL, cnW, czL, czW, if_pos ⟨rfl, rfl⟩, if_pos ⟨rfl, rfl⟩]
        unfold px_upN
        rw [if_pos c2, if_pos c2]
        exact ⟨Or.inl ⟨rfl, rfl⟩, rfl, rfl⟩
    · rw [← hW, cxL, cxW]
      intro y
      rcases y with y | y
      · have := y.2; omega
      · exact c4 n (by omega) y
  · unfold cRH cStp; simp only [r 7 _ _ (by decide), r 10 _ _ (by decide), rs 9 _ _ (by decide), rz 2 _ _ (by decide), rz 8 _ _ (by decide), q1 _ (show 6 ≠ 17 by decide), q1 _ (show 9 ≠ 17 by decide), q1 _ (show 13 ≠ 17 by decide)]; exact hH
theorem cRl.unchg {s : mm_S} {u : cc_U} {O : List Nat} (hR : cRl s u O) (h0 : 0 < s.1 17) : cRl (mm_I s 17 (s.1 17 - 1)) (cL u 14 5 ((cl u 14 5).eraseIdx (s.1 17 - 1))) O := by
  obtain ⟨hA, hB, hC, hD, hE, hF, hG, hH⟩ := id hR
  have q1 : ∀ k, k ≠ 17 → (mm_I s 17 (s.1 17 - 1)).1 k = s.1 k := fun k hk => if_neg hk
  have q2 : ∀ k i, (mm_I s 17 (s.1 17 - 1)).2.1 k i = s.2.1 k i := fun k i => rfl
  have q3 : ∀ k i, (mm_I s 17 (s.1 17 - 1)).2.2 k i = s.2.2 k i := fun k i => rfl
  have l1 : ∀ k i, ¬ (k = 14 ∧ i = 5) → cl (cL u 14 5 ((cl u 14 5).eraseIdx (s.1 17 - 1))) k i = cl u k i := fun k i hi => by rw [clL, if_neg hi]
  refine ⟨?_, ?_, ?_, ?_, ?_, ?_, ?_, ?_⟩
  · unfold cRA cSt; simp only [cxL, l1 14 1 (by decide), l1 14 2 (by decide), l1 14 3 (by decide), l1 14 4 (by decide), l1 14 6 (by decide), q1 _ (show 1 ≠ 17 by decide), q1 _ (show 6 ≠ 17 by decide), q1 _ (show 9 ≠ 17 by decide), q1 _ (show 13 ≠ 17 by decide)]; exact hA
  · unfold cRB; simp only [cnL, q1 _ (show 1 ≠ 17 by decide), q1 _ (show 6 ≠ 17 by decide), q2]; exact hB
  · unfold cRC cPn cPx; simp only [cnL, cxL, q1 _ (show 1 ≠ 17 by decide), q2]; exact hC
  · unfold cRD cStp; simp only [cnL, cxL, czL, q1 _ (show 6 ≠ 17 by decide), q1 _ (show 9 ≠ 17 by decide), q1 _ (show 13 ≠ 17 by decide), q2, q3]; exact hD
  · unfold cRE cOL cSt cEn cAr cInn; simp only [cnL, l1 13 _ (by omega), l1 12 _ (by omega), q1 _ (show 1 ≠ 17 by decide), q1 _ (show 6 ≠ 17 by decide), q1 _ (show 9 ≠ 17 by decide), q1 _ (show 13 ≠ 17 by decide), q2]; exact hE
  · unfold cRF; simp only [cnL, q1 _ (show 25 ≠ 17 by decide), q2]; exact hF
  · obtain ⟨C, c1, c2, c3, K', c4⟩ := hG
    refine ⟨C.eraseIdx (s.1 17 - 1), ?_, ?_, fun i n hn => ?_, K', fun n hn => by rw [cxL]; exact c4 n hn⟩
    · rw [clL, if_pos ⟨rfl, rfl⟩, c1]
      have er : ∀ (L : List Nat) (i : Nat), (L.map fun n => ((6, n) : px_R)).eraseIdx i = (L.eraseIdx i).map fun n => ((6, n) : px_R) := by
        intro L
        induction L with
        | nil => intro i; cases i <;> rfl
        | cons a L ih => intro i; cases i with
          | zero => rfl
          | succ i => exact congrArg (((6, a) : px_R) :: ·) (ih i)
      exact er C _
    · rw [List.length_eraseIdx_of_lt (by omega), c2]; exact mr_Ie.symm
    · rw [List.getElem?_eraseIdx] at hn
      simp only [cxL, cnL, czL, q2, q3]
      split at hn
      · exact c3 i n hn
      · have := (List.getElem?_eq_some_iff.mp hn).1; omega
  · unfold cRH cStp; simp only [cnL, csL, czL, q1 _ (show 6 ≠ 17 by decide), q1 _ (show 9 ≠ 17 by decide), q1 _ (show 13 ≠ 17 by decide)]; exact hH
theorem cRl.al {s : mm_S} {u : cc_U} {O : List Nat} (h : cRl s u O) : (cl u 14 2).length = s.1 6 := by rw [h.1.2.2.1, List.length_map, List.length_range]
theorem cRl.cl5 {s : mm_S} {u : cc_U} {O : List Nat} (h : cRl s u O) : (cl u 14 5).length = s.1 17 ∧ (∀ X y, y ∈ cl u 14 5 → px_obs (cc_M u X) y) := by
  obtain ⟨C, c1, c2, c3, -⟩ := h.2.2.2.2.2.2.1
  refine ⟨by rw [c1, List.length_map, c2], fun X y hy => ?_⟩
  rw [c1] at hy
  obtain ⟨n, hn, rfl⟩ := List.mem_map.mp hy
  obtain ⟨i, hi⟩ := List.getElem?_of_mem hn
  exact cc_obs6 (c3 i n hi).1
theorem px_eqU {d mc ms : Nat} {Γ : px_Y} {Q : px_Q} {pc : Nat} {lv : List (Nat × px_V)} {st : List px_V} {X : px_M} {u u' : cc_U} {k n : Nat} (h : u = u') (kk : px_W d mc ms Γ Q pc lv st (cc_M u' X) k n) : px_W d mc ms Γ Q pc lv st (cc_M u X) k n := by subst h; exact kk
set_option maxRecDepth 100000 in
set_option maxHeartbeats 4000000 in
theorem ce_whatIf {s : mm_S} {u : cc_U} {X : px_M} (hX : c9 X) (ok : mm_ok s) (h : cok s u) (x : Int32) (d : Int) (hd : d.natAbs ≤ 2 ^ 32) : px_Met 9 70 8000 mX4_whatIf [.inr (14, 0), .inl (.int x), .inl (.double (dz d))] (cc_M u X) (cqo X [cI, cB, cA] (kc_whatIf s x d) (.inl (.int (nI (va_whatIf s x d)))) (nx_whatIf s x d)) := by
  refine px_ofW (by decide) W_mX4_whatIf (Nat.le_of_ble_eq_true rfl) ?_
  obtain ⟨⟨O, hR⟩, hW⟩ := id h
  have hbd := ok.h1
  have h0 := hR.obj (i := 0) (by decide)
  have h2 := hR.obj (i := 2) (by decide)
  have h5 := hR.obj (i := 5) (by decide)
  obtain ⟨l5, o5⟩ := hR.cl5
  have nx1 : kc_whatIf s x d ≠ 0 → nx_whatIf s x d = s := fun e => by unfold nx_whatIf; rw [if_neg (fun z => e z.1)]
  refine px_iload_n dX4_whatIf_0 rfl ?_
  refine px_aload_n dX4_whatIf_1 rfl trivial ?_
  refine px_getf dX4_whatIf_2 F_RX4_16 (cc_obj (by first | assumption | (simp only [cxN, cxZ, cxS, cxL, cxR]; assumption))) (by rfl) ?_
  refine px_callVr (cl_size rfl (by first | assumption | (simp only [cxN, cxZ, cxS, cxL, cxR]; assumption)) hX) dX4_whatIf_5 L_RX4_70 (cc_rcL rfl (by first | assumption | (simp only [cxN, cxZ, cxS, cxL, cxR]; assumption))) rfl rfl (by decide) (by omega) (by omega) (Nat.le_of_ble_eq_true rfl) ?_
  rw [hR.al]
  by_cases hx : px_ix x (s.1 6)
  · refine px_callSv (ce_chk (by omega) hx) dX4_whatIf_8 L_RX4_84 rfl rfl (by decide) (by omega) (by omega) (Nat.le_of_ble_eq_true rfl) ?_
    refine px_aload_n dX4_whatIf_11 rfl trivial ?_
    refine px_getf dX4_whatIf_12 F_RX4_25 (cc_obj (by first | assumption | (simp only [cxN, cxZ, cxS, cxL, cxR]; assumption))) (by rfl) ?_
    refine px_callVr (cl_size rfl (by first | assumption | (simp only [cxN, cxZ, cxS, cxL, cxR]; assumption)) hX) dX4_whatIf_15 L_RX4_70 (cc_rcL rfl (by first | assumption | (simp only [cxN, cxZ, cxS, cxL, cxR]; assumption))) rfl rfl (by decide) (by omega) (by omega) (Nat.le_of_ble_eq_true rfl) ?_
    rw [l5]
    refine px_bipush (v := nI 50) dX4_whatIf_18 (by decide) ?_
    refine pn_icmp_lt (tgt := 33) dX4_whatIf_20 (by decide) (nI_ltI (by omega) (by omega)) (fun g1 => ?_) (fun g1 => ?_)
    · refine px_dload_n dX4_whatIf_33 rfl ?_
      by_cases hdl : 0 ≤ d ∧ d ≤ 8388608
      · refine px_callSr (ce_isDelay hdl) dX4_whatIf_34 L_RX4_89 rfl rfl (by decide) (by omega) (by omega) (Nat.le_of_ble_eq_true rfl) ?_
        refine pn_if_ne (tgt := 50) dX4_whatIf_37 (by decide) (pn_z (by omega)) (fun g2 => ?_) (fun g2 => ?_)
        · have e : kc_whatIf s x d = 0 := by
            unfold kc_whatIf
            rw [if_neg (fun z => z hx), if_neg (by omega), if_pos hdl]
          obtain ⟨ex1, ex2⟩ := px_ix_tn hx
          unfold va_whatIf nx_whatIf
          rw [e]
          generalize px_tn x = a at ex1 ex2
          subst ex1
          obtain ⟨d1, d2, d3, d4⟩ := hR.2.2.2.1.2.1 a ex2
          have dx : cx u 3 a := (hR.2.2.2.1.1 a).mpr (Or.inl ex2)
          obtain ⟨b1, b2, b3, b4⟩ := ok.2.1 a ex2
          refine px_aload_n dX4_whatIf_50 rfl trivial ?_
          refine px_getf dX4_whatIf_51 F_RX4_16 (cc_obj (by first | assumption | (simp only [cxN, cxZ, cxS, cxL, cxR]; assumption))) (by rfl) ?_
          refine px_iload_n dX4_whatIf_54 rfl ?_
          refine px_callVr (cl_get (x := (3, a)) (by rw [hR.1.2.2.1]; exact c3_get (by rw [List.getElem?_range ex2])) rfl (by first | assumption | (simp only [cxN, cxZ, cxS, cxL, cxR]; assumption)) hX) dX4_whatIf_55 L_RX4_98 (cc_rcL rfl (by first | assumption | (simp only [cxN, cxZ, cxS, cxL, cxR]; assumption))) rfl rfl (by decide) (by omega) (by omega) (Nat.le_of_ble_eq_true rfl) ?_
          refine px_cast dX4_whatIf_58 (cc_step (by first | assumption | (simp only [cxN, cxZ, cxS, cxL, cxR]; assumption))) rfl K_RX4_115 ?_
          refine px_astore dX4_whatIf_61 (by decide) trivial ?_
          refine px_aload dX4_whatIf_63 rfl trivial ?_
          refine px_getf dX4_whatIf_65 F_RX4_194 (cc_step (by first | assumption | (simp only [cxN, cxZ, cxS, cxL, cxR]; assumption))) (by rfl) ?_
          rw [cz_def, d4]
          refine px_dload_n dX4_whatIf_68 rfl ?_
          refine pn_dcmp dX4_whatIf_69 rfl rfl (by omega) (by omega) ?_
          refine pn_if_ne (tgt := 75) dX4_whatIf_70 (by decide) (dz_c_eq _ _) (fun g3 => ?_) (fun g3 => ?_)
          · rw [if_neg g3, if_pos ⟨rfl, g3⟩]
            obtain ⟨C, c1, c2, c3, K, c4⟩ := id hR.2.2.2.2.2.2.1
            have nK : cc_M u X (6, K) = none := cc_no (c4 K (Nat.le_refl _)) (by decide)
            refine px_aload_n dX4_whatIf_75 rfl trivial ?_
            refine px_getf dX4_whatIf_76 F_RX4_25 (cc_obj (by first | assumption | (simp only [cxN, cxZ, cxS, cxL, cxR]; assumption))) (by rfl) ?_
            refine px_newo (ci := 0) (6, K) dX4_whatIf_79 rfl K_RX4_199 N_RX0 Z_RX0 nK rfl (by omega) (by omega) ?_
            refine px_dup dX4_whatIf_82 rfl ?_
            refine px_aload dX4_whatIf_83 rfl trivial ?_
            refine px_aload dX4_whatIf_85 rfl trivial ?_
            refine px_getf dX4_whatIf_87 F_RX4_194 (((px_up_n _ _ (ce_ne (by decide))).trans (cc_step dx))) (by rfl) ?_
            refine px_callI (ce_newC (px_up_s _ _ _)) dX4_whatIf_90 L_RX4_201 rfl rfl rfl (by decide) (by omega) (by omega) (Nat.le_of_ble_eq_true rfl) ?_
            rw [px_up2, show ((u 3 a).2.1 0 : Int) = s.2.2 5 a from d4]
            refine px_eqM (cc_up (e := ((fun _ => a), (fun _ => s.2.2 5 a), (fun _ => none), [], 1)) (by decide) (by unfold cc_cell; rw [if_neg Nat.one_ne_zero]; rfl)) ?_
            show px_W 9 70 8000 mX4_whatIf _ 93 _ _ (cc_M (cNew u 6 K (fun _ => a) (fun _ => s.2.2 5 a)) X) _ _
            have hR1 := hR.chg (K := K) (a := a) (z := s.2.2 5 a) c4
            have hl1 : cl (cNew u 6 K (fun _ => a) (fun _ => s.2.2 5 a)) 14 5 = cl u 14 5 := clW _ _ _ _ _ _ _ (by decide)
            have hx1 : ∀ k i, cx u k i → cx (cNew u 6 K (fun _ => a) (fun _ => s.2.2 5 a)) k i := fun k i hk => (cxW _ _ _ _ _ _ _).mpr (Or.inr hk)
            have h5' := hx1 14 5 h5
            refine px_callVr (cl_add (by rw [hl1, l5]; omega) ⟨cc_obs6 ((cxW _ _ _ _ _ _ _).mpr (Or.inl ⟨rfl, rfl⟩)), fun y hy => by rw [hl1, c1] at hy; obtain ⟨n, hn, rfl⟩ := List.mem_map.mp hy; obtain ⟨i, hi⟩ := List.getElem?_of_mem hn; exact cc_obs6 (hx1 6 n (c3 i n hi).1)⟩ rfl (by first | assumption | (simp only [cxN, cxZ, cxS, cxL, cxR]; assumption)) hX) dX4_whatIf_93 L_RX4_80 (cc_rcL rfl (by first | assumption | (simp only [cxN, cxZ, cxS, cxL, cxR]; assumption))) rfl rfl (by decide) (by omega) (by omega) (Nat.le_of_ble_eq_true rfl) ?_
            rw [hl1]
            have dx' : cx (cL (cNew u 6 K (fun _ => a) (fun _ => s.2.2 5 a)) 14 5 (cl u 14 5 ++ [(6, K)])) 3 a := by rw [cxL]; exact hx1 3 a dx
            have h0' : cx (cL (cNew u 6 K (fun _ => a) (fun _ => s.2.2 5 a)) 14 5 (cl u 14 5 ++ [(6, K)])) 14 0 := by rw [cxL]; exact hx1 14 0 h0
            refine px_pop dX4_whatIf_96 rfl ?_
            refine px_aload dX4_whatIf_97 rfl trivial ?_
            refine px_dload_n dX4_whatIf_99 rfl ?_
            refine cp_cost dX4_whatIf_100 F_RX4_194 (by first | assumption | (simp only [cxN, cxZ, cxS, cxL, cxR]; assumption)) rfl ?_
            refine px_aload_n dX4_whatIf_103 rfl trivial ?_
            refine px_iconst (v := nI 0) dX4_whatIf_104 (by decide) ?_
            refine cp_listed dX4_whatIf_105 F_RX4_50 (by first | assumption | (simp only [cxN, cxZ, cxS, cxL, cxR]; assumption)) rfl (by decide) ?_
            refine px_iconst (v := nI 1) dX4_whatIf_108 (by decide) ?_
            refine px_zret dX4_whatIf_109 rfl (by first | decide | assumption) ?_ (by omega) (by omega)
            exact cqo.ok ⟨⟨O, (hR1.cost (a := a) ex2 hbd.2.1 d).unl⟩, cRW.no rfl⟩ rfl
          · rw [if_pos g3, if_neg (fun z => z.2 g3)]
            refine px_iconst (v := nI 0) dX4_whatIf_73 (by decide) ?_
            refine px_zret dX4_whatIf_74 rfl (by first | decide | assumption) ?_ (by omega) (by omega)
            exact cqo.ok h rfl
        · exact absurd g2 (by decide)
      · refine px_callSr (ce_isDelayN (by omega) hdl) dX4_whatIf_34 L_RX4_89 rfl rfl (by decide) (by omega) (by omega) (Nat.le_of_ble_eq_true rfl) ?_
        refine pn_if_ne (tgt := 50) dX4_whatIf_37 (by decide) (pn_z (by omega)) (fun g2 => ?_) (fun g2 => ?_)
        · exact absurd rfl g2
        · refine px_throw (text := "no delay") cT_97 rfl rfl (by decide) dX4_whatIf_40 dX4_whatIf_43 dX4_whatIf_44 dX4_whatIf_46 dX4_whatIf_49 (Nat.le_of_ble_eq_true rfl) ?_ (by omega) (by omega)
          have e : kc_whatIf s x d = 3 := by
            unfold kc_whatIf
            rw [if_neg (fun z => z hx), if_neg (by omega), if_neg hdl]
          exact cqo.no (k := 2) (by rw [nx1 (by omega)]; exact h) e rfl
    · refine px_throw (text := "no more can be taken back") cT_77 rfl rfl (by decide) dX4_whatIf_23 dX4_whatIf_26 dX4_whatIf_27 dX4_whatIf_29 dX4_whatIf_32 (Nat.le_of_ble_eq_true rfl) ?_ (by omega) (by omega)
      have e : kc_whatIf s x d = 2 := by
        unfold kc_whatIf
        rw [if_neg (fun z => z hx), if_pos (by omega)]
      exact cqo.no (k := 1) (by rw [nx1 (by omega)]; exact h) e rfl
  · refine px_callSx (ce_chkN (by omega) hx) dX4_whatIf_8 L_RX4_84 rfl rfl (by decide) (by omega) (by omega) (Nat.le_of_ble_eq_true rfl) rfl ?_
    have e : kc_whatIf s x d = 1 := by
      unfold kc_whatIf
      rw [if_pos hx]
    exact cqo.no (k := 0) (by rw [nx1 (by omega)]; exact h) e rfl
set_option maxRecDepth 100000 in
set_option maxHeartbeats 4000000 in
theorem ce_back {s : mm_S} {u : cc_U} {X : px_M} (hX : c9 X) (ok : mm_ok s) (h : cok s u) : px_Met 9 70 8000 mX4_back [.inr (14, 0)] (cc_M u X) (cqo X [] 0 (.inl (.int (nI (va_back s)))) (nx_back s)) := by
  refine px_ofW (by decide) W_mX4_back (Nat.le_of_ble_eq_true rfl) ?_
  obtain ⟨⟨O, hR⟩, hW⟩ := id h
  have hbd := ok.h1
  have h0 := hR.obj (i := 0) (by decide)
  have h5 := hR.obj (i := 5) (by decide)
  obtain ⟨l5, o5⟩ := hR.cl5
  unfold va_back nx_back
  refine px_aload_n dX4_back_0 rfl trivial ?_
  refine px_getf dX4_back_1 F_RX4_25 (cc_obj (by first | assumption | (simp only [cxN, cxZ, cxS, cxL, cxR]; assumption))) (by rfl) ?_
  refine px_callVr (cl_isEmpty (by omega) rfl (by first | assumption | (simp only [cxN, cxZ, cxS, cxL, cxR]; assumption)) hX) dX4_back_4 L_RX4_204 (cc_rcL rfl (by first | assumption | (simp only [cxN, cxZ, cxS, cxL, cxR]; assumption))) rfl rfl (by decide) (by omega) (by omega) (Nat.le_of_ble_eq_true rfl) ?_
  rw [l5]
  by_cases hn : s.1 17 = 0
  · rw [if_pos hn, if_pos hn, if_pos hn]
    refine pn_if_eq (tgt := 12) dX4_back_7 (by decide) (pn_z (by omega)) (fun g1 => ?_) (fun g1 => ?_)
    · exact absurd g1 (by decide)
    · refine px_iconst (v := nI 0) dX4_back_10 (by decide) ?_
      refine px_zret dX4_back_11 rfl (by first | decide | assumption) ?_ (by omega) (by omega)
      exact cqo.ok h rfl
  · rw [if_neg hn, if_neg hn, if_neg hn]
    refine pn_if_eq (tgt := 12) dX4_back_7 (by decide) (pn_z (by omega)) (fun g1 => ?_) (fun g1 => ?_)
    · obtain ⟨C, c1, c2, c3, K, c4⟩ := id hR.2.2.2.2.2.2.1
      obtain ⟨n, hcn⟩ : ∃ n, C[s.1 17 - 1]? = some n := ⟨_, List.getElem?_eq_getElem (by omega)⟩
      obtain ⟨m1, m2, m3⟩ := c3 _ _ hcn
      obtain ⟨b1, b2, b3⟩ := ok.2.2.2.2.2.2.1 (s.1 17 - 1) (by omega)
      refine px_aload_n dX4_back_12 rfl trivial ?_
      refine px_getf dX4_back_13 F_RX4_25 (cc_obj (by first | assumption | (simp only [cxN, cxZ, cxS, cxL, cxR]; assumption))) (by rfl) ?_
      refine px_aload_n dX4_back_16 rfl trivial ?_
      refine px_getf dX4_back_17 F_RX4_25 (cc_obj (by first | assumption | (simp only [cxN, cxZ, cxS, cxL, cxR]; assumption))) (by rfl) ?_
      refine px_callVr (cl_size rfl (by first | assumption | (simp only [cxN, cxZ, cxS, cxL, cxR]; assumption)) hX) dX4_back_20 L_RX4_70 (cc_rcL rfl (by first | assumption | (simp only [cxN, cxZ, cxS, cxL, cxR]; assumption))) rfl rfl (by decide) (by omega) (by omega) (Nat.le_of_ble_eq_true rfl) ?_
      rw [l5]
      refine px_iconst (v := nI 1) dX4_back_23 (by decide) ?_
      refine pn_isub dX4_back_24 (by first | exact pk_sub (by omega) | rfl) ?_
      refine px_callVr (cl_remove (x := (6, n)) (by rw [c1, List.getElem?_map, hcn]; rfl) (o5 X) rfl (by first | assumption | (simp only [cxN, cxZ, cxS, cxL, cxR]; assumption)) hX) dX4_back_25 L_RX4_207 (cc_rcL rfl (by first | assumption | (simp only [cxN, cxZ, cxS, cxL, cxR]; assumption))) rfl rfl (by decide) (by omega) (by omega) (Nat.le_of_ble_eq_true rfl) ?_
      have hR1 := hR.unchg (by omega)
      have dx : cx (cL u 14 5 ((cl u 14 5).eraseIdx (s.1 17 - 1))) 3 (cn (cL u 14 5 ((cl u 14 5).eraseIdx (s.1 17 - 1))) 6 n 0) := by
        rw [cxL, cnL, m2]
        exact (hR.2.2.2.1.1 _).mpr (Or.inl b1)
      have dx' := dx
      unfold cn at dx
      have hc := hR1.cost (a := s.2.1 15 (s.1 17 - 1)) b1 hbd.2.1 (s.2.2 16 (s.1 17 - 1))
      refine px_cast dX4_back_28 (cc_chg (by first | assumption | (simp only [cxN, cxZ, cxS, cxL, cxR]; assumption))) rfl K_RX4_199 ?_
      refine px_astore_n dX4_back_31 (by decide) trivial ?_
      refine px_aload_n dX4_back_32 rfl trivial ?_
      refine px_getf dX4_back_33 F_RX4_210 (cc_chg (by first | assumption | (simp only [cxN, cxZ, cxS, cxL, cxR]; assumption))) (by rfl) ?_
      refine px_aload_n dX4_back_36 rfl trivial ?_
      refine px_getf dX4_back_37 F_RX4_214 (cc_chg (by first | assumption | (simp only [cxN, cxZ, cxS, cxL, cxR]; assumption))) (by rfl) ?_
      refine cp_cost dX4_back_40 F_RX4_194 (by first | assumption | (simp only [cxN, cxZ, cxS, cxL, cxR]; assumption)) rfl ?_
      have e1 : ((cL u 14 5 ((cl u 14 5).eraseIdx (s.1 17 - 1)) 6 n).1 0 : Nat) = s.2.1 15 (s.1 17 - 1) := (cnL u 14 5 6 n 0 _).trans m2
      have e2 : ((cL u 14 5 ((cl u 14 5).eraseIdx (s.1 17 - 1)) 6 n).2.1 0 : Int) = s.2.2 16 (s.1 17 - 1) := (czL u 14 5 6 n 0 _).trans m3
      rw [e1, e2]
      refine px_aload_n dX4_back_43 rfl trivial ?_
      refine px_iconst (v := nI 0) dX4_back_44 (by decide) ?_
      refine cp_listed dX4_back_45 F_RX4_50 (by first | assumption | (simp only [cxN, cxZ, cxS, cxL, cxR]; assumption)) rfl (by decide) ?_
      refine px_iconst (v := nI 1) dX4_back_48 (by decide) ?_
      refine px_zret dX4_back_49 rfl (by first | decide | assumption) ?_ (by omega) (by omega)
      exact cqo.ok ⟨⟨O, hc.unl⟩, cRW.no rfl⟩ rfl
    · exact absurd rfl g1
