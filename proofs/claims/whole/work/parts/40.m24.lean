/-! ===== run whole ===== -/
theorem px_Nle (x : Int32) {n : Nat} (hn : n < 2 ^ 31) : x ≤ nI n ↔ x.toInt ≤ (n : Int) := by rw [Int32.le_iff_toInt_le, nI_toInt hn]
theorem mm_pv.nq {s t : mm_S} (h : mm_nq s t) (i : Nat) : ∀ (as : List Nat) (p : Nat), mm_pv t i as p ↔ mm_pv s i as p := by
  intro as
  induction as with
  | nil =>
    intro p
    show (i < t.1 9 ∧ t.2.1 7 i = p) ↔ (i < s.1 9 ∧ s.2.1 7 i = p)
    rw [h.1 9 (by decide), (h.2 7 (by decide)).1]
  | cons a as ih =>
    intro p
    show (a < t.1 6 ∧ t.2.1 4 a = p ∧ mm_pv t i as (t.2.1 3 a)) ↔ (a < s.1 6 ∧ s.2.1 4 a = p ∧ mm_pv s i as (s.2.1 3 a))
    rw [ih, h.1 6 (by decide), (h.2 4 (by decide)).1, (h.2 3 (by decide)).1]
theorem mm_mt.nq {s t : mm_S} (h : mm_nq s t) (p k : Nat) : mm_mt t p k = mm_mt s p k := by
  unfold mm_mt
  rw [(h.2 14 (by decide)).1]
theorem mm_pc.nq {s t : mm_S} (h : mm_nq s t) (i : Nat) (as : List Nat) : mm_pc t i as = mm_pc s i as := by
  induction as with
  | nil =>
    show mm_mt t (t.2.1 7 i) 0 = mm_mt s (s.2.1 7 i) 0
    rw [mm_mt.nq h, (h.2 7 (by decide)).1]
  | cons a as ih =>
    show mm_mt t (t.2.1 4 a) (mm_pc t i as) = mm_mt s (s.2.1 4 a) (mm_pc s i as)
    rw [mm_mt.nq h, ih, (h.2 4 (by decide)).1]
theorem mm_pt.nq {s t : mm_S} (h : mm_nq s t) (i : Nat) (as : List Nat) : mm_pt t i as = mm_pt s i as := by
  induction as with
  | nil => show t.2.2 8 i = s.2.2 8 i; rw [(h.2 8 (by decide)).2]
  | cons a as ih => show mm_pt t i as + t.2.2 5 a = mm_pt s i as + s.2.2 5 a; rw [ih, (h.2 5 (by decide)).2]
theorem mm_Fu.nq {s t : mm_S} (h : mm_nq s t) (g : Nat) (x : mm_P) : mm_Fu t g x ↔ mm_Fu s g x := by
  unfold mm_Fu mm_F mm_pe
  rw [mm_pv.nq h, mm_pc.nq h, mm_pt.nq h, h.1 13 (by decide), (h.2 12 (by decide)).1, (h.2 10 (by decide)).1, (h.2 11 (by decide)).2]
theorem px_LG.iff {α : Type} {R : α → α → Prop} {m : Nat} {F G : α → Prop} {L : List α} (hG : ∀ e, G e ↔ F e) : px_LG R m G L ↔ px_LG R m F L := ⟨fun h => h.congr fun e => (hG e).symm, fun h => h.congr hG⟩
theorem mm_sp.nq {s t : mm_S} (h : mm_nq s t) {m : Nat} {Z : List mm_P} : mm_sp t m Z ↔ mm_sp s m Z := by
  unfold mm_sp
  rw [(h.2 12 (by decide)).1]
  exact and_congr Iff.rfl (and_congr Iff.rfl (forall_congr' fun g => imp_congr Iff.rfl (px_LG.iff fun x => mm_Fu.nq h g x)))
set_option maxRecDepth 100000 in
set_option maxHeartbeats 8000000 in
theorem me_run (s : mm_S) (X : px_M) (ok : mm_ok s) (x : Int32) : px_Met 4 0 0 mX5_run [.inr (1, 0), .inl (.int x)] (mm_M s X) (mq_run s X x) := by
  have h1 := ok.1.1
  refine px_ofW (by decide) W_mX5_run (Nat.le_of_ble_eq_true rfl) ?_
  have tail : ∀ c, c < 4 → kc_run x = c → px_W 4 0 0 mX5_run (mq_run s X x) 17 [(0, .inr (1, 0)), (1, .inl (.int x))] [.inl (.int (nI c)), .inr (1, 0)] (mm_M s X) 0 0 := by
    intro c c4 hc
    refine mm_put dX5_run_17 F_RX5_81 nf_5_0 (by decide) (by first | exact ⟨rfl, rfl⟩ | decide) ?_
    refine px_aload_n dX5_run_20 rfl trivial ?_
    refine mm_gets dX5_run_21 F_RX5_81 (by decide) (by (try simp only [mr_In, mr_Ie, mr_A1, mr_D1, mr_R1, mr_T1, ne_eq, Nat.reduceEqDiff, not_false_eq_true]); rfl) ?_
    refine pn_if_le (tgt := 29) dX5_run_24 (by decide) (pn_lez (by omega)) (fun h => ?_) (fun h => ?_)
    · have c0 : c = 0 := by omega
      subst c0
      have hx : 1 ≤ x.toInt ∧ x.toInt ≤ 40 := by
        unfold kc_run at hc
        by_cases z : 1 ≤ x.toInt ∧ x.toInt ≤ 40
        · exact z
        · rw [if_neg z] at hc; omega
      obtain ⟨e1, e2⟩ := px_ix_tn (x := x) (n := 41) ⟨by omega, by omega⟩
      have hm0 : 0 < px_tn x := by unfold px_tn; omega
      have tn : mm_nq s (mm_I s 0 0) := (mm_nq.rf s).I0 0
      have ok0 := ok.nq tn
      have hgat := me_gather (mm_I s 0 0) X ok0 (px_tn x) (by omega) hm0
      rw [← e1] at hgat
      refine px_aload_n dX5_run_29 rfl trivial ?_
      refine px_iload_n dX5_run_30 rfl ?_
      refine px_callV (hgat) dX5_run_31 L_RX5_152 (mm_rcv _ _) rfl rfl (by decide) (by omega) (by omega) (Nat.le_of_ble_eq_true rfl) (fun v9 M9 hq => ?_) (fun E9 M9 hq => ?_)
      · obtain ⟨h0, T, LL, rfl, hT, hLL⟩ := hq
        cases h0
        have okT := ok0.gq hT
        have hK : mm_K3 T (T.2.1 22) (T.2.1 23) 0 (mm_I T 24 0) := ⟨fun k hk => mr_In hk, mr_Ie, fun _ _ _ _ _ => rfl, rfl, rfl, rfl⟩
        have hgn := mm_gq.nq tn hT
        refine px_aload_n dX5_run_34 rfl trivial ?_
        refine px_iconst (v := nI 0) dX5_run_35 (by decide) ?_
        refine mm_put dX5_run_36 F_RX5_145 nf_5_24 (by decide) (by first | exact ⟨rfl, rfl⟩ | decide) ?_
        refine px_iconst (v := nI 0) dX5_run_39 (by decide) ?_
        refine px_istore_n dX5_run_40 (by decide) ?_
        have h1m := me_run_1 (mm_I s 0 0) X ok0 T okT hT (px_tn x) (by omega) hm0 LL (fun q hq => hLL q hq 10 (Nat.le_refl _)) (mq_run s X x) (fun B E A t hA ht hac hd => by
          refine px_aload_n dX5_run_139 rfl trivial ?_
          refine mm_gets dX5_run_140 F_RX5_145 (by decide) (by (try simp only [mr_In, mr_Ie, mr_A1, mr_D1, mr_R1, mr_T1, ne_eq, Nat.reduceEqDiff, not_false_eq_true]); rfl) ?_
          rw [ht.2.1]
          refine px_istore_n dX5_run_143 (by decide) ?_
          refine px_aload_n dX5_run_144 rfl trivial ?_
          refine px_iconst (v := nI 0) dX5_run_145 (by decide) ?_
          refine mm_put dX5_run_146 F_RX5_145 nf_5_24 (by decide) (by first | exact ⟨rfl, rfl⟩ | decide) ?_
          refine px_iconst (v := nI 0) dX5_run_149 (by decide) ?_
          refine px_istore_n dX5_run_150 (by decide) ?_
          refine px_sub (me_run_2 T X okT A hA hac.1 (mq_run s X x) (fun t B E Z ht' hZ hm hZl hZd => ?_) (A.length + 1) 0 B E [] (mm_I t 24 0) (by omega) (by omega) rfl (ht.N 0) ⟨List.Pairwise.nil, fun e he => absurd he List.not_mem_nil, Nat.zero_le _, fun z hz => by simp at hz⟩ (fun j z hz => by cases hz) (fun j z _ hz => hd j z hz)) rfl
          have hsc : ∀ k, k ≠ 24 → k ≠ 25 → (mm_I t 25 1).1 k = T.1 k := fun k k1 k2 => (mr_In k2).trans (ht'.1 k k1)
          refine ⟨nI Z.length, _, rfl, rfl, ?_, fun z => absurd hc z, fun _ => ⟨⟨?_, mr_Ie, ?_⟩, Z, rfl, ?_, ?_, hZl, ?_⟩⟩
          · rw [hsc 0 (by decide) (by decide), hc, hT.1]; rfl
          · intro k k1 k2 k3
            rw [hsc k k2 k3]; exact hgn.1 k k1
          · intro k k1
            refine ⟨fun k2 k3 k4 k5 k6 => ?_, fun k2 => ?_⟩
            · exact (ht'.2.2.1 k k5 k6 (by omega) (by omega)).trans ((hgn.2 k k1).1 k2 k3 k4)
            · exact (congrFun ht'.2.2.2.1 k).trans ((hgn.2 k k1).2 k2)
          · exact (mm_sp.nq tn).mp (hac.fin hZ hm)
          · exact (mr_In (by decide)).trans ht'.2.1
          · intro k z hz
            have := hZd k z hz
            rw [show (mm_I t 25 1).2.1 22 k = B k from congrFun ht'.2.2.2.2.1 k, show (mm_I t 25 1).2.1 23 k = E k from congrFun ht'.2.2.2.2.2 k]
            exact this.eq (hsc 13 (by decide) (by decide)) (ht'.2.2.1 3 (by decide) (by decide) (by decide) (by decide)) (ht'.2.2.1 18 (by decide) (by decide) (by decide) (by decide)) (ht'.2.2.1 19 (by decide) (by decide) (by decide) (by decide)) (congrFun ht'.2.2.2.1 11) (congrFun ht'.2.2.2.1 20)) 9 0 (T.2.1 22) (T.2.1 23) [] (mm_I T 24 0) (by omega) (by omega) hK ⟨List.nodup_nil, fun z hz => absurd hz List.not_mem_nil, fun g' hg' => by omega, Nat.zero_le _⟩ (fun j z hz => by cases hz)
        rw [← e1] at h1m
        exact px_sub h1m rfl
      · exact absurd hq.1 (fun z => by cases z)
    · refine px_iconst (v := nI 0) dX5_run_27 (by decide) ?_
      refine px_iret dX5_run_28 rfl ?_ (by omega) (by omega)
      exact ⟨_, _, rfl, rfl, hc.symm ▸ rfl, fun _ => (mm_nq.rf s).I0 c, fun z => by omega⟩
  refine px_aload_n dX5_run_0 rfl trivial ?_
  refine px_iload_n dX5_run_1 rfl ?_
  refine px_iconst (v := nI 1) dX5_run_2 (by decide) ?_
  refine pn_icmp_lt (tgt := 12) dX5_run_3 (by decide) (px_ltN _ (by decide)) (fun h => ?_) (fun h => ?_)
  · refine px_iconst (v := nI 1) dX5_run_12 (by decide) ?_
    refine px_goto (tgt := 17) dX5_run_13 (by decide) ?_
    exact px_sub (tail 1 (by decide) (if_neg (fun z => by omega))) rfl
  · refine px_iload_n dX5_run_6 rfl ?_
    refine px_bipush (v := nI 40) dX5_run_7 (by decide) ?_
    refine pn_icmp_le (tgt := 16) dX5_run_9 (by decide) (px_Nle _ (by decide)) (fun h2 => ?_) (fun h2 => ?_)
    · refine px_iconst (v := nI 0) dX5_run_16 (by decide) ?_
      exact px_sub (tail 0 (by decide) (if_pos ⟨by omega, by omega⟩)) rfl
    · refine px_iconst (v := nI 1) dX5_run_12 (by decide) ?_
      refine px_goto (tgt := 17) dX5_run_13 (by decide) ?_
      exact px_sub (tail 1 (by decide) (if_neg (fun z => by omega))) rfl
