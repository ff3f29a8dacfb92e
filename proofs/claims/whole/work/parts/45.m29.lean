/-! ===== the reference is made: its rows ===== -/
set_option maxRecDepth 100000 in
set_option maxHeartbeats 8000000 in
theorem me_init_a (X : px_M) (Q : px_Q) (kk : px_W 1 23 81583 mX5_init Q 197 [(0, .inr (1, 0))] [] (mi [30, 29, 28, 27, 26, 23, 22, 21, 20, 19, 18, 16, 15, 14, 12, 11, 10, 8, 7, 5, 4, 3, 2] X) 23 81583) : px_W 1 23 81583 mX5_init Q 4 [(0, .inr (1, 0))] [] (mi [] X) 0 0 := by
  refine px_aload_n dX5_init_4 rfl trivial ?_
  refine px_bipush (v := nI 60) dX5_init_5 (by decide) ?_
  refine mi_step (t := 0) (N := 60) (kf := 2) (a0 := .inl fun j => px_o (mi_0.2.1 2 j)) dX5_init_7 dX5_init_9 rfl (by decide) A_int G_RX5_7 rfl (by decide) (by decide) rfl (by decide) rfl (mi_a0 60 fun j => mi_zo 2 j (by decide)) trivial (by decide) (fun _ => ⟨rfl, rfl⟩) (by omega) (by omega) ?_
  refine px_aload_n dX5_init_12 rfl trivial ?_
  refine px_sipush (v := nI 150) dX5_init_13 (by decide) ?_
  refine mi_step (t := 0) (N := 150) (kf := 3) (a0 := .inl fun j => nI (mi_0.2.1 3 j)) dX5_init_16 dX5_init_18 rfl (by decide) A_int G_RX5_13 rfl (by decide) (by decide) rfl (by decide) rfl (mi_a0 150 fun j => mi_z 3 j (by decide) (by decide)) trivial (by decide) (fun _ => ⟨rfl, rfl⟩) (by omega) (by omega) ?_
  refine px_aload_n dX5_init_21 rfl trivial ?_
  refine px_sipush (v := nI 150) dX5_init_22 (by decide) ?_
  refine mi_step (t := 0) (N := 150) (kf := 4) (a0 := .inl fun j => nI (mi_0.2.1 4 j)) dX5_init_25 dX5_init_27 rfl (by decide) A_int G_RX5_16 rfl (by decide) (by decide) rfl (by decide) rfl (mi_a0 150 fun j => mi_z 4 j (by decide) (by decide)) trivial (by decide) (fun _ => ⟨rfl, rfl⟩) (by omega) (by omega) ?_
  refine px_aload_n dX5_init_30 rfl trivial ?_
  refine px_sipush (v := nI 150) dX5_init_31 (by decide) ?_
  refine mi_step (t := 1) (N := 150) (kf := 5) (a0 := .inr (.inr (.inl fun j => dz (mi_0.2.2 5 j)))) dX5_init_34 dX5_init_36 rfl (by decide) A_double G_RX5_19 rfl (by decide) (by decide) rfl (by decide) rfl (mi_a1 150 fun j => dz_z.symm) trivial (by decide) (fun _ => ⟨rfl, rfl⟩) (by omega) (by omega) ?_
  refine px_aload_n dX5_init_39 rfl trivial ?_
  refine px_bipush (v := nI 30) dX5_init_40 (by decide) ?_
  refine mi_step (t := 0) (N := 30) (kf := 7) (a0 := .inl fun j => nI (mi_0.2.1 7 j)) dX5_init_42 dX5_init_44 rfl (by decide) A_int G_RX5_23 rfl (by decide) (by decide) rfl (by decide) rfl (mi_a0 30 fun j => mi_z 7 j (by decide) (by decide)) trivial (by decide) (fun _ => ⟨rfl, rfl⟩) (by omega) (by omega) ?_
  refine px_aload_n dX5_init_47 rfl trivial ?_
  refine px_bipush (v := nI 30) dX5_init_48 (by decide) ?_
  refine mi_step (t := 1) (N := 30) (kf := 8) (a0 := .inr (.inr (.inl fun j => dz (mi_0.2.2 8 j)))) dX5_init_50 dX5_init_52 rfl (by decide) A_double G_RX5_26 rfl (by decide) (by decide) rfl (by decide) rfl (mi_a1 30 fun j => dz_z.symm) trivial (by decide) (fun _ => ⟨rfl, rfl⟩) (by omega) (by omega) ?_
  refine px_aload_n dX5_init_55 rfl trivial ?_
  refine px_bipush (v := nI 30) dX5_init_56 (by decide) ?_
  refine mi_step (t := 0) (N := 30) (kf := 10) (a0 := .inl fun j => nI (mi_0.2.1 10 j)) dX5_init_58 dX5_init_60 rfl (by decide) A_int G_RX5_29 rfl (by decide) (by decide) rfl (by decide) rfl (mi_a0 30 fun j => mi_z 10 j (by decide) (by decide)) trivial (by decide) (fun _ => ⟨rfl, rfl⟩) (by omega) (by omega) ?_
  refine px_aload_n dX5_init_63 rfl trivial ?_
  refine px_bipush (v := nI 30) dX5_init_64 (by decide) ?_
  refine mi_step (t := 1) (N := 30) (kf := 11) (a0 := .inr (.inr (.inl fun j => dz (mi_0.2.2 11 j)))) dX5_init_66 dX5_init_68 rfl (by decide) A_double G_RX5_32 rfl (by decide) (by decide) rfl (by decide) rfl (mi_a1 30 fun j => dz_z.symm) trivial (by decide) (fun _ => ⟨rfl, rfl⟩) (by omega) (by omega) ?_
  refine px_aload_n dX5_init_71 rfl trivial ?_
  refine px_bipush (v := nI 30) dX5_init_72 (by decide) ?_
  refine mi_step (t := 0) (N := 30) (kf := 12) (a0 := .inl fun j => nI (mi_0.2.1 12 j)) dX5_init_74 dX5_init_76 rfl (by decide) A_int G_RX5_35 rfl (by decide) (by decide) rfl (by decide) rfl (mi_a0 30 fun j => mi_z 12 j (by decide) (by decide)) trivial (by decide) (fun _ => ⟨rfl, rfl⟩) (by omega) (by omega) ?_
  refine px_aload_n dX5_init_79 rfl trivial ?_
  refine px_bipush (v := nI 10) dX5_init_80 (by decide) ?_
  refine mi_step (t := 0) (N := 10) (kf := 14) (a0 := .inl fun j => px_o (mi_0.2.1 14 j)) dX5_init_82 dX5_init_84 rfl (by decide) A_int G_RX5_38 rfl (by decide) (by decide) rfl (by decide) rfl (mi_a0 10 fun j => mi_zo 14 j (by decide)) trivial (by decide) (fun _ => ⟨rfl, rfl⟩) (by omega) (by omega) ?_
  refine px_aload_n dX5_init_87 rfl trivial ?_
  refine px_bipush (v := nI 50) dX5_init_88 (by decide) ?_
  refine mi_step (t := 0) (N := 50) (kf := 15) (a0 := .inl fun j => nI (mi_0.2.1 15 j)) dX5_init_90 dX5_init_92 rfl (by decide) A_int G_RX5_41 rfl (by decide) (by decide) rfl (by decide) rfl (mi_a0 50 fun j => mi_z 15 j (by decide) (by decide)) trivial (by decide) (fun _ => ⟨rfl, rfl⟩) (by omega) (by omega) ?_
  refine px_aload_n dX5_init_95 rfl trivial ?_
  refine px_bipush (v := nI 50) dX5_init_96 (by decide) ?_
  refine mi_step (t := 1) (N := 50) (kf := 16) (a0 := .inr (.inr (.inl fun j => dz (mi_0.2.2 16 j)))) dX5_init_98 dX5_init_100 rfl (by decide) A_double G_RX5_44 rfl (by decide) (by decide) rfl (by decide) rfl (mi_a1 50 fun j => dz_z.symm) trivial (by decide) (fun _ => ⟨rfl, rfl⟩) (by omega) (by omega) ?_
  refine px_aload_n dX5_init_103 rfl trivial ?_
  refine px_sipush (v := nI 26401) dX5_init_104 (by decide) ?_
  refine mi_step (t := 0) (N := 26401) (kf := 18) (a0 := .inl fun j => px_o (mi_0.2.1 18 j)) dX5_init_107 dX5_init_109 rfl (by decide) A_int G_RX5_47 rfl (by decide) (by decide) rfl (by decide) rfl (mi_a0 26401 fun j => mi_zo 18 j (by decide)) trivial (by decide) (fun _ => ⟨rfl, rfl⟩) (by omega) (by omega) ?_
  refine px_aload_n dX5_init_112 rfl trivial ?_
  refine px_sipush (v := nI 26401) dX5_init_113 (by decide) ?_
  refine mi_step (t := 0) (N := 26401) (kf := 19) (a0 := .inl fun j => nI (mi_0.2.1 19 j)) dX5_init_116 dX5_init_118 rfl (by decide) A_int G_RX5_50 rfl (by decide) (by decide) rfl (by decide) rfl (mi_a0 26401 fun j => mi_z 19 j (by decide) (by decide)) trivial (by decide) (fun _ => ⟨rfl, rfl⟩) (by omega) (by omega) ?_
  refine px_aload_n dX5_init_121 rfl trivial ?_
  refine px_sipush (v := nI 26401) dX5_init_122 (by decide) ?_
  refine mi_step (t := 1) (N := 26401) (kf := 20) (a0 := .inr (.inr (.inl fun j => dz (mi_0.2.2 20 j)))) dX5_init_125 dX5_init_127 rfl (by decide) A_double G_RX5_53 rfl (by decide) (by decide) rfl (by decide) rfl (mi_a1 26401 fun j => dz_z.symm) trivial (by decide) (fun _ => ⟨rfl, rfl⟩) (by omega) (by omega) ?_
  refine px_aload_n dX5_init_130 rfl trivial ?_
  refine px_sipush (v := nI 660) dX5_init_131 (by decide) ?_
  refine mi_step (t := 0) (N := 660) (kf := 21) (a0 := .inl fun j => nI (mi_0.2.1 21 j)) dX5_init_134 dX5_init_136 rfl (by decide) A_int G_RX5_56 rfl (by decide) (by decide) rfl (by decide) rfl (mi_a0 660 fun j => mi_z 21 j (by decide) (by decide)) trivial (by decide) (fun _ => ⟨rfl, rfl⟩) (by omega) (by omega) ?_
  refine px_aload_n dX5_init_139 rfl trivial ?_
  refine px_sipush (v := nI 321) dX5_init_140 (by decide) ?_
  refine mi_step (t := 0) (N := 321) (kf := 22) (a0 := .inl fun j => nI (mi_0.2.1 22 j)) dX5_init_143 dX5_init_145 rfl (by decide) A_int G_RX5_59 rfl (by decide) (by decide) rfl (by decide) rfl (mi_a0 321 fun j => mi_z 22 j (by decide) (by decide)) trivial (by decide) (fun _ => ⟨rfl, rfl⟩) (by omega) (by omega) ?_
  refine px_aload_n dX5_init_148 rfl trivial ?_
  refine px_sipush (v := nI 321) dX5_init_149 (by decide) ?_
  refine mi_step (t := 0) (N := 321) (kf := 23) (a0 := .inl fun j => nI (mi_0.2.1 23 j)) dX5_init_152 dX5_init_154 rfl (by decide) A_int G_RX5_62 rfl (by decide) (by decide) rfl (by decide) rfl (mi_a0 321 fun j => mi_z 23 j (by decide) (by decide)) trivial (by decide) (fun _ => ⟨rfl, rfl⟩) (by omega) (by omega) ?_
  refine px_aload_n dX5_init_157 rfl trivial ?_
  refine px_bipush (v := nI 60) dX5_init_158 (by decide) ?_
  refine mi_step (t := 2) (N := 60) (kf := 26) (a0 := .inl fun j => nI (mi_0.2.1 26 j)) dX5_init_160 dX5_init_162 rfl (by decide) A_boolean G_RX5_65 rfl (by decide) (by decide) rfl (by decide) rfl (mi_a2 60 fun j => mi_z 26 j (by decide) (by decide)) trivial (by decide) (fun _ => ⟨rfl, rfl⟩) (by omega) (by omega) ?_
  refine px_aload_n dX5_init_165 rfl trivial ?_
  refine px_bipush (v := nI 64) dX5_init_166 (by decide) ?_
  refine mi_step (t := 0) (N := 64) (kf := 27) (a0 := .inl fun j => nI (mi_0.2.1 27 j)) dX5_init_168 dX5_init_170 rfl (by decide) A_int G_RX5_69 rfl (by decide) (by decide) rfl (by decide) rfl (mi_a0 64 fun j => mi_z 27 j (by decide) (by decide)) trivial (by decide) (fun _ => ⟨rfl, rfl⟩) (by omega) (by omega) ?_
  refine px_aload_n dX5_init_173 rfl trivial ?_
  refine px_bipush (v := nI 64) dX5_init_174 (by decide) ?_
  refine mi_step (t := 0) (N := 64) (kf := 28) (a0 := .inl fun j => nI (mi_0.2.1 28 j)) dX5_init_176 dX5_init_178 rfl (by decide) A_int G_RX5_72 rfl (by decide) (by decide) rfl (by decide) rfl (mi_a0 64 fun j => mi_z 28 j (by decide) (by decide)) trivial (by decide) (fun _ => ⟨rfl, rfl⟩) (by omega) (by omega) ?_
  refine px_aload_n dX5_init_181 rfl trivial ?_
  refine px_bipush (v := nI 60) dX5_init_182 (by decide) ?_
  refine mi_step (t := 0) (N := 60) (kf := 29) (a0 := .inl fun j => nI (mi_0.2.1 29 j)) dX5_init_184 dX5_init_186 rfl (by decide) A_int G_RX5_75 rfl (by decide) (by decide) rfl (by decide) rfl (mi_a0 60 fun j => mi_z 29 j (by decide) (by decide)) trivial (by decide) (fun _ => ⟨rfl, rfl⟩) (by omega) (by omega) ?_
  refine px_aload_n dX5_init_189 rfl trivial ?_
  refine px_bipush (v := nI 60) dX5_init_190 (by decide) ?_
  refine mi_step (t := 1) (N := 60) (kf := 30) (a0 := .inr (.inr (.inl fun j => dz (mi_0.2.2 30 j)))) dX5_init_192 dX5_init_194 rfl (by decide) A_double G_RX5_78 rfl (by decide) (by decide) rfl (by decide) rfl (mi_a1 60 fun j => dz_z.symm) trivial (by decide) (fun _ => ⟨rfl, rfl⟩) (by omega) (by omega) ?_
  exact px_sub kk rfl
theorem mi_all (X : px_M) : mi [30, 29, 28, 27, 26, 23, 22, 21, 20, 19, 18, 16, 15, 14, 12, 11, 10, 8, 7, 5, 4, 3, 2] X = mm_M mi_0 X := by
  funext r
  obtain ⟨a, b⟩ := r
  by_cases ha : a = 1
  · subst ha
    show (if 1 = 1 then (if b = 0 then _ else if b ∈ _ then mm_cell mi_0 b else none) else _) = (if 1 = 1 then mm_cell mi_0 b else _)
    rw [if_pos rfl, if_pos rfl]
    by_cases hb : b = 0
    · rw [if_pos hb, hb]; rfl
    · rw [if_neg hb]
      split
      · rfl
      · rename_i hn
        simp only [List.mem_cons, List.not_mem_nil, or_false, not_or] at hn
        unfold mm_cell mm_kd
        split <;> first | rfl | (rename_i h; split at h <;> simp_all)
  · show (if a = 1 then _ else _) = (if a = 1 then _ else _)
    rw [if_neg ha, if_neg ha]
