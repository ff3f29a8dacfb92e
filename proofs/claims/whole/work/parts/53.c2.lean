/-! ===== what the class throws ===== -/
theorem cT_of {own E : String} {ik ic : Nat} (h1 : Bundle.fit E = true) (h2 : Cond.classLink own ik E ∈ px_T) (h3 : Cond.initialized E ∈ px_T) (h4 : ∀ w ∈ vx_atS own ic E ["java/lang/RuntimeException", "java/lang/Exception"], (w ∈ lw_tbl ∧ (goodWord w = true ∨ px_isN w = true)) ∧ vx_ot w = true) : px_thw own ik ic E :=
  ⟨h1, h2, h3, fun w hw => ⟨(h4 w hw).1.2.elim (fun g => Or.inl (List.mem_filter.mpr ⟨(h4 w hw).1.1, g⟩)) (fun g => Or.inr ⟨(h4 w hw).1.1, g⟩), (h4 w hw).2⟩⟩
set_option maxRecDepth 100000 in
theorem cT_77 : px_thw RX4 73 77 "java/lang/IllegalStateException" := cT_of (by decide) K_RX4_73 (px_mem 49 (by decide +kernel) rfl) (by decide +kernel)
set_option maxRecDepth 100000 in
theorem cT_169 : px_thw RX4 165 169 "java/lang/IndexOutOfBoundsException" := cT_of (by decide) K_RX4_165 (px_mem 53 (by decide +kernel) rfl) (by decide +kernel)
set_option maxRecDepth 100000 in
theorem cT_97 : px_thw RX4 93 97 "java/lang/IllegalArgumentException" := cT_of (by decide) K_RX4_93 (px_mem 54 (by decide +kernel) rfl) (by decide +kernel)
