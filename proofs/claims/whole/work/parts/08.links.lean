theorem px_mem {w : Cond} (i : Nat) (h : lw_tbl[i]? = some w) (g : goodWord w = true) : w ∈ px_T := List.mem_filter.mpr ⟨List.mem_of_getElem? h, g⟩
def mX4_init : px_Y := (yX4_init, cX4_init, 1, none, [])
theorem W_mX4_init : px_cw mX4_init ∈ px_T := px_mem 70 (by decide +kernel) rfl
def mJx4a65c_init_da8c8 : px_Y := (yJx4a65c_init_da8c8, cJx4a65c_init_da8c8, 1, none, [])
theorem W_mJx4a65c_init_da8c8 : px_cw mJx4a65c_init_da8c8 ∈ px_T := px_mem 78 (by decide +kernel) rfl
def mJxc12de_init_da8c8 : px_Y := (yJxc12de_init_da8c8, cJxc12de_init_da8c8, 1, none, [])
theorem W_mJxc12de_init_da8c8 : px_cw mJxc12de_init_da8c8 ∈ px_T := px_mem 81 (by decide +kernel) rfl
def mJxa1e45_init_da8c8 : px_Y := (yJxa1e45_init_da8c8, cJxa1e45_init_da8c8, 1, none, [])
theorem W_mJxa1e45_init_da8c8 : px_cw mJxa1e45_init_da8c8 ∈ px_T := px_mem 84 (by decide +kernel) rfl
def mX1_init : px_Y := (yX1_init, cX1_init, 3, none, [])
theorem W_mX1_init : px_cw mX1_init ∈ px_T := px_mem 104 (by decide +kernel) rfl
def mX3_init : px_Y := (yX3_init, cX3_init, 2, none, [])
theorem W_mX3_init : px_cw mX3_init ∈ px_T := px_mem 113 (by decide +kernel) rfl
def mJ7_fill_53178 : px_Y := (yJ7_fill_53178, cJ7_fill_53178, 4, none, [])
theorem W_mJ7_fill_53178 : px_cw mJ7_fill_53178 ∈ px_T := px_mem 171 (by decide +kernel) rfl
def mX4_back : px_Y := (yX4_back, cX4_back, 2, some (Jvm.ClassFile.FieldType.boolean), [])
theorem W_mX4_back : px_cw mX4_back ∈ px_T := px_mem 209 (by decide +kernel) rfl
def mJx4a65c_isEmpty_aae02 : px_Y := (yJx4a65c_isEmpty_aae02, cJx4a65c_isEmpty_aae02, 1, some (Jvm.ClassFile.FieldType.boolean), [])
theorem W_mJx4a65c_isEmpty_aae02 : px_cw mJx4a65c_isEmpty_aae02 ∈ px_T := px_mem 213 (by decide +kernel) rfl
def mJx4a65c_size_8abf5 : px_Y := (yJx4a65c_size_8abf5, cJx4a65c_size_8abf5, 1, some (Jvm.ClassFile.FieldType.int), [])
theorem W_mJx4a65c_size_8abf5 : px_cw mJx4a65c_size_8abf5 ∈ px_T := px_mem 217 (by decide +kernel) rfl
def mJx4a65c_remove_915e3 : px_Y := (yJx4a65c_remove_915e3, cJx4a65c_remove_915e3, 4, some ((Jvm.ClassFile.FieldType.object "java/lang/Object")), [])
theorem W_mJx4a65c_remove_915e3 : px_cw mJx4a65c_remove_915e3 ∈ px_T := px_mem 221 (by decide +kernel) rfl
def mJ15_checkIndex_7cf53 : px_Y := (yJ15_checkIndex_7cf53, cJ15_checkIndex_7cf53, 2, some (Jvm.ClassFile.FieldType.int), [])
theorem W_mJ15_checkIndex_7cf53 : px_cw mJ15_checkIndex_7cf53 ∈ px_T := px_mem 224 (by decide +kernel) rfl
def mJ3_checkIndex_8e157 : px_Y := (yJ3_checkIndex_8e157, cJ3_checkIndex_8e157, 3, some (Jvm.ClassFile.FieldType.int), [])
theorem W_mJ3_checkIndex_8e157 : px_cw mJ3_checkIndex_8e157 ∈ px_T := px_mem 227 (by decide +kernel) rfl
def mJx4a65c_fastRemove_b59b0 : px_Y := (yJx4a65c_fastRemove_b59b0, cJx4a65c_fastRemove_b59b0, 4, none, [])
theorem W_mJx4a65c_fastRemove_b59b0 : px_cw mJx4a65c_fastRemove_b59b0 ∈ px_T := px_mem 231 (by decide +kernel) rfl
def mL_pin : px_Y := (yL_pin, cL_pin, 3, some (Jvm.ClassFile.FieldType.int), [(0, 8, 11, 13)])
theorem W_mL_pin : px_cw mL_pin ∈ px_T := px_mem 238 (by decide +kernel) rfl
def mX4_pin : px_Y := (yX4_pin, cX4_pin, 2, some (Jvm.ClassFile.FieldType.int), [])
theorem W_mX4_pin : px_cw mX4_pin ∈ px_T := px_mem 243 (by decide +kernel) rfl
def mJx4a65c_add_9ea2d : px_Y := (yJx4a65c_add_9ea2d, cJx4a65c_add_9ea2d, 2, some (Jvm.ClassFile.FieldType.boolean), [])
theorem W_mJx4a65c_add_9ea2d : px_cw mJx4a65c_add_9ea2d ∈ px_T := px_mem 315 (by decide +kernel) rfl
def mJx4a65c_add_72be8 : px_Y := (yJx4a65c_add_72be8, cJx4a65c_add_72be8, 4, none, [])
theorem W_mJx4a65c_add_72be8 : px_cw mJx4a65c_add_72be8 ∈ px_T := px_mem 319 (by decide +kernel) rfl
def mJx4a65c_grow_d5877 : px_Y := (yJx4a65c_grow_d5877, cJx4a65c_grow_d5877, 1, some ((Jvm.ClassFile.FieldType.array (Jvm.ClassFile.FieldType.object "java/lang/Object"))), [])
theorem W_mJx4a65c_grow_d5877 : px_cw mJx4a65c_grow_d5877 ∈ px_T := px_mem 323 (by decide +kernel) rfl
def mJx4a65c_grow_92f84 : px_Y := (yJx4a65c_grow_92f84, cJx4a65c_grow_92f84, 4, some ((Jvm.ClassFile.FieldType.array (Jvm.ClassFile.FieldType.object "java/lang/Object"))), [])
theorem W_mJx4a65c_grow_92f84 : px_cw mJx4a65c_grow_92f84 ∈ px_T := px_mem 327 (by decide +kernel) rfl
def mJ8_newLength_cabcc : px_Y := (yJ8_newLength_cabcc, cJ8_newLength_cabcc, 4, some (Jvm.ClassFile.FieldType.int), [])
theorem W_mJ8_newLength_cabcc : px_cw mJ8_newLength_cabcc ∈ px_T := px_mem 330 (by decide +kernel) rfl
def mJ9_max_7cf53 : px_Y := (yJ9_max_7cf53, cJ9_max_7cf53, 2, some (Jvm.ClassFile.FieldType.int), [])
theorem W_mJ9_max_7cf53 : px_cw mJ9_max_7cf53 ∈ px_T := px_mem 333 (by decide +kernel) rfl
def mJ8_hugeLength_7cf53 : px_Y := (yJ8_hugeLength_7cf53, cJ8_hugeLength_7cf53, 3, some (Jvm.ClassFile.FieldType.int), [])
theorem W_mJ8_hugeLength_7cf53 : px_cw mJ8_hugeLength_7cf53 ∈ px_T := px_mem 337 (by decide +kernel) rfl
def mJ7_copyOf_1904c : px_Y := (yJ7_copyOf_1904c, cJ7_copyOf_1904c, 2, some ((Jvm.ClassFile.FieldType.array (Jvm.ClassFile.FieldType.object "java/lang/Object"))), [])
theorem W_mJ7_copyOf_1904c : px_cw mJ7_copyOf_1904c ∈ px_T := px_mem 340 (by decide +kernel) rfl
def mJ7_copyOf_6403c : px_Y := (yJ7_copyOf_6403c, cJ7_copyOf_6403c, 4, some ((Jvm.ClassFile.FieldType.array (Jvm.ClassFile.FieldType.object "java/lang/Object"))), [])
theorem W_mJ7_copyOf_6403c : px_cw mJ7_copyOf_6403c ∈ px_T := px_mem 359 (by decide +kernel) rfl
def mJ9_min_7cf53 : px_Y := (yJ9_min_7cf53, cJ9_min_7cf53, 2, some (Jvm.ClassFile.FieldType.int), [])
theorem W_mJ9_min_7cf53 : px_cw mJ9_min_7cf53 ∈ px_T := px_mem 365 (by decide +kernel) rfl
def mL_arc : px_Y := (yL_arc, cL_arc, 7, some (Jvm.ClassFile.FieldType.int), [(0, 12, 15, 19), (0, 12, 19, 13), (0, 12, 23, 21)])
theorem W_mL_arc : px_cw mL_arc ∈ px_T := px_mem 371 (by decide +kernel) rfl
def mX4_arc : px_Y := (yX4_arc, cX4_arc, 8, some (Jvm.ClassFile.FieldType.int), [])
theorem W_mX4_arc : px_cw mX4_arc ∈ px_T := px_mem 377 (by decide +kernel) rfl
def mX4_checkIndex : px_Y := (yX4_checkIndex, cX4_checkIndex, 2, none, [])
theorem W_mX4_checkIndex : px_cw mX4_checkIndex ∈ px_T := px_mem 380 (by decide +kernel) rfl
def mX4_isDelay : px_Y := (yX4_isDelay, cX4_isDelay, 2, some (Jvm.ClassFile.FieldType.boolean), [])
theorem W_mX4_isDelay : px_cw mX4_isDelay ∈ px_T := px_mem 400 (by decide +kernel) rfl
def mX4_isTime : px_Y := (yX4_isTime, cX4_isTime, 2, some (Jvm.ClassFile.FieldType.boolean), [])
theorem W_mX4_isTime : px_cw mX4_isTime ∈ px_T := px_mem 403 (by decide +kernel) rfl
def mJx4a65c_get_915e3 : px_Y := (yJx4a65c_get_915e3, cJx4a65c_get_915e3, 2, some ((Jvm.ClassFile.FieldType.object "java/lang/Object")), [])
theorem W_mJx4a65c_get_915e3 : px_cw mJx4a65c_get_915e3 ∈ px_T := px_mem 426 (by decide +kernel) rfl
def mJx4a65c_elementData_915e3 : px_Y := (yJx4a65c_elementData_915e3, cJx4a65c_elementData_915e3, 2, some ((Jvm.ClassFile.FieldType.object "java/lang/Object")), [])
theorem W_mJx4a65c_elementData_915e3 : px_cw mJx4a65c_elementData_915e3 ∈ px_T := px_mem 430 (by decide +kernel) rfl
def mX4_spread : px_Y := (yX4_spread, cX4_spread, 5, none, [])
theorem W_mX4_spread : px_cw mX4_spread ∈ px_T := px_mem 434 (by decide +kernel) rfl
def mX4_spreadFurther : px_Y := (yX4_spreadFurther, cX4_spreadFurther, 7, none, [])
theorem W_mX4_spreadFurther : px_cw mX4_spreadFurther ∈ px_T := px_mem 439 (by decide +kernel) rfl
def mX4_placeReachedLast : px_Y := (yX4_placeReachedLast, cX4_placeReachedLast, 4, none, [])
theorem W_mX4_placeReachedLast : px_cw mX4_placeReachedLast ∈ px_T := px_mem 445 (by decide +kernel) rfl
def mJx4a65c_add_7a177 : px_Y := (yJx4a65c_add_7a177, cJx4a65c_add_7a177, 5, none, [])
theorem W_mJx4a65c_add_7a177 : px_cw mJx4a65c_add_7a177 ∈ px_T := px_mem 449 (by decide +kernel) rfl
def mJx4a65c_rangeCheckForAdd_d00df : px_Y := (yJx4a65c_rangeCheckForAdd_d00df, cJx4a65c_rangeCheckForAdd_d00df, 2, none, [])
theorem W_mJx4a65c_rangeCheckForAdd_d00df : px_cw mJx4a65c_rangeCheckForAdd_d00df ∈ px_T := px_mem 453 (by decide +kernel) rfl
def mJx4a65c_outOfBoundsMsg_b52d3 : px_Y := (yJx4a65c_outOfBoundsMsg_b52d3, cJx4a65c_outOfBoundsMsg_b52d3, 2, some ((Jvm.ClassFile.FieldType.object "java/lang/String")), [])
theorem W_mJx4a65c_outOfBoundsMsg_b52d3 : px_cw mJx4a65c_outOfBoundsMsg_b52d3 ∈ px_T := px_mem 458 (by decide +kernel) rfl
def mJ7_copyOf_9075b : px_Y := (yJ7_copyOf_9075b, cJ7_copyOf_9075b, 3, some ((Jvm.ClassFile.FieldType.array Jvm.ClassFile.FieldType.byte)), [])
theorem W_mJ7_copyOf_9075b : px_cw mJ7_copyOf_9075b ∈ px_T := px_mem 514 (by decide +kernel) rfl
def mJ3_checkFromToIndex_8c36e : px_Y := (yJ3_checkFromToIndex_8c36e, cJ3_checkFromToIndex_8c36e, 4, some (Jvm.ClassFile.FieldType.int), [])
theorem W_mJ3_checkFromToIndex_8c36e : px_cw mJ3_checkFromToIndex_8c36e ∈ px_T := px_mem 543 (by decide +kernel) rfl
def mJ3_checkFromIndexSize_8c36e : px_Y := (yJ3_checkFromIndexSize_8c36e, cJ3_checkFromIndexSize_8c36e, 4, some (Jvm.ClassFile.FieldType.int), [])
theorem W_mJ3_checkFromIndexSize_8c36e : px_cw mJ3_checkFromIndexSize_8c36e ∈ px_T := px_mem 589 (by decide +kernel) rfl
def mJ7_copyOfRange_39247 : px_Y := (yJ7_copyOfRange_39247, cJ7_copyOfRange_39247, 3, some ((Jvm.ClassFile.FieldType.array Jvm.ClassFile.FieldType.byte)), [])
theorem W_mJ7_copyOfRange_39247 : px_cw mJ7_copyOfRange_39247 ∈ px_T := px_mem 651 (by decide +kernel) rfl
def mJ7_copyOfRangeByte_39247 : px_Y := (yJ7_copyOfRangeByte_39247, cJ7_copyOfRangeByte_39247, 5, some ((Jvm.ClassFile.FieldType.array Jvm.ClassFile.FieldType.byte)), [])
theorem W_mJ7_copyOfRangeByte_39247 : px_cw mJ7_copyOfRangeByte_39247 ∈ px_T := px_mem 654 (by decide +kernel) rfl
def mJ7_checkLength_df160 : px_Y := (yJ7_checkLength_df160, cJ7_checkLength_df160, 2, none, [])
theorem W_mJ7_checkLength_df160 : px_cw mJ7_checkLength_df160 ∈ px_T := px_mem 657 (by decide +kernel) rfl
def mX2_init : px_Y := (yX2_init, cX2_init, 6, none, [])
theorem W_mX2_init : px_cw mX2_init ∈ px_T := px_mem 694 (by decide +kernel) rfl
def mL_end : px_Y := (yL_end, cL_end, 6, some (Jvm.ClassFile.FieldType.int), [(0, 11, 14, 19), (0, 11, 18, 13), (0, 11, 22, 21)])
theorem W_mL_end : px_cw mL_end ∈ px_T := px_mem 723 (by decide +kernel) rfl
def mX4_end : px_Y := (yX4_end, cX4_end, 6, some (Jvm.ClassFile.FieldType.int), [])
theorem W_mX4_end : px_cw mX4_end ∈ px_T := px_mem 727 (by decide +kernel) rfl
def mX4_checkTime : px_Y := (yX4_checkTime, cX4_checkTime, 2, none, [])
theorem W_mX4_checkTime : px_cw mX4_checkTime ∈ px_T := px_mem 731 (by decide +kernel) rfl
def mL_start : px_Y := (yL_start, cL_start, 6, some (Jvm.ClassFile.FieldType.int), [(0, 11, 14, 19), (0, 11, 18, 13), (0, 11, 22, 21)])
theorem W_mL_start : px_cw mL_start ∈ px_T := px_mem 735 (by decide +kernel) rfl
def mX4_start : px_Y := (yX4_start, cX4_start, 6, some (Jvm.ClassFile.FieldType.int), [])
theorem W_mX4_start : px_cw mX4_start ∈ px_T := px_mem 739 (by decide +kernel) rfl
def mL_through : px_Y := (yL_through, cL_through, 5, some (Jvm.ClassFile.FieldType.int), [(0, 17, 20, 19), (0, 17, 24, 21)])
theorem W_mL_through : px_cw mL_through ∈ px_T := px_mem 743 (by decide +kernel) rfl
def mX4_through : px_Y := (yX4_through, cX4_through, 3, some (Jvm.ClassFile.FieldType.boolean), [])
theorem W_mX4_through : px_cw mX4_through ∈ px_T := px_mem 747 (by decide +kernel) rfl
def mL_run : px_Y := (yL_run, cL_run, 4, some (Jvm.ClassFile.FieldType.int), [(0, 9, 12, 21)])
theorem W_mL_run : px_cw mL_run ∈ px_T := px_mem 751 (by decide +kernel) rfl
def mX4_run : px_Y := (yX4_run, cX4_run, 3, some (Jvm.ClassFile.FieldType.int), [])
theorem W_mX4_run : px_cw mX4_run ∈ px_T := px_mem 755 (by decide +kernel) rfl
def mX4_throughRises : px_Y := (yX4_throughRises, cX4_throughRises, 4, some (Jvm.ClassFile.FieldType.boolean), [])
theorem W_mX4_throughRises : px_cw mX4_throughRises ∈ px_T := px_mem 760 (by decide +kernel) rfl
def mX4_placeOfOrder : px_Y := (yX4_placeOfOrder, cX4_placeOfOrder, 3, some (Jvm.ClassFile.FieldType.int), [])
theorem W_mX4_placeOfOrder : px_cw mX4_placeOfOrder ∈ px_T := px_mem 764 (by decide +kernel) rfl
def mX4_gather : px_Y := (yX4_gather, cX4_gather, 6, none, [])
theorem W_mX4_gather : px_cw mX4_gather ∈ px_T := px_mem 768 (by decide +kernel) rfl
def mX4_leavesOut : px_Y := (yX4_leavesOut, cX4_leavesOut, 4, some (Jvm.ClassFile.FieldType.boolean), [])
theorem W_mX4_leavesOut : px_cw mX4_leavesOut ∈ px_T := px_mem 772 (by decide +kernel) rfl
def mX4_firstOf : px_Y := (yX4_firstOf, cX4_firstOf, 6, some ((Jvm.ClassFile.FieldType.object "PathLists$Step")), [])
theorem W_mX4_firstOf : px_cw mX4_firstOf ∈ px_T := px_mem 776 (by decide +kernel) rfl
def mX4_hasNext : px_Y := (yX4_hasNext, cX4_hasNext, 4, some (Jvm.ClassFile.FieldType.boolean), [])
theorem W_mX4_hasNext : px_cw mX4_hasNext ∈ px_T := px_mem 780 (by decide +kernel) rfl
def mX4_groupOfNext : px_Y := (yX4_groupOfNext, cX4_groupOfNext, 2, some (Jvm.ClassFile.FieldType.int), [])
theorem W_mX4_groupOfNext : px_cw mX4_groupOfNext ∈ px_T := px_mem 784 (by decide +kernel) rfl
def mX4_leftByNext : px_Y := (yX4_leftByNext, cX4_leftByNext, 2, some (Jvm.ClassFile.FieldType.double), [])
theorem W_mX4_leftByNext : px_cw mX4_leftByNext ∈ px_T := px_mem 788 (by decide +kernel) rfl
def mX4_take : px_Y := (yX4_take, cX4_take, 4, none, [])
theorem W_mX4_take : px_cw mX4_take ∈ px_T := px_mem 792 (by decide +kernel) rfl
def mL_slack : px_Y := (yL_slack, cL_slack, 4, some (Jvm.ClassFile.FieldType.int), [(0, 8, 11, 13), (0, 8, 14, 19)])
theorem W_mL_slack : px_cw mL_slack ∈ px_T := px_mem 795 (by decide +kernel) rfl
def mX4_slack : px_Y := (yX4_slack, cX4_slack, 2, some (Jvm.ClassFile.FieldType.double), [])
theorem W_mX4_slack : px_cw mX4_slack ∈ px_T := px_mem 799 (by decide +kernel) rfl
def mX4_checkListed : px_Y := (yX4_checkListed, cX4_checkListed, 1, none, [])
theorem W_mX4_checkListed : px_cw mX4_checkListed ∈ px_T := px_mem 803 (by decide +kernel) rfl
def mL_at : px_Y := (yL_at, cL_at, 5, some (Jvm.ClassFile.FieldType.int), [(0, 10, 13, 13), (0, 10, 17, 19)])
theorem W_mL_at : px_cw mL_at ∈ px_T := px_mem 807 (by decide +kernel) rfl
def mX4_at : px_Y := (yX4_at, cX4_at, 4, some (Jvm.ClassFile.FieldType.int), [])
theorem W_mX4_at : px_cw mX4_at ∈ px_T := px_mem 811 (by decide +kernel) rfl
def mX4_stepOf : px_Y := (yX4_stepOf, cX4_stepOf, 7, some ((Jvm.ClassFile.FieldType.object "PathLists$Step")), [])
theorem W_mX4_stepOf : px_cw mX4_stepOf ∈ px_T := px_mem 815 (by decide +kernel) rfl
def mX4_firstStep : px_Y := (yX4_firstStep, cX4_firstStep, 2, some ((Jvm.ClassFile.FieldType.object "PathLists$Step")), [])
theorem W_mX4_firstStep : px_cw mX4_firstStep ∈ px_T := px_mem 818 (by decide +kernel) rfl
def mL_group : px_Y := (yL_group, cL_group, 5, some (Jvm.ClassFile.FieldType.int), [(0, 10, 13, 19), (0, 10, 17, 21)])
theorem W_mL_group : px_cw mL_group ∈ px_T := px_mem 822 (by decide +kernel) rfl
def mX4_group : px_Y := (yX4_group, cX4_group, 5, some (Jvm.ClassFile.FieldType.int), [])
theorem W_mX4_group : px_cw mX4_group ∈ px_T := px_mem 826 (by decide +kernel) rfl
def mL_model : px_Y := (yL_model, cL_model, 4, some (Jvm.ClassFile.FieldType.int), [(0, 9, 12, 19)])
theorem W_mL_model : px_cw mL_model ∈ px_T := px_mem 830 (by decide +kernel) rfl
def mX4_model : px_Y := (yX4_model, cX4_model, 5, some (Jvm.ClassFile.FieldType.int), [])
theorem W_mX4_model : px_cw mX4_model ∈ px_T := px_mem 834 (by decide +kernel) rfl
def mX4_isInput : px_Y := (yX4_isInput, cX4_isInput, 3, some (Jvm.ClassFile.FieldType.boolean), [])
theorem W_mX4_isInput : px_cw mX4_isInput ∈ px_T := px_mem 837 (by decide +kernel) rfl
def mX4_countReachedOutputs : px_Y := (yX4_countReachedOutputs, cX4_countReachedOutputs, 5, some (Jvm.ClassFile.FieldType.int), [])
theorem W_mX4_countReachedOutputs : px_cw mX4_countReachedOutputs ∈ px_T := px_mem 841 (by decide +kernel) rfl
def mX4_isOutput : px_Y := (yX4_isOutput, cX4_isOutput, 3, some (Jvm.ClassFile.FieldType.boolean), [])
theorem W_mX4_isOutput : px_cw mX4_isOutput ∈ px_T := px_mem 844 (by decide +kernel) rfl
def mL_into : px_Y := (yL_into, cL_into, 5, some (Jvm.ClassFile.FieldType.int), [(0, 17, 20, 19)])
theorem W_mL_into : px_cw mL_into ∈ px_T := px_mem 847 (by decide +kernel) rfl
def mX4_into : px_Y := (yX4_into, cX4_into, 5, some (Jvm.ClassFile.FieldType.boolean), [])
theorem W_mX4_into : px_cw mX4_into ∈ px_T := px_mem 851 (by decide +kernel) rfl
def mL_reduced : px_Y := (yL_reduced, cL_reduced, 6, some (Jvm.ClassFile.FieldType.int), [(0, 11, 14, 19)])
theorem W_mL_reduced : px_cw mL_reduced ∈ px_T := px_mem 854 (by decide +kernel) rfl
def mX4_reduced : px_Y := (yX4_reduced, cX4_reduced, 6, some (Jvm.ClassFile.FieldType.double), [])
theorem W_mX4_reduced : px_cw mX4_reduced ∈ px_T := px_mem 858 (by decide +kernel) rfl
def mL_budget : px_Y := (yL_budget, cL_budget, 5, some (Jvm.ClassFile.FieldType.int), [(0, 9, 12, 13), (0, 9, 16, 19)])
theorem W_mL_budget : px_cw mL_budget ∈ px_T := px_mem 861 (by decide +kernel) rfl
def mX4_budget : px_Y := (yX4_budget, cX4_budget, 9, some (Jvm.ClassFile.FieldType.double), [])
theorem W_mX4_budget : px_cw mX4_budget ∈ px_T := px_mem 865 (by decide +kernel) rfl
def mL_whatIf : px_Y := (yL_whatIf, cL_whatIf, 6, some (Jvm.ClassFile.FieldType.int), [(0, 18, 21, 19), (0, 18, 25, 13), (0, 18, 29, 21)])
theorem W_mL_whatIf : px_cw mL_whatIf ∈ px_T := px_mem 868 (by decide +kernel) rfl
def mX4_whatIf : px_Y := (yX4_whatIf, cX4_whatIf, 5, some (Jvm.ClassFile.FieldType.boolean), [])
theorem W_mX4_whatIf : px_cw mX4_whatIf ∈ px_T := px_mem 872 (by decide +kernel) rfl
def mX0_init : px_Y := (yX0_init, cX0_init, 4, none, [])
theorem W_mX0_init : px_cw mX0_init ∈ px_T := px_mem 877 (by decide +kernel) rfl
def mX5_init : px_Y := (yX5_init, cX5_init, 2, none, [])
theorem W_mX5_init : px_cw mX5_init ∈ px_T := px_mem 892 (by decide +kernel) rfl
def mX5_thrown : px_Y := (yX5_thrown, cX5_thrown, 1, some (Jvm.ClassFile.FieldType.int), [])
theorem W_mX5_thrown : px_cw mX5_thrown ∈ px_T := px_mem 992 (by decide +kernel) rfl
def mX5_pin : px_Y := (yX5_pin, cX5_pin, 1, some (Jvm.ClassFile.FieldType.int), [])
theorem W_mX5_pin : px_cw mX5_pin ∈ px_T := px_mem 996 (by decide +kernel) rfl
def mX5_arc : px_Y := (yX5_arc, cX5_arc, 5, some (Jvm.ClassFile.FieldType.int), [])
theorem W_mX5_arc : px_cw mX5_arc ∈ px_T := px_mem 1000 (by decide +kernel) rfl
def mX5_isPin : px_Y := (yX5_isPin, cX5_isPin, 2, some (Jvm.ClassFile.FieldType.boolean), [])
theorem W_mX5_isPin : px_cw mX5_isPin ∈ px_T := px_mem 1004 (by decide +kernel) rfl
def mX5_isTime : px_Y := (yX5_isTime, cX5_isTime, 6, some (Jvm.ClassFile.FieldType.boolean), [])
theorem W_mX5_isTime : px_cw mX5_isTime ∈ px_T := px_mem 1007 (by decide +kernel) rfl
def mX5_spread : px_Y := (yX5_spread, cX5_spread, 6, none, [])
theorem W_mX5_spread : px_cw mX5_spread ∈ px_T := px_mem 1013 (by decide +kernel) rfl
def mX5_end : px_Y := (yX5_end, cX5_end, 4, some (Jvm.ClassFile.FieldType.int), [])
theorem W_mX5_end : px_cw mX5_end ∈ px_T := px_mem 1017 (by decide +kernel) rfl
def mX5_start : px_Y := (yX5_start, cX5_start, 4, some (Jvm.ClassFile.FieldType.int), [])
theorem W_mX5_start : px_cw mX5_start ∈ px_T := px_mem 1022 (by decide +kernel) rfl
def mX5_through : px_Y := (yX5_through, cX5_through, 3, some (Jvm.ClassFile.FieldType.boolean), [])
theorem W_mX5_through : px_cw mX5_through ∈ px_T := px_mem 1026 (by decide +kernel) rfl
def mX5_group : px_Y := (yX5_group, cX5_group, 5, some (Jvm.ClassFile.FieldType.int), [])
theorem W_mX5_group : px_cw mX5_group ∈ px_T := px_mem 1030 (by decide +kernel) rfl
def mX5_run : px_Y := (yX5_run, cX5_run, 7, some (Jvm.ClassFile.FieldType.int), [])
theorem W_mX5_run : px_cw mX5_run ∈ px_T := px_mem 1034 (by decide +kernel) rfl
def mX5_gather : px_Y := (yX5_gather, cX5_gather, 8, none, [])
theorem W_mX5_gather : px_cw mX5_gather ∈ px_T := px_mem 1038 (by decide +kernel) rfl
def mX5_arrange : px_Y := (yX5_arrange, cX5_arrange, 5, none, [])
theorem W_mX5_arrange : px_cw mX5_arrange ∈ px_T := px_mem 1042 (by decide +kernel) rfl
def mX5_met : px_Y := (yX5_met, cX5_met, 4, some (Jvm.ClassFile.FieldType.int), [])
theorem W_mX5_met : px_cw mX5_met ∈ px_T := px_mem 1046 (by decide +kernel) rfl
def mX5_come : px_Y := (yX5_come, cX5_come, 13, none, [])
theorem W_mX5_come : px_cw mX5_come ∈ px_T := px_mem 1050 (by decide +kernel) rfl
def mX5_compareRows : px_Y := (yX5_compareRows, cX5_compareRows, 8, some (Jvm.ClassFile.FieldType.int), [])
theorem W_mX5_compareRows : px_cw mX5_compareRows ∈ px_T := px_mem 1054 (by decide +kernel) rfl
def mX5_startOf : px_Y := (yX5_startOf, cX5_startOf, 3, some (Jvm.ClassFile.FieldType.int), [])
theorem W_mX5_startOf : px_cw mX5_startOf ∈ px_T := px_mem 1058 (by decide +kernel) rfl
def mX5_unroll : px_Y := (yX5_unroll, cX5_unroll, 6, some (Jvm.ClassFile.FieldType.int), [])
theorem W_mX5_unroll : px_cw mX5_unroll ∈ px_T := px_mem 1062 (by decide +kernel) rfl
def mX5_enlist : px_Y := (yX5_enlist, cX5_enlist, 8, none, [])
theorem W_mX5_enlist : px_cw mX5_enlist ∈ px_T := px_mem 1066 (by decide +kernel) rfl
def mX5_isBefore : px_Y := (yX5_isBefore, cX5_isBefore, 8, some (Jvm.ClassFile.FieldType.boolean), [])
theorem W_mX5_isBefore : px_cw mX5_isBefore ∈ px_T := px_mem 1070 (by decide +kernel) rfl
def mX5_slackOf : px_Y := (yX5_slackOf, cX5_slackOf, 2, some (Jvm.ClassFile.FieldType.double), [])
theorem W_mX5_slackOf : px_cw mX5_slackOf ∈ px_T := px_mem 1074 (by decide +kernel) rfl
def mX5_slack : px_Y := (yX5_slack, cX5_slack, 2, some (Jvm.ClassFile.FieldType.double), [])
theorem W_mX5_slack : px_cw mX5_slack ∈ px_T := px_mem 1078 (by decide +kernel) rfl
def mX5_faultOf : px_Y := (yX5_faultOf, cX5_faultOf, 2, some (Jvm.ClassFile.FieldType.int), [])
theorem W_mX5_faultOf : px_cw mX5_faultOf ∈ px_T := px_mem 1082 (by decide +kernel) rfl
def mX5_at : px_Y := (yX5_at, cX5_at, 4, some (Jvm.ClassFile.FieldType.int), [])
theorem W_mX5_at : px_cw mX5_at ∈ px_T := px_mem 1086 (by decide +kernel) rfl
def mX5_budget : px_Y := (yX5_budget, cX5_budget, 9, some (Jvm.ClassFile.FieldType.double), [])
theorem W_mX5_budget : px_cw mX5_budget ∈ px_T := px_mem 1090 (by decide +kernel) rfl
def mX5_model : px_Y := (yX5_model, cX5_model, 5, some (Jvm.ClassFile.FieldType.int), [])
theorem W_mX5_model : px_cw mX5_model ∈ px_T := px_mem 1094 (by decide +kernel) rfl
def mX5_isReduced : px_Y := (yX5_isReduced, cX5_isReduced, 4, some (Jvm.ClassFile.FieldType.boolean), [])
theorem W_mX5_isReduced : px_cw mX5_isReduced ∈ px_T := px_mem 1098 (by decide +kernel) rfl
def mX5_isEdge : px_Y := (yX5_isEdge, cX5_isEdge, 5, some (Jvm.ClassFile.FieldType.boolean), [])
theorem W_mX5_isEdge : px_cw mX5_isEdge ∈ px_T := px_mem 1102 (by decide +kernel) rfl
def mX5_reduced : px_Y := (yX5_reduced, cX5_reduced, 7, some (Jvm.ClassFile.FieldType.double), [])
theorem W_mX5_reduced : px_cw mX5_reduced ∈ px_T := px_mem 1106 (by decide +kernel) rfl
def mX5_into : px_Y := (yX5_into, cX5_into, 3, some (Jvm.ClassFile.FieldType.boolean), [])
theorem W_mX5_into : px_cw mX5_into ∈ px_T := px_mem 1111 (by decide +kernel) rfl
def mX5_whatIf : px_Y := (yX5_whatIf, cX5_whatIf, 4, some (Jvm.ClassFile.FieldType.boolean), [])
theorem W_mX5_whatIf : px_cw mX5_whatIf ∈ px_T := px_mem 1115 (by decide +kernel) rfl
def mX5_back : px_Y := (yX5_back, cX5_back, 1, some (Jvm.ClassFile.FieldType.boolean), [])
theorem W_mX5_back : px_cw mX5_back ∈ px_T := px_mem 1119 (by decide +kernel) rfl
theorem K_RL_8 : Cond.classLink RL 8 RX4 ∈ px_T := px_mem 66 (by decide +kernel) rfl
theorem L_RL_67 : px_lkI RL 67 0 mX4_init := ⟨⟨px_mem 38 (by decide +kernel) rfl, W_mX4_init, ⟨by decide, by decide⟩, by decide +kernel, by decide⟩, rfl, rfl, px_mem 69 (by decide +kernel) rfl, Or.inl (px_mem 68 (by decide +kernel) rfl)⟩
theorem K_RX4_9 : Cond.classLink RX4 9 RJx4a65c ∈ px_T := px_mem 74 (by decide +kernel) rfl
theorem L_RX4_11 : px_lkI RX4 11 0 mJx4a65c_init_da8c8 := ⟨⟨px_mem 41 (by decide +kernel) rfl, W_mJx4a65c_init_da8c8, ⟨by decide, by decide⟩, by decide +kernel, by decide⟩, rfl, rfl, px_mem 77 (by decide +kernel) rfl, Or.inl (px_mem 76 (by decide +kernel) rfl)⟩
theorem L_RJx4a65c_1 : px_lkI RJx4a65c 1 0 mJxc12de_init_da8c8 := ⟨⟨px_mem 40 (by decide +kernel) rfl, W_mJxc12de_init_da8c8, ⟨by decide, by decide⟩, by decide +kernel, by decide⟩, rfl, rfl, px_mem 80 (by decide +kernel) rfl, Or.inl (px_mem 79 (by decide +kernel) rfl)⟩
theorem L_RJxc12de_1 : px_lkI RJxc12de 1 0 mJxa1e45_init_da8c8 := ⟨⟨px_mem 39 (by decide +kernel) rfl, W_mJxa1e45_init_da8c8, ⟨by decide, by decide⟩, by decide +kernel, by decide⟩, rfl, rfl, px_mem 83 (by decide +kernel) rfl, Or.inl (px_mem 82 (by decide +kernel) rfl)⟩
theorem F_RJx4a65c_9 : px_fl RJx4a65c 9 6 1 := ⟨_, rfl, by decide, "java/util/ArrayList", Or.inl rfl, Or.inl (px_mem 88 (by decide +kernel) rfl)⟩
theorem F_RJx4a65c_48 : px_fl RJx4a65c 48 6 2 := ⟨_, rfl, by decide, "java/util/ArrayList", Or.inl rfl, Or.inl (px_mem 89 (by decide +kernel) rfl)⟩
theorem F_RJxc12de_7 : px_fl RJxc12de 7 6 0 := ⟨_, rfl, by decide, "java/util/AbstractList", Or.inl rfl, Or.inl (px_mem 90 (by decide +kernel) rfl)⟩
theorem F_RJx4a65c_63 : px_fl RJx4a65c 63 6 0 := ⟨_, rfl, by decide, "java/util/ArrayList", Or.inr (px_mem 92 (by decide +kernel) rfl), Or.inl (px_mem 91 (by decide +kernel) rfl)⟩
theorem K_RX4_35 : Cond.classLink RX4 35 RX1 ∈ px_T := px_mem 100 (by decide +kernel) rfl
theorem L_RX4_37 : px_lkI RX4 37 2 mX1_init := ⟨⟨px_mem 42 (by decide +kernel) rfl, W_mX1_init, ⟨by decide, by decide⟩, by decide +kernel, by decide⟩, rfl, rfl, px_mem 103 (by decide +kernel) rfl, Or.inr ⟨"PathLists", List.mem_of_getElem? (i := 102) (by decide +kernel)⟩⟩
theorem K_RX1_9 : Cond.classLink RX1 9 RJx4a65c ∈ px_T := px_mem 106 (by decide +kernel) rfl
theorem L_RX1_11 : px_lkI RX1 11 0 mJx4a65c_init_da8c8 := ⟨⟨px_mem 41 (by decide +kernel) rfl, W_mJx4a65c_init_da8c8, ⟨by decide, by decide⟩, by decide +kernel, by decide⟩, rfl, rfl, px_mem 77 (by decide +kernel) rfl, Or.inl (px_mem 107 (by decide +kernel) rfl)⟩
theorem D_RX1_28 : Cond.constantDouble RX1 28 13830554455654793216 ∈ px_T := px_mem 108 (by decide +kernel) rfl
theorem K_RX1_37 : Cond.classLink RX1 37 RX3 ∈ px_T := px_mem 109 (by decide +kernel) rfl
theorem L_RX1_39 : px_lkI RX1 39 1 mX3_init := ⟨⟨px_mem 43 (by decide +kernel) rfl, W_mX3_init, ⟨by decide, by decide⟩, by decide +kernel, by decide⟩, rfl, rfl, px_mem 112 (by decide +kernel) rfl, Or.inr ⟨"PathLists", List.mem_of_getElem? (i := 111) (by decide +kernel)⟩⟩
theorem K_RX3_17 : Cond.classLink RX3 17 RX2 ∈ px_T := px_mem 115 (by decide +kernel) rfl
theorem F_RX3_13 : px_fl RX3 13 3 0 := ⟨_, rfl, by decide, "PathLists$Ways", Or.inl rfl, Or.inl (px_mem 117 (by decide +kernel) rfl)⟩
theorem G_RX3_13 : ∃ q : vw_C, px_cl[3]? = some q ∧ 0 < q.2.2 ∧ (q.2.1 0).2.2.2 = true ∧ (q.2.1 0).1 = RX3 ∧ Cond.fieldLink RX3 13 (q.2.1 0).1 (q.2.1 0).2.1 (q.2.1 0).2.2.1 ∈ px_T := ⟨_, rfl, by decide, rfl, rfl, px_mem 117 (by decide +kernel) rfl⟩
theorem F_RX4_157 : px_fl RX4 157 3 0 := ⟨_, rfl, by decide, "PathLists$Ways", Or.inl rfl, Or.inr ⟨"PathLists", List.mem_of_getElem? (i := 118) (by decide +kernel)⟩⟩
theorem F_RX3_19 : px_fl RX3 19 3 1 := ⟨_, rfl, by decide, "PathLists$Ways", Or.inl rfl, Or.inl (px_mem 119 (by decide +kernel) rfl)⟩
theorem G_RX3_19 : ∃ q : vw_C, px_cl[3]? = some q ∧ 1 < q.2.2 ∧ (q.2.1 1).2.2.2 = true ∧ (q.2.1 1).1 = RX3 ∧ Cond.fieldLink RX3 19 (q.2.1 1).1 (q.2.1 1).2.1 (q.2.1 1).2.2.1 ∈ px_T := ⟨_, rfl, by decide, rfl, rfl, px_mem 119 (by decide +kernel) rfl⟩
theorem F_RX4_273 : px_fl RX4 273 3 1 := ⟨_, rfl, by decide, "PathLists$Ways", Or.inl rfl, Or.inr ⟨"PathLists", List.mem_of_getElem? (i := 120) (by decide +kernel)⟩⟩
theorem F_RX3_23 : px_fl RX3 23 3 2 := ⟨_, rfl, by decide, "PathLists$Ways", Or.inl rfl, Or.inl (px_mem 121 (by decide +kernel) rfl)⟩
theorem G_RX3_23 : ∃ q : vw_C, px_cl[3]? = some q ∧ 2 < q.2.2 ∧ (q.2.1 2).2.2.2 = true ∧ (q.2.1 2).1 = RX3 ∧ Cond.fieldLink RX3 23 (q.2.1 2).1 (q.2.1 2).2.1 (q.2.1 2).2.2.1 ∈ px_T := ⟨_, rfl, by decide, rfl, rfl, px_mem 121 (by decide +kernel) rfl⟩
theorem F_RX4_277 : px_fl RX4 277 3 2 := ⟨_, rfl, by decide, "PathLists$Ways", Or.inl rfl, Or.inr ⟨"PathLists", List.mem_of_getElem? (i := 122) (by decide +kernel)⟩⟩
theorem F_RX3_27 : px_fl RX3 27 3 3 := ⟨_, rfl, by decide, "PathLists$Ways", Or.inl rfl, Or.inl (px_mem 123 (by decide +kernel) rfl)⟩
theorem G_RX3_27 : ∃ q : vw_C, px_cl[3]? = some q ∧ 3 < q.2.2 ∧ (q.2.1 3).2.2.2 = true ∧ (q.2.1 3).1 = RX3 ∧ Cond.fieldLink RX3 27 (q.2.1 3).1 (q.2.1 3).2.1 (q.2.1 3).2.2.1 ∈ px_T := ⟨_, rfl, by decide, rfl, rfl, px_mem 123 (by decide +kernel) rfl⟩
theorem F_RX4_271 : px_fl RX4 271 3 3 := ⟨_, rfl, by decide, "PathLists$Ways", Or.inl rfl, Or.inr ⟨"PathLists", List.mem_of_getElem? (i := 124) (by decide +kernel)⟩⟩
theorem F_RX3_7 : px_fl RX3 7 3 4 := ⟨_, rfl, by decide, "PathLists$Ways", Or.inl rfl, Or.inl (px_mem 125 (by decide +kernel) rfl)⟩
theorem F_RX4_64 : px_fl RX4 64 3 4 := ⟨_, rfl, by decide, "PathLists$Ways", Or.inl rfl, Or.inr ⟨"PathLists", List.mem_of_getElem? (i := 126) (by decide +kernel)⟩⟩
theorem A_int : Cond.arrayClass Jvm.ClassFile.FieldType.int ∈ px_T := px_mem 138 (by decide +kernel) rfl
theorem A_double : Cond.arrayClass Jvm.ClassFile.FieldType.double ∈ px_T := px_mem 139 (by decide +kernel) rfl
theorem F_RX1_12 : px_fl RX1 12 1 0 := ⟨_, rfl, by decide, "PathLists$Pin", Or.inl rfl, Or.inl (px_mem 140 (by decide +kernel) rfl)⟩
theorem G_RX1_12 : ∃ q : vw_C, px_cl[1]? = some q ∧ 0 < q.2.2 ∧ (q.2.1 0).2.2.2 = true ∧ (q.2.1 0).1 = RX1 ∧ Cond.fieldLink RX1 12 (q.2.1 0).1 (q.2.1 0).2.1 (q.2.1 0).2.2.1 ∈ px_T := ⟨_, rfl, by decide, rfl, rfl, px_mem 140 (by decide +kernel) rfl⟩
theorem F_RX4_123 : px_fl RX4 123 1 0 := ⟨_, rfl, by decide, "PathLists$Pin", Or.inl rfl, Or.inr ⟨"PathLists", List.mem_of_getElem? (i := 141) (by decide +kernel)⟩⟩
theorem F_RX1_18 : px_fl RX1 18 1 1 := ⟨_, rfl, by decide, "PathLists$Pin", Or.inl rfl, Or.inl (px_mem 142 (by decide +kernel) rfl)⟩
theorem G_RX1_18 : ∃ q : vw_C, px_cl[1]? = some q ∧ 1 < q.2.2 ∧ (q.2.1 1).2.2.2 = true ∧ (q.2.1 1).1 = RX1 ∧ Cond.fieldLink RX1 18 (q.2.1 1).1 (q.2.1 1).2.1 (q.2.1 1).2.2.1 ∈ px_T := ⟨_, rfl, by decide, rfl, rfl, px_mem 142 (by decide +kernel) rfl⟩
theorem F_RX4_120 : px_fl RX4 120 1 1 := ⟨_, rfl, by decide, "PathLists$Pin", Or.inl rfl, Or.inr ⟨"PathLists", List.mem_of_getElem? (i := 143) (by decide +kernel)⟩⟩
theorem F_RX1_42 : px_fl RX1 42 1 2 := ⟨_, rfl, by decide, "PathLists$Pin", Or.inl rfl, Or.inl (px_mem 144 (by decide +kernel) rfl)⟩
theorem G_RX1_42 : ∃ q : vw_C, px_cl[1]? = some q ∧ 2 < q.2.2 ∧ (q.2.1 2).2.2.2 = true ∧ (q.2.1 2).1 = RX1 ∧ Cond.fieldLink RX1 42 (q.2.1 2).1 (q.2.1 2).2.1 (q.2.1 2).2.2.1 ∈ px_T := ⟨_, rfl, by decide, rfl, rfl, px_mem 144 (by decide +kernel) rfl⟩
theorem F_RX4_60 : px_fl RX4 60 1 2 := ⟨_, rfl, by decide, "PathLists$Pin", Or.inl rfl, Or.inr ⟨"PathLists", List.mem_of_getElem? (i := 145) (by decide +kernel)⟩⟩
theorem F_RX1_34 : px_fl RX1 34 1 3 := ⟨_, rfl, by decide, "PathLists$Pin", Or.inl rfl, Or.inl (px_mem 146 (by decide +kernel) rfl)⟩
theorem F_RX4_235 : px_fl RX4 235 1 3 := ⟨_, rfl, by decide, "PathLists$Pin", Or.inl rfl, Or.inr ⟨"PathLists", List.mem_of_getElem? (i := 147) (by decide +kernel)⟩⟩
theorem F_RX1_21 : px_fl RX1 21 1 4 := ⟨_, rfl, by decide, "PathLists$Pin", Or.inl rfl, Or.inl (px_mem 148 (by decide +kernel) rfl)⟩
theorem F_RX4_135 : px_fl RX4 135 1 4 := ⟨_, rfl, by decide, "PathLists$Pin", Or.inl rfl, Or.inr ⟨"PathLists", List.mem_of_getElem? (i := 149) (by decide +kernel)⟩⟩
theorem F_RX1_25 : px_fl RX1 25 1 5 := ⟨_, rfl, by decide, "PathLists$Pin", Or.inl rfl, Or.inl (px_mem 150 (by decide +kernel) rfl)⟩
theorem F_RX4_183 : px_fl RX4 183 1 5 := ⟨_, rfl, by decide, "PathLists$Pin", Or.inl rfl, Or.inr ⟨"PathLists", List.mem_of_getElem? (i := 151) (by decide +kernel)⟩⟩
theorem F_RX1_30 : px_fl RX1 30 1 6 := ⟨_, rfl, by decide, "PathLists$Pin", Or.inl rfl, Or.inl (px_mem 152 (by decide +kernel) rfl)⟩
theorem F_RX4_106 : px_fl RX4 106 1 6 := ⟨_, rfl, by decide, "PathLists$Pin", Or.inl rfl, Or.inr ⟨"PathLists", List.mem_of_getElem? (i := 153) (by decide +kernel)⟩⟩
theorem L_RX4_54 : px_lkS RX4 54 2 mJ7_fill_53178 := ⟨⟨px_mem 44 (by decide +kernel) rfl, W_mJ7_fill_53178, ⟨by decide, by decide⟩, by decide +kernel, by decide⟩, rfl, px_mem 169 (by decide +kernel) rfl, px_mem 170 (by decide +kernel) rfl⟩
theorem F_RX4_12 : px_fl RX4 12 4 0 := ⟨_, rfl, by decide, "PathLists", Or.inl rfl, Or.inl (px_mem 172 (by decide +kernel) rfl)⟩
theorem G_RX4_12 : ∃ q : vw_C, px_cl[4]? = some q ∧ 0 < q.2.2 ∧ (q.2.1 0).2.2.2 = true ∧ (q.2.1 0).1 = RX4 ∧ Cond.fieldLink RX4 12 (q.2.1 0).1 (q.2.1 0).2.1 (q.2.1 0).2.2.1 ∈ px_T := ⟨_, rfl, by decide, rfl, rfl, px_mem 172 (by decide +kernel) rfl⟩
theorem F_RX4_16 : px_fl RX4 16 4 1 := ⟨_, rfl, by decide, "PathLists", Or.inl rfl, Or.inl (px_mem 173 (by decide +kernel) rfl)⟩
theorem G_RX4_16 : ∃ q : vw_C, px_cl[4]? = some q ∧ 1 < q.2.2 ∧ (q.2.1 1).2.2.2 = true ∧ (q.2.1 1).1 = RX4 ∧ Cond.fieldLink RX4 16 (q.2.1 1).1 (q.2.1 1).2.1 (q.2.1 1).2.2.1 ∈ px_T := ⟨_, rfl, by decide, rfl, rfl, px_mem 173 (by decide +kernel) rfl⟩
theorem F_RX4_19 : px_fl RX4 19 4 2 := ⟨_, rfl, by decide, "PathLists", Or.inl rfl, Or.inl (px_mem 174 (by decide +kernel) rfl)⟩
theorem G_RX4_19 : ∃ q : vw_C, px_cl[4]? = some q ∧ 2 < q.2.2 ∧ (q.2.1 2).2.2.2 = true ∧ (q.2.1 2).1 = RX4 ∧ Cond.fieldLink RX4 19 (q.2.1 2).1 (q.2.1 2).2.1 (q.2.1 2).2.2.1 ∈ px_T := ⟨_, rfl, by decide, rfl, rfl, px_mem 174 (by decide +kernel) rfl⟩
theorem F_RX4_22 : px_fl RX4 22 4 3 := ⟨_, rfl, by decide, "PathLists", Or.inl rfl, Or.inl (px_mem 175 (by decide +kernel) rfl)⟩
theorem G_RX4_22 : ∃ q : vw_C, px_cl[4]? = some q ∧ 3 < q.2.2 ∧ (q.2.1 3).2.2.2 = true ∧ (q.2.1 3).1 = RX4 ∧ Cond.fieldLink RX4 22 (q.2.1 3).1 (q.2.1 3).2.1 (q.2.1 3).2.2.1 ∈ px_T := ⟨_, rfl, by decide, rfl, rfl, px_mem 175 (by decide +kernel) rfl⟩
theorem F_RX4_25 : px_fl RX4 25 4 4 := ⟨_, rfl, by decide, "PathLists", Or.inl rfl, Or.inl (px_mem 176 (by decide +kernel) rfl)⟩
theorem G_RX4_25 : ∃ q : vw_C, px_cl[4]? = some q ∧ 4 < q.2.2 ∧ (q.2.1 4).2.2.2 = true ∧ (q.2.1 4).1 = RX4 ∧ Cond.fieldLink RX4 25 (q.2.1 4).1 (q.2.1 4).2.1 (q.2.1 4).2.2.1 ∈ px_T := ⟨_, rfl, by decide, rfl, rfl, px_mem 176 (by decide +kernel) rfl⟩
theorem F_RX4_28 : px_fl RX4 28 4 5 := ⟨_, rfl, by decide, "PathLists", Or.inl rfl, Or.inl (px_mem 177 (by decide +kernel) rfl)⟩
theorem G_RX4_28 : ∃ q : vw_C, px_cl[4]? = some q ∧ 5 < q.2.2 ∧ (q.2.1 5).2.2.2 = true ∧ (q.2.1 5).1 = RX4 ∧ Cond.fieldLink RX4 28 (q.2.1 5).1 (q.2.1 5).2.1 (q.2.1 5).2.2.1 ∈ px_T := ⟨_, rfl, by decide, rfl, rfl, px_mem 177 (by decide +kernel) rfl⟩
theorem F_RX4_31 : px_fl RX4 31 4 6 := ⟨_, rfl, by decide, "PathLists", Or.inl rfl, Or.inl (px_mem 178 (by decide +kernel) rfl)⟩
theorem G_RX4_31 : ∃ q : vw_C, px_cl[4]? = some q ∧ 6 < q.2.2 ∧ (q.2.1 6).2.2.2 = true ∧ (q.2.1 6).1 = RX4 ∧ Cond.fieldLink RX4 31 (q.2.1 6).1 (q.2.1 6).2.1 (q.2.1 6).2.2.1 ∈ px_T := ⟨_, rfl, by decide, rfl, rfl, px_mem 178 (by decide +kernel) rfl⟩
theorem F_RX4_40 : px_fl RX4 40 4 7 := ⟨_, rfl, by decide, "PathLists", Or.inl rfl, Or.inl (px_mem 179 (by decide +kernel) rfl)⟩
theorem G_RX4_40 : ∃ q : vw_C, px_cl[4]? = some q ∧ 7 < q.2.2 ∧ (q.2.1 7).2.2.2 = true ∧ (q.2.1 7).1 = RX4 ∧ Cond.fieldLink RX4 40 (q.2.1 7).1 (q.2.1 7).2.1 (q.2.1 7).2.2.1 ∈ px_T := ⟨_, rfl, by decide, rfl, rfl, px_mem 179 (by decide +kernel) rfl⟩
theorem F_RX4_44 : px_fl RX4 44 4 8 := ⟨_, rfl, by decide, "PathLists", Or.inl rfl, Or.inl (px_mem 180 (by decide +kernel) rfl)⟩
theorem G_RX4_44 : ∃ q : vw_C, px_cl[4]? = some q ∧ 8 < q.2.2 ∧ (q.2.1 8).2.2.2 = true ∧ (q.2.1 8).1 = RX4 ∧ Cond.fieldLink RX4 44 (q.2.1 8).1 (q.2.1 8).2.1 (q.2.1 8).2.2.1 ∈ px_T := ⟨_, rfl, by decide, rfl, rfl, px_mem 180 (by decide +kernel) rfl⟩
theorem F_RX4_47 : px_fl RX4 47 4 9 := ⟨_, rfl, by decide, "PathLists", Or.inl rfl, Or.inl (px_mem 181 (by decide +kernel) rfl)⟩
theorem G_RX4_47 : ∃ q : vw_C, px_cl[4]? = some q ∧ 9 < q.2.2 ∧ (q.2.1 9).2.2.2 = true ∧ (q.2.1 9).1 = RX4 ∧ Cond.fieldLink RX4 47 (q.2.1 9).1 (q.2.1 9).2.1 (q.2.1 9).2.2.1 ∈ px_T := ⟨_, rfl, by decide, rfl, rfl, px_mem 181 (by decide +kernel) rfl⟩
theorem F_RX4_50 : px_fl RX4 50 4 10 := ⟨_, rfl, by decide, "PathLists", Or.inl rfl, Or.inl (px_mem 182 (by decide +kernel) rfl)⟩
theorem L_RL_128 : px_lkV RL 128 0 mX4_back := ⟨⟨px_mem 38 (by decide +kernel) rfl, W_mX4_back, ⟨by decide, by decide⟩, by decide +kernel, by decide⟩, rfl, px_mem 206 (by decide +kernel) rfl, px_mem 207 (by decide +kernel) rfl, px_mem 208 (by decide +kernel) rfl⟩
theorem L_RX4_204 : px_lkV RX4 204 0 mJx4a65c_isEmpty_aae02 := ⟨⟨px_mem 41 (by decide +kernel) rfl, W_mJx4a65c_isEmpty_aae02, ⟨by decide, by decide⟩, by decide +kernel, by decide⟩, rfl, px_mem 210 (by decide +kernel) rfl, px_mem 211 (by decide +kernel) rfl, px_mem 212 (by decide +kernel) rfl⟩
theorem L_RX4_70 : px_lkV RX4 70 0 mJx4a65c_size_8abf5 := ⟨⟨px_mem 41 (by decide +kernel) rfl, W_mJx4a65c_size_8abf5, ⟨by decide, by decide⟩, by decide +kernel, by decide⟩, rfl, px_mem 214 (by decide +kernel) rfl, px_mem 215 (by decide +kernel) rfl, px_mem 216 (by decide +kernel) rfl⟩
theorem L_RX4_207 : px_lkV RX4 207 1 mJx4a65c_remove_915e3 := ⟨⟨px_mem 41 (by decide +kernel) rfl, W_mJx4a65c_remove_915e3, ⟨by decide, by decide⟩, by decide +kernel, by decide⟩, rfl, px_mem 218 (by decide +kernel) rfl, px_mem 219 (by decide +kernel) rfl, px_mem 220 (by decide +kernel) rfl⟩
theorem L_RJx4a65c_118 : px_lkS RJx4a65c 118 2 mJ15_checkIndex_7cf53 := ⟨⟨px_mem 55 (by decide +kernel) rfl, W_mJ15_checkIndex_7cf53, ⟨by decide, by decide⟩, by decide +kernel, by decide⟩, rfl, px_mem 222 (by decide +kernel) rfl, px_mem 223 (by decide +kernel) rfl⟩
theorem L_RJ15_105 : px_lkS RJ15 105 3 mJ3_checkIndex_8e157 := ⟨⟨px_mem 56 (by decide +kernel) rfl, W_mJ3_checkIndex_8e157, ⟨by decide, by decide⟩, by decide +kernel, by decide⟩, rfl, px_mem 225 (by decide +kernel) rfl, px_mem 226 (by decide +kernel) rfl⟩
theorem L_RJx4a65c_144 : px_lkV RJx4a65c 144 2 mJx4a65c_fastRemove_b59b0 := ⟨⟨px_mem 41 (by decide +kernel) rfl, W_mJx4a65c_fastRemove_b59b0, ⟨by decide, by decide⟩, by decide +kernel, by decide⟩, rfl, px_mem 228 (by decide +kernel) rfl, px_mem 230 (by decide +kernel) rfl, px_mem 0 (by decide +kernel) rfl⟩
theorem K_RX4_199 : Cond.classLink RX4 199 RX0 ∈ px_T := px_mem 235 (by decide +kernel) rfl
theorem L_RL_71 : px_lkH RL 71 2 mL_pin := ⟨⟨px_mem 37 (by decide +kernel) rfl, W_mL_pin, ⟨by decide, by decide⟩, by decide +kernel, by decide⟩, (by decide), px_mem 236 (by decide +kernel) rfl, px_mem 237 (by decide +kernel) rfl⟩
theorem K_RL_13 : Cond.classLink RL 13 "java/lang/IllegalStateException" ∈ px_T := px_mem 239 (by decide +kernel) rfl
theorem L_RL_7 : px_lkV RL 7 0 mX4_pin := ⟨⟨px_mem 38 (by decide +kernel) rfl, W_mX4_pin, ⟨by decide, by decide⟩, by decide +kernel, by decide⟩, rfl, px_mem 240 (by decide +kernel) rfl, px_mem 241 (by decide +kernel) rfl, px_mem 242 (by decide +kernel) rfl⟩
theorem K_RX4_73 : Cond.classLink RX4 73 "java/lang/IllegalStateException" ∈ px_T := px_mem 244 (by decide +kernel) rfl
theorem A_byte : Cond.arrayClass Jvm.ClassFile.FieldType.byte ∈ px_T := px_mem 311 (by decide +kernel) rfl
theorem L_RX4_80 : px_lkV RX4 80 1 mJx4a65c_add_9ea2d := ⟨⟨px_mem 41 (by decide +kernel) rfl, W_mJx4a65c_add_9ea2d, ⟨by decide, by decide⟩, by decide +kernel, by decide⟩, rfl, px_mem 312 (by decide +kernel) rfl, px_mem 313 (by decide +kernel) rfl, px_mem 314 (by decide +kernel) rfl⟩
theorem L_RJx4a65c_131 : px_lkV RJx4a65c 131 3 mJx4a65c_add_72be8 := ⟨⟨px_mem 41 (by decide +kernel) rfl, W_mJx4a65c_add_72be8, ⟨by decide, by decide⟩, by decide +kernel, by decide⟩, rfl, px_mem 316 (by decide +kernel) rfl, px_mem 318 (by decide +kernel) rfl, px_mem 2 (by decide +kernel) rfl⟩
theorem L_RJx4a65c_129 : px_lkV RJx4a65c 129 0 mJx4a65c_grow_d5877 := ⟨⟨px_mem 41 (by decide +kernel) rfl, W_mJx4a65c_grow_d5877, ⟨by decide, by decide⟩, by decide +kernel, by decide⟩, rfl, px_mem 320 (by decide +kernel) rfl, px_mem 322 (by decide +kernel) rfl, px_mem 3 (by decide +kernel) rfl⟩
theorem L_RJx4a65c_69 : px_lkV RJx4a65c 69 1 mJx4a65c_grow_92f84 := ⟨⟨px_mem 41 (by decide +kernel) rfl, W_mJx4a65c_grow_92f84, ⟨by decide, by decide⟩, by decide +kernel, by decide⟩, rfl, px_mem 324 (by decide +kernel) rfl, px_mem 326 (by decide +kernel) rfl, px_mem 4 (by decide +kernel) rfl⟩
theorem L_RJx4a65c_73 : px_lkS RJx4a65c 73 3 mJ8_newLength_cabcc := ⟨⟨px_mem 50 (by decide +kernel) rfl, W_mJ8_newLength_cabcc, ⟨by decide, by decide⟩, by decide +kernel, by decide⟩, rfl, px_mem 328 (by decide +kernel) rfl, px_mem 329 (by decide +kernel) rfl⟩
theorem L_RJ8_194 : px_lkS RJ8 194 2 mJ9_max_7cf53 := ⟨⟨px_mem 51 (by decide +kernel) rfl, W_mJ9_max_7cf53, ⟨by decide, by decide⟩, by decide +kernel, by decide⟩, rfl, px_mem 331 (by decide +kernel) rfl, px_mem 332 (by decide +kernel) rfl⟩
theorem C_RJ8_200 : Cond.constant RJ8 200 2147483639 ∈ px_T := px_mem 334 (by decide +kernel) rfl
theorem L_RJ8_201 : px_lkS RJ8 201 2 mJ8_hugeLength_7cf53 := ⟨⟨px_mem 50 (by decide +kernel) rfl, W_mJ8_hugeLength_7cf53, ⟨by decide, by decide⟩, by decide +kernel, by decide⟩, rfl, px_mem 335 (by decide +kernel) rfl, px_mem 336 (by decide +kernel) rfl⟩
theorem L_RJx4a65c_66 : px_lkS RJx4a65c 66 2 mJ7_copyOf_1904c := ⟨⟨px_mem 44 (by decide +kernel) rfl, W_mJ7_copyOf_1904c, ⟨by decide, by decide⟩, by decide +kernel, by decide⟩, rfl, px_mem 338 (by decide +kernel) rfl, px_mem 339 (by decide +kernel) rfl⟩
theorem L_RJ7_300 : px_lkS RJ7 300 3 mJ7_copyOf_6403c := ⟨⟨px_mem 44 (by decide +kernel) rfl, W_mJ7_copyOf_6403c, ⟨by decide, by decide⟩, by decide +kernel, by decide⟩, rfl, px_mem 357 (by decide +kernel) rfl, px_mem 358 (by decide +kernel) rfl⟩
theorem K_RJ7_110 : Cond.classLink RJ7 110 "[Ljava/lang/Object;" ∈ px_T := px_mem 360 (by decide +kernel) rfl
theorem K_RJ7_2 : Cond.classLink RJ7 2 "java/lang/Object" ∈ px_T := px_mem 362 (by decide +kernel) rfl
theorem L_RJ7_304 : px_lkS RJ7 304 2 mJ9_min_7cf53 := ⟨⟨px_mem 51 (by decide +kernel) rfl, W_mJ9_min_7cf53, ⟨by decide, by decide⟩, by decide +kernel, by decide⟩, rfl, px_mem 363 (by decide +kernel) rfl, px_mem 364 (by decide +kernel) rfl⟩
theorem L_RJx4a65c_79 : px_lkS RJx4a65c 79 2 mJ9_max_7cf53 := ⟨⟨px_mem 51 (by decide +kernel) rfl, W_mJ9_max_7cf53, ⟨by decide, by decide⟩, by decide +kernel, by decide⟩, rfl, px_mem 367 (by decide +kernel) rfl, px_mem 332 (by decide +kernel) rfl⟩
theorem K_RJx4a65c_7 : Cond.classLink RJx4a65c 7 "java/lang/Object" ∈ px_T := px_mem 368 (by decide +kernel) rfl
theorem L_RL_82 : px_lkH RL 82 5 mL_arc := ⟨⟨px_mem 37 (by decide +kernel) rfl, W_mL_arc, ⟨by decide, by decide⟩, by decide +kernel, by decide⟩, (by decide), px_mem 369 (by decide +kernel) rfl, px_mem 370 (by decide +kernel) rfl⟩
theorem K_RL_19 : Cond.classLink RL 19 "java/lang/IndexOutOfBoundsException" ∈ px_T := px_mem 372 (by decide +kernel) rfl
theorem K_RL_21 : Cond.classLink RL 21 "java/lang/IllegalArgumentException" ∈ px_T := px_mem 373 (by decide +kernel) rfl
theorem L_RL_15 : px_lkV RL 15 3 mX4_arc := ⟨⟨px_mem 38 (by decide +kernel) rfl, W_mX4_arc, ⟨by decide, by decide⟩, by decide +kernel, by decide⟩, rfl, px_mem 374 (by decide +kernel) rfl, px_mem 375 (by decide +kernel) rfl, px_mem 376 (by decide +kernel) rfl⟩
theorem L_RX4_84 : px_lkS RX4 84 2 mX4_checkIndex := ⟨⟨px_mem 38 (by decide +kernel) rfl, W_mX4_checkIndex, ⟨by decide, by decide⟩, by decide +kernel, by decide⟩, rfl, px_mem 378 (by decide +kernel) rfl, px_mem 379 (by decide +kernel) rfl⟩
theorem K_RX4_165 : Cond.classLink RX4 165 "java/lang/IndexOutOfBoundsException" ∈ px_T := px_mem 381 (by decide +kernel) rfl
theorem L_RX4_89 : px_lkS RX4 89 1 mX4_isDelay := ⟨⟨px_mem 38 (by decide +kernel) rfl, W_mX4_isDelay, ⟨by decide, by decide⟩, by decide +kernel, by decide⟩, rfl, px_mem 398 (by decide +kernel) rfl, px_mem 399 (by decide +kernel) rfl⟩
theorem L_RX4_219 : px_lkS RX4 219 1 mX4_isTime := ⟨⟨px_mem 38 (by decide +kernel) rfl, W_mX4_isTime, ⟨by decide, by decide⟩, by decide +kernel, by decide⟩, rfl, px_mem 401 (by decide +kernel) rfl, px_mem 402 (by decide +kernel) rfl⟩
theorem D_RX4_226 : Cond.constantDouble RX4 226 13920626448202203136 ∈ px_T := px_mem 404 (by decide +kernel) rfl
theorem D_RX4_228 : Cond.constantDouble RX4 228 4697254411347427328 ∈ px_T := px_mem 405 (by decide +kernel) rfl
theorem D_RX4_230 : Cond.constantDouble RX4 230 4620693217682128896 ∈ px_T := px_mem 406 (by decide +kernel) rfl
theorem K_RX4_93 : Cond.classLink RX4 93 "java/lang/IllegalArgumentException" ∈ px_T := px_mem 407 (by decide +kernel) rfl
theorem L_RX4_98 : px_lkV RX4 98 1 mJx4a65c_get_915e3 := ⟨⟨px_mem 41 (by decide +kernel) rfl, W_mJx4a65c_get_915e3, ⟨by decide, by decide⟩, by decide +kernel, by decide⟩, rfl, px_mem 423 (by decide +kernel) rfl, px_mem 424 (by decide +kernel) rfl, px_mem 425 (by decide +kernel) rfl⟩
theorem L_RJx4a65c_123 : px_lkV RJx4a65c 123 1 mJx4a65c_elementData_915e3 := ⟨⟨px_mem 41 (by decide +kernel) rfl, W_mJx4a65c_elementData_915e3, ⟨by decide, by decide⟩, by decide +kernel, by decide⟩, rfl, px_mem 427 (by decide +kernel) rfl, px_mem 428 (by decide +kernel) rfl, px_mem 429 (by decide +kernel) rfl⟩
theorem L_RX4_102 : px_lkV RX4 102 2 mX4_spread := ⟨⟨px_mem 38 (by decide +kernel) rfl, W_mX4_spread, ⟨by decide, by decide⟩, by decide +kernel, by decide⟩, rfl, px_mem 431 (by decide +kernel) rfl, px_mem 433 (by decide +kernel) rfl, px_mem 5 (by decide +kernel) rfl⟩
theorem D_RX4_189 : Cond.constantDouble RX4 189 13830554455654793216 ∈ px_T := px_mem 435 (by decide +kernel) rfl
theorem L_RX4_232 : px_lkV RX4 232 2 mX4_spreadFurther := ⟨⟨px_mem 38 (by decide +kernel) rfl, W_mX4_spreadFurther, ⟨by decide, by decide⟩, by decide +kernel, by decide⟩, rfl, px_mem 436 (by decide +kernel) rfl, px_mem 438 (by decide +kernel) rfl, px_mem 6 (by decide +kernel) rfl⟩
theorem K_RX4_115 : Cond.classLink RX4 115 RX2 ∈ px_T := px_mem 440 (by decide +kernel) rfl
theorem L_RX4_112 : px_lkV RX4 112 0 mX4_placeReachedLast := ⟨⟨px_mem 38 (by decide +kernel) rfl, W_mX4_placeReachedLast, ⟨by decide, by decide⟩, by decide +kernel, by decide⟩, rfl, px_mem 442 (by decide +kernel) rfl, px_mem 444 (by decide +kernel) rfl, px_mem 7 (by decide +kernel) rfl⟩
theorem L_RX4_138 : px_lkV RX4 138 2 mJx4a65c_add_7a177 := ⟨⟨px_mem 41 (by decide +kernel) rfl, W_mJx4a65c_add_7a177, ⟨by decide, by decide⟩, by decide +kernel, by decide⟩, rfl, px_mem 446 (by decide +kernel) rfl, px_mem 447 (by decide +kernel) rfl, px_mem 448 (by decide +kernel) rfl⟩
theorem L_RJx4a65c_135 : px_lkV RJx4a65c 135 1 mJx4a65c_rangeCheckForAdd_d00df := ⟨⟨px_mem 41 (by decide +kernel) rfl, W_mJx4a65c_rangeCheckForAdd_d00df, ⟨by decide, by decide⟩, by decide +kernel, by decide⟩, rfl, px_mem 450 (by decide +kernel) rfl, px_mem 452 (by decide +kernel) rfl, px_mem 8 (by decide +kernel) rfl⟩
theorem K_RJx4a65c_187 : Cond.classLink RJx4a65c 187 "java/lang/IndexOutOfBoundsException" ∈ px_T := px_mem 454 (by decide +kernel) rfl
theorem L_RJx4a65c_198 : px_lkV RJx4a65c 198 1 mJx4a65c_outOfBoundsMsg_b52d3 := ⟨⟨px_mem 41 (by decide +kernel) rfl, W_mJx4a65c_outOfBoundsMsg_b52d3, ⟨by decide, by decide⟩, by decide +kernel, by decide⟩, rfl, px_mem 455 (by decide +kernel) rfl, px_mem 457 (by decide +kernel) rfl, px_mem 9 (by decide +kernel) rfl⟩
theorem K_RJx4a65c_20 : Cond.classLink RJx4a65c 20 "java/lang/StringBuilder" ∈ px_T := px_mem 459 (by decide +kernel) rfl
theorem K_RJ7_311 : Cond.classLink RJ7 311 "[B" ∈ px_T := px_mem 521 (by decide +kernel) rfl
theorem L_RJ7_339 : px_lkS RJ7 339 3 mJ7_copyOfRangeByte_39247 := ⟨⟨px_mem 44 (by decide +kernel) rfl, W_mJ7_copyOfRangeByte_39247, ⟨by decide, by decide⟩, by decide +kernel, by decide⟩, rfl, px_mem 652 (by decide +kernel) rfl, px_mem 653 (by decide +kernel) rfl⟩
theorem L_RJ7_343 : px_lkS RJ7 343 2 mJ7_checkLength_df160 := ⟨⟨px_mem 44 (by decide +kernel) rfl, W_mJ7_checkLength_df160, ⟨by decide, by decide⟩, by decide +kernel, by decide⟩, rfl, px_mem 655 (by decide +kernel) rfl, px_mem 656 (by decide +kernel) rfl⟩
theorem K_RJ7_43 : Cond.classLink RJ7 43 "java/lang/IllegalArgumentException" ∈ px_T := px_mem 658 (by decide +kernel) rfl
theorem K_RJ7_45 : Cond.classLink RJ7 45 "java/lang/StringBuilder" ∈ px_T := px_mem 659 (by decide +kernel) rfl
theorem L_RX4_117 : px_lkI RX4 117 4 mX2_init := ⟨⟨px_mem 64 (by decide +kernel) rfl, W_mX2_init, ⟨by decide, by decide⟩, by decide +kernel, by decide⟩, rfl, rfl, px_mem 693 (by decide +kernel) rfl, Or.inr ⟨"PathLists", List.mem_of_getElem? (i := 692) (by decide +kernel)⟩⟩
theorem F_RX2_16 : px_fl RX2 16 2 0 := ⟨_, rfl, by decide, "PathLists$Step", Or.inl rfl, Or.inl (px_mem 696 (by decide +kernel) rfl)⟩
theorem G_RX2_16 : ∃ q : vw_C, px_cl[2]? = some q ∧ 0 < q.2.2 ∧ (q.2.1 0).2.2.2 = true ∧ (q.2.1 0).1 = RX2 ∧ Cond.fieldLink RX2 16 (q.2.1 0).1 (q.2.1 0).2.1 (q.2.1 0).2.2.1 ∈ px_T := ⟨_, rfl, by decide, rfl, rfl, px_mem 696 (by decide +kernel) rfl⟩
theorem F_RX4_126 : px_fl RX4 126 2 0 := ⟨_, rfl, by decide, "PathLists$Step", Or.inl rfl, Or.inr ⟨"PathLists", List.mem_of_getElem? (i := 697) (by decide +kernel)⟩⟩
theorem F_RX2_19 : px_fl RX2 19 2 1 := ⟨_, rfl, by decide, "PathLists$Step", Or.inl rfl, Or.inl (px_mem 698 (by decide +kernel) rfl)⟩
theorem G_RX2_19 : ∃ q : vw_C, px_cl[2]? = some q ∧ 1 < q.2.2 ∧ (q.2.1 1).2.2.2 = true ∧ (q.2.1 1).1 = RX2 ∧ Cond.fieldLink RX2 19 (q.2.1 1).1 (q.2.1 1).2.1 (q.2.1 1).2.2.1 ∈ px_T := ⟨_, rfl, by decide, rfl, rfl, px_mem 698 (by decide +kernel) rfl⟩
theorem F_RX4_241 : px_fl RX4 241 2 1 := ⟨_, rfl, by decide, "PathLists$Step", Or.inl rfl, Or.inr ⟨"PathLists", List.mem_of_getElem? (i := 699) (by decide +kernel)⟩⟩
theorem F_RX2_23 : px_fl RX2 23 2 2 := ⟨_, rfl, by decide, "PathLists$Step", Or.inl rfl, Or.inl (px_mem 700 (by decide +kernel) rfl)⟩
theorem G_RX2_23 : ∃ q : vw_C, px_cl[2]? = some q ∧ 2 < q.2.2 ∧ (q.2.1 2).2.2.2 = true ∧ (q.2.1 2).1 = RX2 ∧ Cond.fieldLink RX2 23 (q.2.1 2).1 (q.2.1 2).2.1 (q.2.1 2).2.2.1 ∈ px_T := ⟨_, rfl, by decide, rfl, rfl, px_mem 700 (by decide +kernel) rfl⟩
theorem F_RX4_191 : px_fl RX4 191 2 2 := ⟨_, rfl, by decide, "PathLists$Step", Or.inl rfl, Or.inr ⟨"PathLists", List.mem_of_getElem? (i := 701) (by decide +kernel)⟩⟩
theorem F_RX2_26 : px_fl RX2 26 2 3 := ⟨_, rfl, by decide, "PathLists$Step", Or.inl rfl, Or.inl (px_mem 702 (by decide +kernel) rfl)⟩
theorem F_RX4_194 : px_fl RX4 194 2 3 := ⟨_, rfl, by decide, "PathLists$Step", Or.inl rfl, Or.inr ⟨"PathLists", List.mem_of_getElem? (i := 703) (by decide +kernel)⟩⟩
theorem F_RX2_7 : px_fl RX2 7 2 4 := ⟨_, rfl, by decide, "PathLists$Step", Or.inl rfl, Or.inl (px_mem 704 (by decide +kernel) rfl)⟩
theorem F_RX4_172 : px_fl RX4 172 2 4 := ⟨_, rfl, by decide, "PathLists$Step", Or.inl rfl, Or.inr ⟨"PathLists", List.mem_of_getElem? (i := 705) (by decide +kernel)⟩⟩
theorem F_RX2_13 : px_fl RX2 13 2 5 := ⟨_, rfl, by decide, "PathLists$Step", Or.inl rfl, Or.inl (px_mem 706 (by decide +kernel) rfl)⟩
theorem F_RX4_248 : px_fl RX4 248 2 5 := ⟨_, rfl, by decide, "PathLists$Step", Or.inl rfl, Or.inr ⟨"PathLists", List.mem_of_getElem? (i := 707) (by decide +kernel)⟩⟩
theorem L_RL_86 : px_lkH RL 86 4 mL_end := ⟨⟨px_mem 37 (by decide +kernel) rfl, W_mL_end, ⟨by decide, by decide⟩, by decide +kernel, by decide⟩, (by decide), px_mem 721 (by decide +kernel) rfl, px_mem 722 (by decide +kernel) rfl⟩
theorem L_RL_23 : px_lkV RL 23 2 mX4_end := ⟨⟨px_mem 38 (by decide +kernel) rfl, W_mX4_end, ⟨by decide, by decide⟩, by decide +kernel, by decide⟩, rfl, px_mem 724 (by decide +kernel) rfl, px_mem 725 (by decide +kernel) rfl, px_mem 726 (by decide +kernel) rfl⟩
theorem L_RX4_131 : px_lkS RX4 131 1 mX4_checkTime := ⟨⟨px_mem 38 (by decide +kernel) rfl, W_mX4_checkTime, ⟨by decide, by decide⟩, by decide +kernel, by decide⟩, rfl, px_mem 729 (by decide +kernel) rfl, px_mem 730 (by decide +kernel) rfl⟩
theorem L_RL_90 : px_lkH RL 90 4 mL_start := ⟨⟨px_mem 37 (by decide +kernel) rfl, W_mL_start, ⟨by decide, by decide⟩, by decide +kernel, by decide⟩, (by decide), px_mem 733 (by decide +kernel) rfl, px_mem 734 (by decide +kernel) rfl⟩
theorem L_RL_27 : px_lkV RL 27 2 mX4_start := ⟨⟨px_mem 38 (by decide +kernel) rfl, W_mX4_start, ⟨by decide, by decide⟩, by decide +kernel, by decide⟩, rfl, px_mem 736 (by decide +kernel) rfl, px_mem 737 (by decide +kernel) rfl, px_mem 738 (by decide +kernel) rfl⟩
theorem L_RL_93 : px_lkH RL 93 4 mL_through := ⟨⟨px_mem 37 (by decide +kernel) rfl, W_mL_through, ⟨by decide, by decide⟩, by decide +kernel, by decide⟩, (by decide), px_mem 741 (by decide +kernel) rfl, px_mem 742 (by decide +kernel) rfl⟩
theorem L_RL_30 : px_lkV RL 30 2 mX4_through := ⟨⟨px_mem 38 (by decide +kernel) rfl, W_mX4_through, ⟨by decide, by decide⟩, by decide +kernel, by decide⟩, rfl, px_mem 744 (by decide +kernel) rfl, px_mem 745 (by decide +kernel) rfl, px_mem 746 (by decide +kernel) rfl⟩
theorem L_RL_97 : px_lkH RL 97 3 mL_run := ⟨⟨px_mem 37 (by decide +kernel) rfl, W_mL_run, ⟨by decide, by decide⟩, by decide +kernel, by decide⟩, (by decide), px_mem 749 (by decide +kernel) rfl, px_mem 750 (by decide +kernel) rfl⟩
theorem L_RL_34 : px_lkV RL 34 1 mX4_run := ⟨⟨px_mem 38 (by decide +kernel) rfl, W_mX4_run, ⟨by decide, by decide⟩, by decide +kernel, by decide⟩, rfl, px_mem 752 (by decide +kernel) rfl, px_mem 753 (by decide +kernel) rfl, px_mem 754 (by decide +kernel) rfl⟩
theorem L_RX4_147 : px_lkV RX4 147 0 mX4_throughRises := ⟨⟨px_mem 38 (by decide +kernel) rfl, W_mX4_throughRises, ⟨by decide, by decide⟩, by decide +kernel, by decide⟩, rfl, px_mem 757 (by decide +kernel) rfl, px_mem 759 (by decide +kernel) rfl, px_mem 10 (by decide +kernel) rfl⟩
theorem L_RX4_238 : px_lkV RX4 238 1 mX4_placeOfOrder := ⟨⟨px_mem 38 (by decide +kernel) rfl, W_mX4_placeOfOrder, ⟨by decide, by decide⟩, by decide +kernel, by decide⟩, rfl, px_mem 761 (by decide +kernel) rfl, px_mem 763 (by decide +kernel) rfl, px_mem 11 (by decide +kernel) rfl⟩
theorem L_RX4_151 : px_lkV RX4 151 2 mX4_gather := ⟨⟨px_mem 38 (by decide +kernel) rfl, W_mX4_gather, ⟨by decide, by decide⟩, by decide +kernel, by decide⟩, rfl, px_mem 765 (by decide +kernel) rfl, px_mem 767 (by decide +kernel) rfl, px_mem 12 (by decide +kernel) rfl⟩
theorem L_RX4_244 : px_lkV RX4 244 1 mX4_leavesOut := ⟨⟨px_mem 38 (by decide +kernel) rfl, W_mX4_leavesOut, ⟨by decide, by decide⟩, by decide +kernel, by decide⟩, rfl, px_mem 769 (by decide +kernel) rfl, px_mem 771 (by decide +kernel) rfl, px_mem 13 (by decide +kernel) rfl⟩
theorem L_RX4_251 : px_lkV RX4 251 2 mX4_firstOf := ⟨⟨px_mem 38 (by decide +kernel) rfl, W_mX4_firstOf, ⟨by decide, by decide⟩, by decide +kernel, by decide⟩, rfl, px_mem 773 (by decide +kernel) rfl, px_mem 775 (by decide +kernel) rfl, px_mem 14 (by decide +kernel) rfl⟩
theorem L_RX4_259 : px_lkV RX4 259 2 mX4_hasNext := ⟨⟨px_mem 38 (by decide +kernel) rfl, W_mX4_hasNext, ⟨by decide, by decide⟩, by decide +kernel, by decide⟩, rfl, px_mem 777 (by decide +kernel) rfl, px_mem 779 (by decide +kernel) rfl, px_mem 15 (by decide +kernel) rfl⟩
theorem L_RX4_267 : px_lkV RX4 267 1 mX4_groupOfNext := ⟨⟨px_mem 38 (by decide +kernel) rfl, W_mX4_groupOfNext, ⟨by decide, by decide⟩, by decide +kernel, by decide⟩, rfl, px_mem 781 (by decide +kernel) rfl, px_mem 783 (by decide +kernel) rfl, px_mem 16 (by decide +kernel) rfl⟩
theorem L_RX4_263 : px_lkV RX4 263 1 mX4_leftByNext := ⟨⟨px_mem 38 (by decide +kernel) rfl, W_mX4_leftByNext, ⟨by decide, by decide⟩, by decide +kernel, by decide⟩, rfl, px_mem 785 (by decide +kernel) rfl, px_mem 787 (by decide +kernel) rfl, px_mem 17 (by decide +kernel) rfl⟩
theorem L_RX4_255 : px_lkV RX4 255 2 mX4_take := ⟨⟨px_mem 38 (by decide +kernel) rfl, W_mX4_take, ⟨by decide, by decide⟩, by decide +kernel, by decide⟩, rfl, px_mem 789 (by decide +kernel) rfl, px_mem 791 (by decide +kernel) rfl, px_mem 18 (by decide +kernel) rfl⟩
theorem L_RL_101 : px_lkH RL 101 3 mL_slack := ⟨⟨px_mem 37 (by decide +kernel) rfl, W_mL_slack, ⟨by decide, by decide⟩, by decide +kernel, by decide⟩, (by decide), px_mem 793 (by decide +kernel) rfl, px_mem 794 (by decide +kernel) rfl⟩
theorem L_RL_38 : px_lkV RL 38 1 mX4_slack := ⟨⟨px_mem 38 (by decide +kernel) rfl, W_mX4_slack, ⟨by decide, by decide⟩, by decide +kernel, by decide⟩, rfl, px_mem 796 (by decide +kernel) rfl, px_mem 797 (by decide +kernel) rfl, px_mem 798 (by decide +kernel) rfl⟩
theorem L_RX4_154 : px_lkV RX4 154 0 mX4_checkListed := ⟨⟨px_mem 38 (by decide +kernel) rfl, W_mX4_checkListed, ⟨by decide, by decide⟩, by decide +kernel, by decide⟩, rfl, px_mem 800 (by decide +kernel) rfl, px_mem 802 (by decide +kernel) rfl, px_mem 19 (by decide +kernel) rfl⟩
theorem L_RL_105 : px_lkH RL 105 4 mL_at := ⟨⟨px_mem 37 (by decide +kernel) rfl, W_mL_at, ⟨by decide, by decide⟩, by decide +kernel, by decide⟩, (by decide), px_mem 805 (by decide +kernel) rfl, px_mem 806 (by decide +kernel) rfl⟩
theorem L_RL_42 : px_lkV RL 42 2 mX4_at := ⟨⟨px_mem 38 (by decide +kernel) rfl, W_mX4_at, ⟨by decide, by decide⟩, by decide +kernel, by decide⟩, rfl, px_mem 808 (by decide +kernel) rfl, px_mem 809 (by decide +kernel) rfl, px_mem 810 (by decide +kernel) rfl⟩
theorem L_RX4_161 : px_lkV RX4 161 2 mX4_stepOf := ⟨⟨px_mem 38 (by decide +kernel) rfl, W_mX4_stepOf, ⟨by decide, by decide⟩, by decide +kernel, by decide⟩, rfl, px_mem 812 (by decide +kernel) rfl, px_mem 814 (by decide +kernel) rfl, px_mem 20 (by decide +kernel) rfl⟩
theorem L_RX4_280 : px_lkS RX4 280 2 mX4_firstStep := ⟨⟨px_mem 38 (by decide +kernel) rfl, W_mX4_firstStep, ⟨by decide, by decide⟩, by decide +kernel, by decide⟩, rfl, px_mem 816 (by decide +kernel) rfl, px_mem 817 (by decide +kernel) rfl⟩
theorem L_RL_108 : px_lkH RL 108 4 mL_group := ⟨⟨px_mem 37 (by decide +kernel) rfl, W_mL_group, ⟨by decide, by decide⟩, by decide +kernel, by decide⟩, (by decide), px_mem 820 (by decide +kernel) rfl, px_mem 821 (by decide +kernel) rfl⟩
theorem L_RL_46 : px_lkV RL 46 2 mX4_group := ⟨⟨px_mem 38 (by decide +kernel) rfl, W_mX4_group, ⟨by decide, by decide⟩, by decide +kernel, by decide⟩, rfl, px_mem 823 (by decide +kernel) rfl, px_mem 824 (by decide +kernel) rfl, px_mem 825 (by decide +kernel) rfl⟩
theorem L_RL_111 : px_lkH RL 111 3 mL_model := ⟨⟨px_mem 37 (by decide +kernel) rfl, W_mL_model, ⟨by decide, by decide⟩, by decide +kernel, by decide⟩, (by decide), px_mem 828 (by decide +kernel) rfl, px_mem 829 (by decide +kernel) rfl⟩
theorem L_RL_49 : px_lkV RL 49 1 mX4_model := ⟨⟨px_mem 38 (by decide +kernel) rfl, W_mX4_model, ⟨by decide, by decide⟩, by decide +kernel, by decide⟩, rfl, px_mem 831 (by decide +kernel) rfl, px_mem 832 (by decide +kernel) rfl, px_mem 833 (by decide +kernel) rfl⟩
theorem L_RX4_175 : px_lkS RX4 175 2 mX4_isInput := ⟨⟨px_mem 38 (by decide +kernel) rfl, W_mX4_isInput, ⟨by decide, by decide⟩, by decide +kernel, by decide⟩, rfl, px_mem 835 (by decide +kernel) rfl, px_mem 836 (by decide +kernel) rfl⟩
theorem L_RX4_179 : px_lkV RX4 179 1 mX4_countReachedOutputs := ⟨⟨px_mem 38 (by decide +kernel) rfl, W_mX4_countReachedOutputs, ⟨by decide, by decide⟩, by decide +kernel, by decide⟩, rfl, px_mem 838 (by decide +kernel) rfl, px_mem 840 (by decide +kernel) rfl, px_mem 21 (by decide +kernel) rfl⟩
theorem L_RX4_186 : px_lkS RX4 186 2 mX4_isOutput := ⟨⟨px_mem 38 (by decide +kernel) rfl, W_mX4_isOutput, ⟨by decide, by decide⟩, by decide +kernel, by decide⟩, rfl, px_mem 842 (by decide +kernel) rfl, px_mem 843 (by decide +kernel) rfl⟩
theorem L_RL_114 : px_lkH RL 114 4 mL_into := ⟨⟨px_mem 37 (by decide +kernel) rfl, W_mL_into, ⟨by decide, by decide⟩, by decide +kernel, by decide⟩, (by decide), px_mem 845 (by decide +kernel) rfl, px_mem 846 (by decide +kernel) rfl⟩
theorem L_RL_52 : px_lkV RL 52 2 mX4_into := ⟨⟨px_mem 38 (by decide +kernel) rfl, W_mX4_into, ⟨by decide, by decide⟩, by decide +kernel, by decide⟩, rfl, px_mem 848 (by decide +kernel) rfl, px_mem 849 (by decide +kernel) rfl, px_mem 850 (by decide +kernel) rfl⟩
theorem L_RL_117 : px_lkH RL 117 5 mL_reduced := ⟨⟨px_mem 37 (by decide +kernel) rfl, W_mL_reduced, ⟨by decide, by decide⟩, by decide +kernel, by decide⟩, (by decide), px_mem 852 (by decide +kernel) rfl, px_mem 853 (by decide +kernel) rfl⟩
theorem L_RL_55 : px_lkV RL 55 3 mX4_reduced := ⟨⟨px_mem 38 (by decide +kernel) rfl, W_mX4_reduced, ⟨by decide, by decide⟩, by decide +kernel, by decide⟩, rfl, px_mem 855 (by decide +kernel) rfl, px_mem 856 (by decide +kernel) rfl, px_mem 857 (by decide +kernel) rfl⟩
theorem L_RL_121 : px_lkH RL 121 4 mL_budget := ⟨⟨px_mem 37 (by decide +kernel) rfl, W_mL_budget, ⟨by decide, by decide⟩, by decide +kernel, by decide⟩, (by decide), px_mem 859 (by decide +kernel) rfl, px_mem 860 (by decide +kernel) rfl⟩
theorem L_RL_59 : px_lkV RL 59 2 mX4_budget := ⟨⟨px_mem 38 (by decide +kernel) rfl, W_mX4_budget, ⟨by decide, by decide⟩, by decide +kernel, by decide⟩, rfl, px_mem 862 (by decide +kernel) rfl, px_mem 863 (by decide +kernel) rfl, px_mem 864 (by decide +kernel) rfl⟩
theorem L_RL_125 : px_lkH RL 125 4 mL_whatIf := ⟨⟨px_mem 37 (by decide +kernel) rfl, W_mL_whatIf, ⟨by decide, by decide⟩, by decide +kernel, by decide⟩, (by decide), px_mem 866 (by decide +kernel) rfl, px_mem 867 (by decide +kernel) rfl⟩
theorem L_RL_63 : px_lkV RL 63 2 mX4_whatIf := ⟨⟨px_mem 38 (by decide +kernel) rfl, W_mX4_whatIf, ⟨by decide, by decide⟩, by decide +kernel, by decide⟩, rfl, px_mem 869 (by decide +kernel) rfl, px_mem 870 (by decide +kernel) rfl, px_mem 871 (by decide +kernel) rfl⟩
theorem L_RX4_201 : px_lkI RX4 201 2 mX0_init := ⟨⟨px_mem 65 (by decide +kernel) rfl, W_mX0_init, ⟨by decide, by decide⟩, by decide +kernel, by decide⟩, rfl, rfl, px_mem 876 (by decide +kernel) rfl, Or.inr ⟨"PathLists", List.mem_of_getElem? (i := 875) (by decide +kernel)⟩⟩
theorem F_RX0_7 : px_fl RX0 7 0 0 := ⟨_, rfl, by decide, "PathLists$Change", Or.inl rfl, Or.inl (px_mem 879 (by decide +kernel) rfl)⟩
theorem G_RX0_7 : ∃ q : vw_C, px_cl[0]? = some q ∧ 0 < q.2.2 ∧ (q.2.1 0).2.2.2 = true ∧ (q.2.1 0).1 = RX0 ∧ Cond.fieldLink RX0 7 (q.2.1 0).1 (q.2.1 0).2.1 (q.2.1 0).2.2.1 ∈ px_T := ⟨_, rfl, by decide, rfl, rfl, px_mem 879 (by decide +kernel) rfl⟩
theorem F_RX4_210 : px_fl RX4 210 0 0 := ⟨_, rfl, by decide, "PathLists$Change", Or.inl rfl, Or.inr ⟨"PathLists", List.mem_of_getElem? (i := 880) (by decide +kernel)⟩⟩
theorem F_RX0_13 : px_fl RX0 13 0 1 := ⟨_, rfl, by decide, "PathLists$Change", Or.inl rfl, Or.inl (px_mem 881 (by decide +kernel) rfl)⟩
theorem G_RX0_13 : ∃ q : vw_C, px_cl[0]? = some q ∧ 1 < q.2.2 ∧ (q.2.1 1).2.2.2 = true ∧ (q.2.1 1).1 = RX0 ∧ Cond.fieldLink RX0 13 (q.2.1 1).1 (q.2.1 1).2.1 (q.2.1 1).2.2.1 ∈ px_T := ⟨_, rfl, by decide, rfl, rfl, px_mem 881 (by decide +kernel) rfl⟩
theorem F_RX4_214 : px_fl RX4 214 0 1 := ⟨_, rfl, by decide, "PathLists$Change", Or.inl rfl, Or.inr ⟨"PathLists", List.mem_of_getElem? (i := 882) (by decide +kernel)⟩⟩
theorem K_RL_68 : Cond.classLink RL 68 RX5 ∈ px_T := px_mem 888 (by decide +kernel) rfl
theorem L_RL_70 : px_lkI RL 70 0 mX5_init := ⟨⟨px_mem 45 (by decide +kernel) rfl, W_mX5_init, ⟨by decide, by decide⟩, by decide +kernel, by decide⟩, rfl, rfl, px_mem 891 (by decide +kernel) rfl, Or.inl (px_mem 890 (by decide +kernel) rfl)⟩
theorem F_RX5_81 : px_fl RX5 81 5 0 := ⟨_, rfl, by decide, "PathListsModel", Or.inl rfl, Or.inl (px_mem 894 (by decide +kernel) rfl)⟩
theorem F_RX5_85 : px_fl RX5 85 5 1 := ⟨_, rfl, by decide, "PathListsModel", Or.inl rfl, Or.inl (px_mem 895 (by decide +kernel) rfl)⟩
theorem F_RX5_7 : px_fl RX5 7 5 2 := ⟨_, rfl, by decide, "PathListsModel", Or.inl rfl, Or.inl (px_mem 896 (by decide +kernel) rfl)⟩
theorem G_RX5_7 : ∃ q : vw_C, px_cl[5]? = some q ∧ 2 < q.2.2 ∧ (q.2.1 2).2.2.2 = true ∧ (q.2.1 2).1 = RX5 ∧ Cond.fieldLink RX5 7 (q.2.1 2).1 (q.2.1 2).2.1 (q.2.1 2).2.2.1 ∈ px_T := ⟨_, rfl, by decide, rfl, rfl, px_mem 896 (by decide +kernel) rfl⟩
theorem F_RX5_13 : px_fl RX5 13 5 3 := ⟨_, rfl, by decide, "PathListsModel", Or.inl rfl, Or.inl (px_mem 897 (by decide +kernel) rfl)⟩
theorem G_RX5_13 : ∃ q : vw_C, px_cl[5]? = some q ∧ 3 < q.2.2 ∧ (q.2.1 3).2.2.2 = true ∧ (q.2.1 3).1 = RX5 ∧ Cond.fieldLink RX5 13 (q.2.1 3).1 (q.2.1 3).2.1 (q.2.1 3).2.2.1 ∈ px_T := ⟨_, rfl, by decide, rfl, rfl, px_mem 897 (by decide +kernel) rfl⟩
theorem F_RX5_16 : px_fl RX5 16 5 4 := ⟨_, rfl, by decide, "PathListsModel", Or.inl rfl, Or.inl (px_mem 898 (by decide +kernel) rfl)⟩
theorem G_RX5_16 : ∃ q : vw_C, px_cl[5]? = some q ∧ 4 < q.2.2 ∧ (q.2.1 4).2.2.2 = true ∧ (q.2.1 4).1 = RX5 ∧ Cond.fieldLink RX5 16 (q.2.1 4).1 (q.2.1 4).2.1 (q.2.1 4).2.2.1 ∈ px_T := ⟨_, rfl, by decide, rfl, rfl, px_mem 898 (by decide +kernel) rfl⟩
theorem F_RX5_19 : px_fl RX5 19 5 5 := ⟨_, rfl, by decide, "PathListsModel", Or.inl rfl, Or.inl (px_mem 899 (by decide +kernel) rfl)⟩
theorem G_RX5_19 : ∃ q : vw_C, px_cl[5]? = some q ∧ 5 < q.2.2 ∧ (q.2.1 5).2.2.2 = true ∧ (q.2.1 5).1 = RX5 ∧ Cond.fieldLink RX5 19 (q.2.1 5).1 (q.2.1 5).2.1 (q.2.1 5).2.2.1 ∈ px_T := ⟨_, rfl, by decide, rfl, rfl, px_mem 899 (by decide +kernel) rfl⟩
theorem F_RX5_96 : px_fl RX5 96 5 6 := ⟨_, rfl, by decide, "PathListsModel", Or.inl rfl, Or.inl (px_mem 900 (by decide +kernel) rfl)⟩
theorem F_RX5_23 : px_fl RX5 23 5 7 := ⟨_, rfl, by decide, "PathListsModel", Or.inl rfl, Or.inl (px_mem 901 (by decide +kernel) rfl)⟩
theorem G_RX5_23 : ∃ q : vw_C, px_cl[5]? = some q ∧ 7 < q.2.2 ∧ (q.2.1 7).2.2.2 = true ∧ (q.2.1 7).1 = RX5 ∧ Cond.fieldLink RX5 23 (q.2.1 7).1 (q.2.1 7).2.1 (q.2.1 7).2.2.1 ∈ px_T := ⟨_, rfl, by decide, rfl, rfl, px_mem 901 (by decide +kernel) rfl⟩
theorem F_RX5_26 : px_fl RX5 26 5 8 := ⟨_, rfl, by decide, "PathListsModel", Or.inl rfl, Or.inl (px_mem 902 (by decide +kernel) rfl)⟩
theorem G_RX5_26 : ∃ q : vw_C, px_cl[5]? = some q ∧ 8 < q.2.2 ∧ (q.2.1 8).2.2.2 = true ∧ (q.2.1 8).1 = RX5 ∧ Cond.fieldLink RX5 26 (q.2.1 8).1 (q.2.1 8).2.1 (q.2.1 8).2.2.1 ∈ px_T := ⟨_, rfl, by decide, rfl, rfl, px_mem 902 (by decide +kernel) rfl⟩
theorem F_RX5_116 : px_fl RX5 116 5 9 := ⟨_, rfl, by decide, "PathListsModel", Or.inl rfl, Or.inl (px_mem 903 (by decide +kernel) rfl)⟩
theorem F_RX5_29 : px_fl RX5 29 5 10 := ⟨_, rfl, by decide, "PathListsModel", Or.inl rfl, Or.inl (px_mem 904 (by decide +kernel) rfl)⟩
theorem G_RX5_29 : ∃ q : vw_C, px_cl[5]? = some q ∧ 10 < q.2.2 ∧ (q.2.1 10).2.2.2 = true ∧ (q.2.1 10).1 = RX5 ∧ Cond.fieldLink RX5 29 (q.2.1 10).1 (q.2.1 10).2.1 (q.2.1 10).2.2.1 ∈ px_T := ⟨_, rfl, by decide, rfl, rfl, px_mem 904 (by decide +kernel) rfl⟩
theorem F_RX5_32 : px_fl RX5 32 5 11 := ⟨_, rfl, by decide, "PathListsModel", Or.inl rfl, Or.inl (px_mem 905 (by decide +kernel) rfl)⟩
theorem G_RX5_32 : ∃ q : vw_C, px_cl[5]? = some q ∧ 11 < q.2.2 ∧ (q.2.1 11).2.2.2 = true ∧ (q.2.1 11).1 = RX5 ∧ Cond.fieldLink RX5 32 (q.2.1 11).1 (q.2.1 11).2.1 (q.2.1 11).2.2.1 ∈ px_T := ⟨_, rfl, by decide, rfl, rfl, px_mem 905 (by decide +kernel) rfl⟩
theorem F_RX5_35 : px_fl RX5 35 5 12 := ⟨_, rfl, by decide, "PathListsModel", Or.inl rfl, Or.inl (px_mem 906 (by decide +kernel) rfl)⟩
theorem G_RX5_35 : ∃ q : vw_C, px_cl[5]? = some q ∧ 12 < q.2.2 ∧ (q.2.1 12).2.2.2 = true ∧ (q.2.1 12).1 = RX5 ∧ Cond.fieldLink RX5 35 (q.2.1 12).1 (q.2.1 12).2.1 (q.2.1 12).2.2.1 ∈ px_T := ⟨_, rfl, by decide, rfl, rfl, px_mem 906 (by decide +kernel) rfl⟩
theorem F_RX5_111 : px_fl RX5 111 5 13 := ⟨_, rfl, by decide, "PathListsModel", Or.inl rfl, Or.inl (px_mem 907 (by decide +kernel) rfl)⟩
theorem F_RX5_38 : px_fl RX5 38 5 14 := ⟨_, rfl, by decide, "PathListsModel", Or.inl rfl, Or.inl (px_mem 908 (by decide +kernel) rfl)⟩
theorem G_RX5_38 : ∃ q : vw_C, px_cl[5]? = some q ∧ 14 < q.2.2 ∧ (q.2.1 14).2.2.2 = true ∧ (q.2.1 14).1 = RX5 ∧ Cond.fieldLink RX5 38 (q.2.1 14).1 (q.2.1 14).2.1 (q.2.1 14).2.2.1 ∈ px_T := ⟨_, rfl, by decide, rfl, rfl, px_mem 908 (by decide +kernel) rfl⟩
theorem F_RX5_41 : px_fl RX5 41 5 15 := ⟨_, rfl, by decide, "PathListsModel", Or.inl rfl, Or.inl (px_mem 909 (by decide +kernel) rfl)⟩
theorem G_RX5_41 : ∃ q : vw_C, px_cl[5]? = some q ∧ 15 < q.2.2 ∧ (q.2.1 15).2.2.2 = true ∧ (q.2.1 15).1 = RX5 ∧ Cond.fieldLink RX5 41 (q.2.1 15).1 (q.2.1 15).2.1 (q.2.1 15).2.2.1 ∈ px_T := ⟨_, rfl, by decide, rfl, rfl, px_mem 909 (by decide +kernel) rfl⟩
theorem F_RX5_44 : px_fl RX5 44 5 16 := ⟨_, rfl, by decide, "PathListsModel", Or.inl rfl, Or.inl (px_mem 910 (by decide +kernel) rfl)⟩
theorem G_RX5_44 : ∃ q : vw_C, px_cl[5]? = some q ∧ 16 < q.2.2 ∧ (q.2.1 16).2.2.2 = true ∧ (q.2.1 16).1 = RX5 ∧ Cond.fieldLink RX5 44 (q.2.1 16).1 (q.2.1 16).2.1 (q.2.1 16).2.2.1 ∈ px_T := ⟨_, rfl, by decide, rfl, rfl, px_mem 910 (by decide +kernel) rfl⟩
theorem F_RX5_173 : px_fl RX5 173 5 17 := ⟨_, rfl, by decide, "PathListsModel", Or.inl rfl, Or.inl (px_mem 911 (by decide +kernel) rfl)⟩
theorem F_RX5_47 : px_fl RX5 47 5 18 := ⟨_, rfl, by decide, "PathListsModel", Or.inl rfl, Or.inl (px_mem 912 (by decide +kernel) rfl)⟩
theorem G_RX5_47 : ∃ q : vw_C, px_cl[5]? = some q ∧ 18 < q.2.2 ∧ (q.2.1 18).2.2.2 = true ∧ (q.2.1 18).1 = RX5 ∧ Cond.fieldLink RX5 47 (q.2.1 18).1 (q.2.1 18).2.1 (q.2.1 18).2.2.1 ∈ px_T := ⟨_, rfl, by decide, rfl, rfl, px_mem 912 (by decide +kernel) rfl⟩
theorem F_RX5_50 : px_fl RX5 50 5 19 := ⟨_, rfl, by decide, "PathListsModel", Or.inl rfl, Or.inl (px_mem 913 (by decide +kernel) rfl)⟩
theorem G_RX5_50 : ∃ q : vw_C, px_cl[5]? = some q ∧ 19 < q.2.2 ∧ (q.2.1 19).2.2.2 = true ∧ (q.2.1 19).1 = RX5 ∧ Cond.fieldLink RX5 50 (q.2.1 19).1 (q.2.1 19).2.1 (q.2.1 19).2.2.1 ∈ px_T := ⟨_, rfl, by decide, rfl, rfl, px_mem 913 (by decide +kernel) rfl⟩
theorem F_RX5_53 : px_fl RX5 53 5 20 := ⟨_, rfl, by decide, "PathListsModel", Or.inl rfl, Or.inl (px_mem 914 (by decide +kernel) rfl)⟩
theorem G_RX5_53 : ∃ q : vw_C, px_cl[5]? = some q ∧ 20 < q.2.2 ∧ (q.2.1 20).2.2.2 = true ∧ (q.2.1 20).1 = RX5 ∧ Cond.fieldLink RX5 53 (q.2.1 20).1 (q.2.1 20).2.1 (q.2.1 20).2.2.1 ∈ px_T := ⟨_, rfl, by decide, rfl, rfl, px_mem 914 (by decide +kernel) rfl⟩
theorem F_RX5_56 : px_fl RX5 56 5 21 := ⟨_, rfl, by decide, "PathListsModel", Or.inl rfl, Or.inl (px_mem 915 (by decide +kernel) rfl)⟩
theorem G_RX5_56 : ∃ q : vw_C, px_cl[5]? = some q ∧ 21 < q.2.2 ∧ (q.2.1 21).2.2.2 = true ∧ (q.2.1 21).1 = RX5 ∧ Cond.fieldLink RX5 56 (q.2.1 21).1 (q.2.1 21).2.1 (q.2.1 21).2.2.1 ∈ px_T := ⟨_, rfl, by decide, rfl, rfl, px_mem 915 (by decide +kernel) rfl⟩
theorem F_RX5_59 : px_fl RX5 59 5 22 := ⟨_, rfl, by decide, "PathListsModel", Or.inl rfl, Or.inl (px_mem 916 (by decide +kernel) rfl)⟩
theorem G_RX5_59 : ∃ q : vw_C, px_cl[5]? = some q ∧ 22 < q.2.2 ∧ (q.2.1 22).2.2.2 = true ∧ (q.2.1 22).1 = RX5 ∧ Cond.fieldLink RX5 59 (q.2.1 22).1 (q.2.1 22).2.1 (q.2.1 22).2.2.1 ∈ px_T := ⟨_, rfl, by decide, rfl, rfl, px_mem 916 (by decide +kernel) rfl⟩
theorem F_RX5_62 : px_fl RX5 62 5 23 := ⟨_, rfl, by decide, "PathListsModel", Or.inl rfl, Or.inl (px_mem 917 (by decide +kernel) rfl)⟩
theorem G_RX5_62 : ∃ q : vw_C, px_cl[5]? = some q ∧ 23 < q.2.2 ∧ (q.2.1 23).2.2.2 = true ∧ (q.2.1 23).1 = RX5 ∧ Cond.fieldLink RX5 62 (q.2.1 23).1 (q.2.1 23).2.1 (q.2.1 23).2.2.1 ∈ px_T := ⟨_, rfl, by decide, rfl, rfl, px_mem 917 (by decide +kernel) rfl⟩
theorem F_RX5_145 : px_fl RX5 145 5 24 := ⟨_, rfl, by decide, "PathListsModel", Or.inl rfl, Or.inl (px_mem 918 (by decide +kernel) rfl)⟩
theorem F_RX5_92 : px_fl RX5 92 5 25 := ⟨_, rfl, by decide, "PathListsModel", Or.inl rfl, Or.inl (px_mem 919 (by decide +kernel) rfl)⟩
theorem F_RX5_65 : px_fl RX5 65 5 26 := ⟨_, rfl, by decide, "PathListsModel", Or.inl rfl, Or.inl (px_mem 920 (by decide +kernel) rfl)⟩
theorem G_RX5_65 : ∃ q : vw_C, px_cl[5]? = some q ∧ 26 < q.2.2 ∧ (q.2.1 26).2.2.2 = true ∧ (q.2.1 26).1 = RX5 ∧ Cond.fieldLink RX5 65 (q.2.1 26).1 (q.2.1 26).2.1 (q.2.1 26).2.2.1 ∈ px_T := ⟨_, rfl, by decide, rfl, rfl, px_mem 920 (by decide +kernel) rfl⟩
theorem F_RX5_69 : px_fl RX5 69 5 27 := ⟨_, rfl, by decide, "PathListsModel", Or.inl rfl, Or.inl (px_mem 921 (by decide +kernel) rfl)⟩
theorem G_RX5_69 : ∃ q : vw_C, px_cl[5]? = some q ∧ 27 < q.2.2 ∧ (q.2.1 27).2.2.2 = true ∧ (q.2.1 27).1 = RX5 ∧ Cond.fieldLink RX5 69 (q.2.1 27).1 (q.2.1 27).2.1 (q.2.1 27).2.2.1 ∈ px_T := ⟨_, rfl, by decide, rfl, rfl, px_mem 921 (by decide +kernel) rfl⟩
theorem F_RX5_72 : px_fl RX5 72 5 28 := ⟨_, rfl, by decide, "PathListsModel", Or.inl rfl, Or.inl (px_mem 922 (by decide +kernel) rfl)⟩
theorem G_RX5_72 : ∃ q : vw_C, px_cl[5]? = some q ∧ 28 < q.2.2 ∧ (q.2.1 28).2.2.2 = true ∧ (q.2.1 28).1 = RX5 ∧ Cond.fieldLink RX5 72 (q.2.1 28).1 (q.2.1 28).2.1 (q.2.1 28).2.2.1 ∈ px_T := ⟨_, rfl, by decide, rfl, rfl, px_mem 922 (by decide +kernel) rfl⟩
theorem F_RX5_75 : px_fl RX5 75 5 29 := ⟨_, rfl, by decide, "PathListsModel", Or.inl rfl, Or.inl (px_mem 923 (by decide +kernel) rfl)⟩
theorem G_RX5_75 : ∃ q : vw_C, px_cl[5]? = some q ∧ 29 < q.2.2 ∧ (q.2.1 29).2.2.2 = true ∧ (q.2.1 29).1 = RX5 ∧ Cond.fieldLink RX5 75 (q.2.1 29).1 (q.2.1 29).2.1 (q.2.1 29).2.2.1 ∈ px_T := ⟨_, rfl, by decide, rfl, rfl, px_mem 923 (by decide +kernel) rfl⟩
theorem F_RX5_78 : px_fl RX5 78 5 30 := ⟨_, rfl, by decide, "PathListsModel", Or.inl rfl, Or.inl (px_mem 924 (by decide +kernel) rfl)⟩
theorem G_RX5_78 : ∃ q : vw_C, px_cl[5]? = some q ∧ 30 < q.2.2 ∧ (q.2.1 30).2.2.2 = true ∧ (q.2.1 30).1 = RX5 ∧ Cond.fieldLink RX5 78 (q.2.1 30).1 (q.2.1 30).2.1 (q.2.1 30).2.2.1 ∈ px_T := ⟨_, rfl, by decide, rfl, rfl, px_mem 924 (by decide +kernel) rfl⟩
theorem A_boolean : Cond.arrayClass Jvm.ClassFile.FieldType.boolean ∈ px_T := px_mem 988 (by decide +kernel) rfl
theorem L_RL_77 : px_lkV RL 77 0 mX5_thrown := ⟨⟨px_mem 45 (by decide +kernel) rfl, W_mX5_thrown, ⟨by decide, by decide⟩, by decide +kernel, by decide⟩, rfl, px_mem 989 (by decide +kernel) rfl, px_mem 990 (by decide +kernel) rfl, px_mem 991 (by decide +kernel) rfl⟩
theorem L_RL_76 : px_lkV RL 76 0 mX5_pin := ⟨⟨px_mem 45 (by decide +kernel) rfl, W_mX5_pin, ⟨by decide, by decide⟩, by decide +kernel, by decide⟩, rfl, px_mem 993 (by decide +kernel) rfl, px_mem 994 (by decide +kernel) rfl, px_mem 995 (by decide +kernel) rfl⟩
theorem L_RL_85 : px_lkV RL 85 3 mX5_arc := ⟨⟨px_mem 45 (by decide +kernel) rfl, W_mX5_arc, ⟨by decide, by decide⟩, by decide +kernel, by decide⟩, rfl, px_mem 997 (by decide +kernel) rfl, px_mem 998 (by decide +kernel) rfl, px_mem 999 (by decide +kernel) rfl⟩
theorem L_RX5_99 : px_lkV RX5 99 1 mX5_isPin := ⟨⟨px_mem 45 (by decide +kernel) rfl, W_mX5_isPin, ⟨by decide, by decide⟩, by decide +kernel, by decide⟩, rfl, px_mem 1001 (by decide +kernel) rfl, px_mem 1003 (by decide +kernel) rfl, px_mem 22 (by decide +kernel) rfl⟩
theorem L_RX5_103 : px_lkS RX5 103 2 mX5_isTime := ⟨⟨px_mem 45 (by decide +kernel) rfl, W_mX5_isTime, ⟨by decide, by decide⟩, by decide +kernel, by decide⟩, rfl, px_mem 1005 (by decide +kernel) rfl, px_mem 1006 (by decide +kernel) rfl⟩
theorem D_RX5_88 : Cond.constantDouble RX5 88 4620693217682128896 ∈ px_T := px_mem 1008 (by decide +kernel) rfl
theorem D_RX5_90 : Cond.constantDouble RX5 90 4697254411347427328 ∈ px_T := px_mem 1009 (by decide +kernel) rfl
theorem L_RX5_107 : px_lkV RX5 107 2 mX5_spread := ⟨⟨px_mem 45 (by decide +kernel) rfl, W_mX5_spread, ⟨by decide, by decide⟩, by decide +kernel, by decide⟩, rfl, px_mem 1010 (by decide +kernel) rfl, px_mem 1012 (by decide +kernel) rfl, px_mem 23 (by decide +kernel) rfl⟩
theorem L_RL_89 : px_lkV RL 89 2 mX5_end := ⟨⟨px_mem 45 (by decide +kernel) rfl, W_mX5_end, ⟨by decide, by decide⟩, by decide +kernel, by decide⟩, rfl, px_mem 1014 (by decide +kernel) rfl, px_mem 1015 (by decide +kernel) rfl, px_mem 1016 (by decide +kernel) rfl⟩
theorem D_RX5_114 : Cond.constantDouble RX5 114 13920626448202203136 ∈ px_T := px_mem 1018 (by decide +kernel) rfl
theorem L_RL_92 : px_lkV RL 92 2 mX5_start := ⟨⟨px_mem 45 (by decide +kernel) rfl, W_mX5_start, ⟨by decide, by decide⟩, by decide +kernel, by decide⟩, rfl, px_mem 1019 (by decide +kernel) rfl, px_mem 1020 (by decide +kernel) rfl, px_mem 1021 (by decide +kernel) rfl⟩
theorem L_RL_96 : px_lkV RL 96 2 mX5_through := ⟨⟨px_mem 45 (by decide +kernel) rfl, W_mX5_through, ⟨by decide, by decide⟩, by decide +kernel, by decide⟩, rfl, px_mem 1023 (by decide +kernel) rfl, px_mem 1024 (by decide +kernel) rfl, px_mem 1025 (by decide +kernel) rfl⟩
theorem L_RL_110 : px_lkV RL 110 2 mX5_group := ⟨⟨px_mem 45 (by decide +kernel) rfl, W_mX5_group, ⟨by decide, by decide⟩, by decide +kernel, by decide⟩, rfl, px_mem 1027 (by decide +kernel) rfl, px_mem 1028 (by decide +kernel) rfl, px_mem 1029 (by decide +kernel) rfl⟩
theorem L_RL_100 : px_lkV RL 100 1 mX5_run := ⟨⟨px_mem 45 (by decide +kernel) rfl, W_mX5_run, ⟨by decide, by decide⟩, by decide +kernel, by decide⟩, rfl, px_mem 1031 (by decide +kernel) rfl, px_mem 1032 (by decide +kernel) rfl, px_mem 1033 (by decide +kernel) rfl⟩
theorem L_RX5_152 : px_lkV RX5 152 1 mX5_gather := ⟨⟨px_mem 45 (by decide +kernel) rfl, W_mX5_gather, ⟨by decide, by decide⟩, by decide +kernel, by decide⟩, rfl, px_mem 1035 (by decide +kernel) rfl, px_mem 1037 (by decide +kernel) rfl, px_mem 24 (by decide +kernel) rfl⟩
theorem L_RX5_131 : px_lkV RX5 131 0 mX5_arrange := ⟨⟨px_mem 45 (by decide +kernel) rfl, W_mX5_arrange, ⟨by decide, by decide⟩, by decide +kernel, by decide⟩, rfl, px_mem 1039 (by decide +kernel) rfl, px_mem 1041 (by decide +kernel) rfl, px_mem 25 (by decide +kernel) rfl⟩
theorem L_RX5_134 : px_lkV RX5 134 2 mX5_met := ⟨⟨px_mem 45 (by decide +kernel) rfl, W_mX5_met, ⟨by decide, by decide⟩, by decide +kernel, by decide⟩, rfl, px_mem 1043 (by decide +kernel) rfl, px_mem 1045 (by decide +kernel) rfl, px_mem 26 (by decide +kernel) rfl⟩
theorem L_RX5_137 : px_lkV RX5 137 5 mX5_come := ⟨⟨px_mem 45 (by decide +kernel) rfl, W_mX5_come, ⟨by decide, by decide⟩, by decide +kernel, by decide⟩, rfl, px_mem 1047 (by decide +kernel) rfl, px_mem 1049 (by decide +kernel) rfl, px_mem 27 (by decide +kernel) rfl⟩
theorem L_RX5_127 : px_lkV RX5 127 2 mX5_compareRows := ⟨⟨px_mem 45 (by decide +kernel) rfl, W_mX5_compareRows, ⟨by decide, by decide⟩, by decide +kernel, by decide⟩, rfl, px_mem 1051 (by decide +kernel) rfl, px_mem 1053 (by decide +kernel) rfl, px_mem 28 (by decide +kernel) rfl⟩
theorem L_RX5_119 : px_lkV RX5 119 1 mX5_startOf := ⟨⟨px_mem 45 (by decide +kernel) rfl, W_mX5_startOf, ⟨by decide, by decide⟩, by decide +kernel, by decide⟩, rfl, px_mem 1055 (by decide +kernel) rfl, px_mem 1057 (by decide +kernel) rfl, px_mem 29 (by decide +kernel) rfl⟩
theorem L_RX5_123 : px_lkV RX5 123 2 mX5_unroll := ⟨⟨px_mem 45 (by decide +kernel) rfl, W_mX5_unroll, ⟨by decide, by decide⟩, by decide +kernel, by decide⟩, rfl, px_mem 1059 (by decide +kernel) rfl, px_mem 1061 (by decide +kernel) rfl, px_mem 30 (by decide +kernel) rfl⟩
theorem L_RX5_156 : px_lkV RX5 156 4 mX5_enlist := ⟨⟨px_mem 45 (by decide +kernel) rfl, W_mX5_enlist, ⟨by decide, by decide⟩, by decide +kernel, by decide⟩, rfl, px_mem 1063 (by decide +kernel) rfl, px_mem 1065 (by decide +kernel) rfl, px_mem 31 (by decide +kernel) rfl⟩
theorem L_RX5_148 : px_lkV RX5 148 2 mX5_isBefore := ⟨⟨px_mem 45 (by decide +kernel) rfl, W_mX5_isBefore, ⟨by decide, by decide⟩, by decide +kernel, by decide⟩, rfl, px_mem 1067 (by decide +kernel) rfl, px_mem 1069 (by decide +kernel) rfl, px_mem 32 (by decide +kernel) rfl⟩
theorem L_RX5_141 : px_lkV RX5 141 1 mX5_slackOf := ⟨⟨px_mem 45 (by decide +kernel) rfl, W_mX5_slackOf, ⟨by decide, by decide⟩, by decide +kernel, by decide⟩, rfl, px_mem 1071 (by decide +kernel) rfl, px_mem 1073 (by decide +kernel) rfl, px_mem 33 (by decide +kernel) rfl⟩
theorem L_RL_104 : px_lkV RL 104 1 mX5_slack := ⟨⟨px_mem 45 (by decide +kernel) rfl, W_mX5_slack, ⟨by decide, by decide⟩, by decide +kernel, by decide⟩, rfl, px_mem 1075 (by decide +kernel) rfl, px_mem 1076 (by decide +kernel) rfl, px_mem 1077 (by decide +kernel) rfl⟩
theorem L_RX5_160 : px_lkV RX5 160 1 mX5_faultOf := ⟨⟨px_mem 45 (by decide +kernel) rfl, W_mX5_faultOf, ⟨by decide, by decide⟩, by decide +kernel, by decide⟩, rfl, px_mem 1079 (by decide +kernel) rfl, px_mem 1081 (by decide +kernel) rfl, px_mem 34 (by decide +kernel) rfl⟩
theorem L_RL_107 : px_lkV RL 107 2 mX5_at := ⟨⟨px_mem 45 (by decide +kernel) rfl, W_mX5_at, ⟨by decide, by decide⟩, by decide +kernel, by decide⟩, rfl, px_mem 1083 (by decide +kernel) rfl, px_mem 1084 (by decide +kernel) rfl, px_mem 1085 (by decide +kernel) rfl⟩
theorem L_RL_124 : px_lkV RL 124 2 mX5_budget := ⟨⟨px_mem 45 (by decide +kernel) rfl, W_mX5_budget, ⟨by decide, by decide⟩, by decide +kernel, by decide⟩, rfl, px_mem 1087 (by decide +kernel) rfl, px_mem 1088 (by decide +kernel) rfl, px_mem 1089 (by decide +kernel) rfl⟩
theorem L_RL_113 : px_lkV RL 113 1 mX5_model := ⟨⟨px_mem 45 (by decide +kernel) rfl, W_mX5_model, ⟨by decide, by decide⟩, by decide +kernel, by decide⟩, rfl, px_mem 1091 (by decide +kernel) rfl, px_mem 1092 (by decide +kernel) rfl, px_mem 1093 (by decide +kernel) rfl⟩
theorem L_RX5_167 : px_lkV RX5 167 3 mX5_isReduced := ⟨⟨px_mem 45 (by decide +kernel) rfl, W_mX5_isReduced, ⟨by decide, by decide⟩, by decide +kernel, by decide⟩, rfl, px_mem 1095 (by decide +kernel) rfl, px_mem 1097 (by decide +kernel) rfl, px_mem 35 (by decide +kernel) rfl⟩
theorem L_RX5_163 : px_lkV RX5 163 2 mX5_isEdge := ⟨⟨px_mem 45 (by decide +kernel) rfl, W_mX5_isEdge, ⟨by decide, by decide⟩, by decide +kernel, by decide⟩, rfl, px_mem 1099 (by decide +kernel) rfl, px_mem 1101 (by decide +kernel) rfl, px_mem 36 (by decide +kernel) rfl⟩
theorem L_RL_120 : px_lkV RL 120 3 mX5_reduced := ⟨⟨px_mem 45 (by decide +kernel) rfl, W_mX5_reduced, ⟨by decide, by decide⟩, by decide +kernel, by decide⟩, rfl, px_mem 1103 (by decide +kernel) rfl, px_mem 1104 (by decide +kernel) rfl, px_mem 1105 (by decide +kernel) rfl⟩
theorem D_RX5_171 : Cond.constantDouble RX5 171 13830554455654793216 ∈ px_T := px_mem 1107 (by decide +kernel) rfl
theorem L_RL_116 : px_lkV RL 116 2 mX5_into := ⟨⟨px_mem 45 (by decide +kernel) rfl, W_mX5_into, ⟨by decide, by decide⟩, by decide +kernel, by decide⟩, rfl, px_mem 1108 (by decide +kernel) rfl, px_mem 1109 (by decide +kernel) rfl, px_mem 1110 (by decide +kernel) rfl⟩
theorem L_RL_127 : px_lkV RL 127 2 mX5_whatIf := ⟨⟨px_mem 45 (by decide +kernel) rfl, W_mX5_whatIf, ⟨by decide, by decide⟩, by decide +kernel, by decide⟩, rfl, px_mem 1112 (by decide +kernel) rfl, px_mem 1113 (by decide +kernel) rfl, px_mem 1114 (by decide +kernel) rfl⟩
theorem L_RL_132 : px_lkV RL 132 0 mX5_back := ⟨⟨px_mem 45 (by decide +kernel) rfl, W_mX5_back, ⟨by decide, by decide⟩, by decide +kernel, by decide⟩, rfl, px_mem 1116 (by decide +kernel) rfl, px_mem 1117 (by decide +kernel) rfl, px_mem 1118 (by decide +kernel) rfl⟩
theorem D_RL_80 : Cond.constantDouble RL 80 4593671619917905920 ∈ px_T := px_mem 1120 (by decide +kernel) rfl
theorem A_long : Cond.arrayClass Jvm.ClassFile.FieldType.long ∈ px_T := px_mem 1121 (by decide +kernel) rfl
theorem N_RX0 : Cond.instantiable RX0 2 ∈ px_T := px_mem 874 (by decide +kernel) rfl
theorem Z_RX0 : Cond.initialized RX0 ∈ px_T := px_mem 65 (by decide +kernel) rfl
theorem N_RX1 : Cond.instantiable RX1 7 ∈ px_T := px_mem 101 (by decide +kernel) rfl
theorem Z_RX1 : Cond.initialized RX1 ∈ px_T := px_mem 42 (by decide +kernel) rfl
theorem N_RX2 : Cond.instantiable RX2 6 ∈ px_T := px_mem 691 (by decide +kernel) rfl
theorem Z_RX2 : Cond.initialized RX2 ∈ px_T := px_mem 64 (by decide +kernel) rfl
theorem N_RX3 : Cond.instantiable RX3 5 ∈ px_T := px_mem 110 (by decide +kernel) rfl
theorem Z_RX3 : Cond.initialized RX3 ∈ px_T := px_mem 43 (by decide +kernel) rfl
theorem N_RX4 : Cond.instantiable RX4 11 ∈ px_T := px_mem 67 (by decide +kernel) rfl
theorem Z_RX4 : Cond.initialized RX4 ∈ px_T := px_mem 38 (by decide +kernel) rfl
theorem N_RX5 : Cond.instantiable RX5 31 ∈ px_T := px_mem 889 (by decide +kernel) rfl
theorem Z_RX5 : Cond.initialized RX5 ∈ px_T := px_mem 45 (by decide +kernel) rfl
theorem N_RJx4a65c : Cond.instantiable RJx4a65c 3 ∈ px_T := px_mem 75 (by decide +kernel) rfl
theorem Z_RJx4a65c : Cond.initialized RJx4a65c ∈ px_T := px_mem 41 (by decide +kernel) rfl
theorem nf_1_3 : px_nf 1 3 := fun q h => by cases h; rfl
theorem nf_1_4 : px_nf 1 4 := fun q h => by cases h; rfl
theorem nf_1_5 : px_nf 1 5 := fun q h => by cases h; rfl
theorem nf_1_6 : px_nf 1 6 := fun q h => by cases h; rfl
theorem nf_2_3 : px_nf 2 3 := fun q h => by cases h; rfl
theorem nf_2_4 : px_nf 2 4 := fun q h => by cases h; rfl
theorem nf_2_5 : px_nf 2 5 := fun q h => by cases h; rfl
theorem nf_3_4 : px_nf 3 4 := fun q h => by cases h; rfl
theorem nf_4_10 : px_nf 4 10 := fun q h => by cases h; rfl
theorem nf_5_0 : px_nf 5 0 := fun q h => by cases h; rfl
theorem nf_5_1 : px_nf 5 1 := fun q h => by cases h; rfl
theorem nf_5_6 : px_nf 5 6 := fun q h => by cases h; rfl
theorem nf_5_9 : px_nf 5 9 := fun q h => by cases h; rfl
theorem nf_5_13 : px_nf 5 13 := fun q h => by cases h; rfl
theorem nf_5_17 : px_nf 5 17 := fun q h => by cases h; rfl
theorem nf_5_24 : px_nf 5 24 := fun q h => by cases h; rfl
theorem nf_5_25 : px_nf 5 25 := fun q h => by cases h; rfl
theorem nf_6_0 : px_nf 6 0 := fun q h => by cases h; rfl
theorem nf_6_1 : px_nf 6 1 := fun q h => by cases h; rfl
theorem nf_6_2 : px_nf 6 2 := fun q h => by cases h; rfl
